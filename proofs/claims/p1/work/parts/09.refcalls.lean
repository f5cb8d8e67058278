theorem dX12_feed_0 : decode cX12_feed 0 = .ok (.iload_n 3, 1) := by decide +kernel
theorem dX12_feed_1 : decode cX12_feed 1 = .ok (.iconst 1, 1) := by decide +kernel
theorem dX12_feed_2 : decode cX12_feed 2 = .ok (.if_icmp .lt 9, 3) := by decide +kernel
theorem dX12_feed_5 : decode cX12_feed 5 = .ok (.iload_n 3, 1) := by decide +kernel
theorem dX12_feed_6 : decode cX12_feed 6 = .ok (.bipush 8, 2) := by decide +kernel
theorem dX12_feed_8 : decode cX12_feed 8 = .ok (.if_icmp .le 6, 3) := by decide +kernel
theorem dX12_feed_11 : decode cX12_feed 11 = .ok (.bipush (-3), 2) := by decide +kernel
theorem dX12_feed_13 : decode cX12_feed 13 = .ok (.ireturn, 1) := by decide +kernel
theorem dX12_feed_14 : decode cX12_feed 14 = .ok (.aload_n 0, 1) := by decide +kernel
theorem dX12_feed_15 : decode cX12_feed 15 = .ok (.getfield 124, 3) := by decide +kernel
theorem dX12_feed_18 : decode cX12_feed 18 = .ok (.iload_n 3, 1) := by decide +kernel
theorem dX12_feed_19 : decode cX12_feed 19 = .ok (.iadd, 1) := by decide +kernel
theorem dX12_feed_20 : decode cX12_feed 20 = .ok (.sipush 6000, 3) := by decide +kernel
theorem dX12_feed_23 : decode cX12_feed 23 = .ok (.if_icmp .le 6, 3) := by decide +kernel
theorem dX12_feed_26 : decode cX12_feed 26 = .ok (.bipush (-4), 2) := by decide +kernel
theorem dX12_feed_28 : decode cX12_feed 28 = .ok (.ireturn, 1) := by decide +kernel
theorem dX12_feed_29 : decode cX12_feed 29 = .ok (.iload_n 3, 1) := by decide +kernel
theorem dX12_feed_30 : decode cX12_feed 30 = .ok (.iconst 1, 1) := by decide +kernel
theorem dX12_feed_31 : decode cX12_feed 31 = .ok (.isub, 1) := by decide +kernel
theorem dX12_feed_32 : decode cX12_feed 32 = .ok (.istore 4, 2) := by decide +kernel
theorem dX12_feed_34 : decode cX12_feed 34 = .ok (.iload 4, 2) := by decide +kernel
theorem dX12_feed_36 : decode cX12_feed 36 = .ok (.ifCond .lt 40, 3) := by decide +kernel
theorem dX12_feed_39 : decode cX12_feed 39 = .ok (.aload_n 0, 1) := by decide +kernel
theorem dX12_feed_40 : decode cX12_feed 40 = .ok (.getfield 13, 3) := by decide +kernel
theorem dX12_feed_43 : decode cX12_feed 43 = .ok (.aload_n 0, 1) := by decide +kernel
theorem dX12_feed_44 : decode cX12_feed 44 = .ok (.getfield 124, 3) := by decide +kernel
theorem dX12_feed_47 : decode cX12_feed 47 = .ok (.lload_n 1, 1) := by decide +kernel
theorem dX12_feed_48 : decode cX12_feed 48 = .ok (.bipush 8, 2) := by decide +kernel
theorem dX12_feed_50 : decode cX12_feed 50 = .ok (.iload 4, 2) := by decide +kernel
theorem dX12_feed_52 : decode cX12_feed 52 = .ok (.imul, 1) := by decide +kernel
theorem dX12_feed_53 : decode cX12_feed 53 = .ok (.lushr, 1) := by decide +kernel
theorem dX12_feed_54 : decode cX12_feed 54 = .ok (.l2i, 1) := by decide +kernel
theorem dX12_feed_55 : decode cX12_feed 55 = .ok (.sipush 255, 3) := by decide +kernel
theorem dX12_feed_58 : decode cX12_feed 58 = .ok (.iand, 1) := by decide +kernel
theorem dX12_feed_59 : decode cX12_feed 59 = .ok (.iastore, 1) := by decide +kernel
theorem dX12_feed_60 : decode cX12_feed 60 = .ok (.aload_n 0, 1) := by decide +kernel
theorem dX12_feed_61 : decode cX12_feed 61 = .ok (.dup, 1) := by decide +kernel
theorem dX12_feed_62 : decode cX12_feed 62 = .ok (.getfield 124, 3) := by decide +kernel
theorem dX12_feed_65 : decode cX12_feed 65 = .ok (.iconst 1, 1) := by decide +kernel
theorem dX12_feed_66 : decode cX12_feed 66 = .ok (.iadd, 1) := by decide +kernel
theorem dX12_feed_67 : decode cX12_feed 67 = .ok (.putfield 124, 3) := by decide +kernel
theorem dX12_feed_70 : decode cX12_feed 70 = .ok (.iinc 4 (-1), 3) := by decide +kernel
theorem dX12_feed_73 : decode cX12_feed 73 = .ok (.goto (-39), 3) := by decide +kernel
theorem dX12_feed_76 : decode cX12_feed 76 = .ok (.aload_n 0, 1) := by decide +kernel
theorem dX12_feed_77 : decode cX12_feed 77 = .ok (.getfield 124, 3) := by decide +kernel
theorem dX12_feed_80 : decode cX12_feed 80 = .ok (.ireturn, 1) := by decide +kernel
abbrev wcX12_feed : List Cond := .code yX12_feed cX12_feed 5 (some .int) :: wsL_law
def lX12_feed_34 : Nat → Nat → Int64 → Int32 → hs_S → Option (hs_S)
  | 0, _, _, _, _ => none
  | n + 1, v0, v1, v4, g =>
    if v4 < 0 then (
      some g
    ) else (
      if hs_kd g v0 = 10 then
      if ¬ (hs_R g v0 1) = 0 then
      if hs_kd g ((hs_R g v0 1) - 1) = 100 then
      if hs_in (hs_I g v0 2) (hs_ln g ((hs_R g v0 1) - 1)) = true then
      hs_bv (some (hs_wI g ((hs_R g v0 1) - 1) (hs_I g v0 2).toNatClampNeg ((((v1.toUInt64 >>> (((8 : Int32) * v4).toInt64.toUInt64 &&& Int64.toUInt64 63)).toInt64).toInt32) &&& (255 : Int32)))) fun g6 =>
      lX12_feed_34 n v0 v1 (v4 + (-1 : Int32)) (hs_wI g6 v0 2 ((hs_I g6 v0 2) + (1 : Int32)))
      else none else none else none else none
    )
theorem lX12_feed_34_s (n : Nat) (v0 : Nat) (v1 : Int64) (v4 : Int32) (g : hs_S) : lX12_feed_34 (n + 1) v0 v1 v4 g =
    if v4 < 0 then (
      some g
    ) else (
      if hs_kd g v0 = 10 then
      if ¬ (hs_R g v0 1) = 0 then
      if hs_kd g ((hs_R g v0 1) - 1) = 100 then
      if hs_in (hs_I g v0 2) (hs_ln g ((hs_R g v0 1) - 1)) = true then
      hs_bv (some (hs_wI g ((hs_R g v0 1) - 1) (hs_I g v0 2).toNatClampNeg ((((v1.toUInt64 >>> (((8 : Int32) * v4).toInt64.toUInt64 &&& Int64.toUInt64 63)).toInt64).toInt32) &&& (255 : Int32)))) fun g6 =>
      lX12_feed_34 n v0 v1 (v4 + (-1 : Int32)) (hs_wI g6 v0 2 ((hs_I g6 v0 2) + (1 : Int32)))
      else none else none else none else none
    ) := rfl
def fX12_feed (v0 : Nat) (v1 : Int64) (v3 : Int32) (g : hs_S) : Option (Int32 × hs_S) :=
  if v3 < (1 : Int32) then (
    some ((-3 : Int32), g)
  ) else (
    if v3 ≤ (8 : Int32) then (
      if hs_kd g v0 = 10 then
      if ((hs_I g v0 2) + v3) ≤ (6000 : Int32) then (
        hs_bv (lX12_feed_34 hs_N v0 v1 (v3 - (1 : Int32)) g) fun g12 =>
        if hs_kd g12 v0 = 10 then
        some ((hs_I g12 v0 2), g12)
        else none
      ) else (
        some ((-4 : Int32), g)
      )
      else none
    ) else (
      some ((-3 : Int32), g)
    )
  )
abbrev rmX12_feed : Room := { frames := 0, cells := 0, slots := 0, locals := 0 }
set_option maxHeartbeats 4000000 in
set_option maxRecDepth 100000 in
theorem wX12_feed_34 {p : Program} {l : Launch} {e : Env} {s : State} {m : MethodId} {args : Array Value} {below : List Frame} {meth : Method} {c : Code} {B : Nat} {D : va_G} {E : Nat → ClassId} (hX : hs_cx cX12_feed (some .int) 5 RX12 wcX12_feed p s m args meth c D E) {Q : State → Prop} {o : hs_S} {v0 : Nat} {v1 : Int64} (hex0 : ∀ (H : Heap) (locs : List Loc) (ls : Array Slot), hs_P B D E (o) H → hs_Sx B s.heap H locs → lv_has ls 5 [(0, .ref (B + v0))] → W p l e rmX12_feed s m args below meth c H locs 0 0 Q (F0 m 76 ls [])) : ∀ (n : Nat) (v4 : Int32) (g : hs_S), lX12_feed_34 n v0 v1 v4 g = some o → ∀ (H : Heap) (locs : List Loc) (ls : Array Slot), hs_P B D E g H → hs_Sx B s.heap H locs → lv_has ls 5 [(0, .ref (B + v0)), (1, .long v1), (4, .int v4)] → W p l e rmX12_feed s m args below meth c H locs 0 0 Q (F0 m 34 ls []) := by
  obtain ⟨hx, hb, hr, hml, hown, hts, hlocks, hK⟩ := id hX
  intro n
  induction n with
  | zero =>
    intro v4 g hf
    cases hf
  | succ n ih =>
    intro v4 g hf H locs ls hP hS hl
    replace hf := (lX12_feed_34_s n v0 v1 v4 g).symm.trans hf
    refine lv_iload hx hb dX12_feed_34 (lv_at hl 2 rfl) ?_
    refine lv_if_lt (tgt := 76) hx hb dX12_feed_36 (by decide) (fun hc => ?_) (fun hc => ?_)
    · replace hf := hs_t hf hc
      obtain rfl := Option.some.inj hf
      exact hex0 _ _ _ hP hS (lv_sub hl [0] rfl)
    · replace hf := hs_f hf hc
      refine lv_aload_n hx hb dX12_feed_39 rfl (lv_at hl 0 rfl) ?_
      obtain ⟨h2, hf⟩ := hs_ck hf
      obtain ⟨h3, hf⟩ := hs_ck hf
      refine hs_getr (C := RX12) (T := TX12) (N := 48) hx hb hts (fun w h => List.mem_cons_of_mem _ (inlX12 w h)) hown hK.1 hP h2 (by decide) rfl 1 (by decide) (hts _ (List.mem_cons_of_mem _ wq122)) (fun _ h => h) rfl h3 dX12_feed_40 ?_
      refine lv_aload_n hx hb dX12_feed_43 rfl (lv_at hl 0 rfl) ?_
      refine hs_geti (C := RX12) (T := TX12) (N := 48) hx hb hts (fun w h => List.mem_cons_of_mem _ (inlX12 w h)) hown hK.1 hP h2 (by decide) rfl 2 (by decide) (hts _ (List.mem_cons_of_mem _ wq176)) (fun _ h => h) rfl dX12_feed_44 ?_
      refine lv_lload_n hx hb dX12_feed_47 rfl (lv_at hl 1 rfl) ?_
      refine lv_bipush (v := 8) hx hb dX12_feed_48 (by decide) ?_
      refine lv_iload hx hb dX12_feed_50 (lv_at hl 2 rfl) ?_
      refine lv_imul hx hb dX12_feed_52 ?_
      refine lv_lushr hx hb dX12_feed_53 rfl ?_
      refine lv_l2i hx hb dX12_feed_54 rfl ?_
      refine lv_sipush (v := 255) hx hb dX12_feed_55 (by decide) ?_
      refine lv_iand hx hb dX12_feed_58 ?_
      obtain ⟨h4, hf⟩ := hs_ck hf
      obtain ⟨h5, hf⟩ := hs_ck hf
      refine hs_iast hx hb hK.1 hP hS h4 h5 dX12_feed_59 (fun H locs hP hS => ?_)
      obtain ⟨g6, e7, hf⟩ := hs_bv_some hf
      replace e7 := Option.some.inj e7
      rw [e7] at hP
      have h8 : hs_kd g6 v0 = 10 := by rw [← e7]; exact h2
      have h9 : hs_kd g6 ((hs_R g v0 1) - 1) = 100 := by rw [← e7]; exact h4
      have h10 : hs_in (hs_I g v0 2) (hs_ln g6 ((hs_R g v0 1) - 1)) = true := by rw [← e7]; exact h5
      refine lv_aload_n hx hb dX12_feed_60 rfl (lv_at hl 0 rfl) ?_
      refine lv_dup hx hb dX12_feed_61 rfl ?_
      refine hs_geti (C := RX12) (T := TX12) (N := 48) hx hb hts (fun w h => List.mem_cons_of_mem _ (inlX12 w h)) hown hK.1 hP h8 (by decide) rfl 2 (by decide) (hts _ (List.mem_cons_of_mem _ wq176)) (fun _ h => h) rfl dX12_feed_62 ?_
      refine lv_iconst (v := 1) hx hb dX12_feed_65 (by decide) ?_
      refine lv_iadd hx hb dX12_feed_66 ?_
      refine hs_puti (C := RX12) (T := TX12) (N := 48) hx hb hts (fun w h => List.mem_cons_of_mem _ (inlX12 w h)) tyX12 tyX12_ok nmX12 hown hK.1 hP hS h8 (by decide) rfl 2 (by decide) (hts _ (List.mem_cons_of_mem _ wq176)) (fun _ h => h) (Or.inl rfl) rfl rfl rfl dX12_feed_67 (fun H locs hP hS => ?_)
      refine lv_iinc (v := (v4 + (-1 : Int32))) (lv' := [(4, .int (v4 + (-1 : Int32))), (0, .ref (B + v0)), (1, .long v1)]) hx hb dX12_feed_70 hl (k := 2) rfl (by rfl) (by decide) rfl (fun ls hl => ?_)
      refine lv_goto (tgt := 34) hx hb dX12_feed_73 (by decide) ?_
      exact ih _ _ hf _ _ _ hP hS (lv_sub hl [1, 2, 0] rfl)

set_option maxHeartbeats 4000000 in
set_option maxRecDepth 100000 in
theorem ctX12_feed (l : Launch) (B : Nat) (D : va_G) (E : Nat → ClassId) (v0 : Nat) (v1 : Int64) (v3 : Int32) (g : hs_S) (o : Int32 × hs_S) (hf : fX12_feed v0 v1 v3 g = some o) : Met l yX12_feed wcX12_feed rmX12_feed (hs_Pc B D E g [.ref (B + v0), .long v1, .int v3]) (hs_Qi B D E o) (0) (0) (hs_F B) := by
  refine Met.ofW (cc := cX12_feed) (maxL := 5) (ret := (some .int)) (by decide) rfl ?_
  intro p e s m args below meth c s₁ Bd hml hv
  obtain ⟨rfl, hP, hK⟩ := hv
  have hx := Bd.exec
  have hb := Bd.bytes
  have hr := Bd.returns
  have hts := atoms_spec (ws := wcX12_feed) Bd.pre
  have hown : s.vm.findClass RX12 = some m.cls := findClass_of_methodNamed Bd.named
  have hlocks := Bd.notSynchronized
  have hS : hs_Sx B s.heap s.heap [] := va_S.rf
  have hX : hs_cx cX12_feed (some .int) 5 RX12 wcX12_feed p s m (List.toArray [.ref (B + v0), .long v1, .int v3]) meth c D E := ⟨hx, hb, hr, hml, hown, hts, hlocks, hK⟩
  have hl := lv_entry ([.ref (B + v0), .long v1, .int v3]) (n := 5) (Nat.le_of_ble_eq_true rfl)
  rw [lg_entry_eq]
  generalize (lg_sl ([.ref (B + v0), .long v1, .int v3]) ++ List.replicate (5 - (lg_sl ([.ref (B + v0), .long v1, .int v3])).length) Slot.unset).toArray = ls at hl ⊢
  have hl : lv_has ls 5 [(0, .ref (B + v0)), (1, .long v1), (3, .int v3)] := hl
  have hP : hs_P B D E g s.heap := hP
  unfold fX12_feed at hf
  refine lv_iload_n hx hb dX12_feed_0 rfl (lv_at hl 2 rfl) ?_
  refine lv_iconst (v := 1) hx hb dX12_feed_1 (by decide) ?_
  refine lv_icmp_lt (tgt := 11) hx hb dX12_feed_2 (by decide) (fun hc => ?_) (fun hc => ?_)
  · replace hf := hs_t hf hc
    refine lv_bipush (v := -3) hx hb dX12_feed_11 (by decide) ?_
    exact hs_iret hx hb hr hlocks rfl hK hP hS hf dX12_feed_13
  · replace hf := hs_f hf hc
    refine lv_iload_n hx hb dX12_feed_5 rfl (lv_at hl 2 rfl) ?_
    refine lv_bipush (v := 8) hx hb dX12_feed_6 (by decide) ?_
    refine lv_icmp_le (tgt := 14) hx hb dX12_feed_8 (by decide) (fun hc => ?_) (fun hc => ?_)
    · replace hf := hs_t hf hc
      refine lv_aload_n hx hb dX12_feed_14 rfl (lv_at hl 0 rfl) ?_
      obtain ⟨h1, hf⟩ := hs_ck hf
      refine hs_geti (C := RX12) (T := TX12) (N := 48) hx hb hts (fun w h => List.mem_cons_of_mem _ (inlX12 w h)) hown hK.1 hP h1 (by decide) rfl 2 (by decide) (hts _ (List.mem_cons_of_mem _ wq176)) (fun _ h => h) rfl dX12_feed_15 ?_
      refine lv_iload_n hx hb dX12_feed_18 rfl (lv_at hl 2 rfl) ?_
      refine lv_iadd hx hb dX12_feed_19 ?_
      refine lv_sipush (v := 6000) hx hb dX12_feed_20 (by decide) ?_
      refine lv_icmp_le (tgt := 29) hx hb dX12_feed_23 (by decide) (fun hc => ?_) (fun hc => ?_)
      · replace hf := hs_t hf hc
        refine lv_iload_n hx hb dX12_feed_29 rfl (lv_at hl 2 rfl) ?_
        refine lv_iconst (v := 1) hx hb dX12_feed_30 (by decide) ?_
        refine lv_isub hx hb dX12_feed_31 ?_
        refine lv_istore (lv' := [(4, .int (v3 - (1 : Int32))), (0, .ref (B + v0)), (1, .long v1), (3, .int v3)]) hx hb dX12_feed_32 hl (by decide) rfl (fun ls hl => ?_)
        obtain ⟨g12, h13, hf⟩ := hs_bv_some hf
        refine wX12_feed_34 hX (fun H locs ls hP hS hl => ?_) hs_N _ _ h13 _ _ _ hP hS (lv_sub hl [1, 2, 0] rfl)
        refine lv_aload_n hx hb dX12_feed_76 rfl (lv_at hl 0 rfl) ?_
        obtain ⟨h14, hf⟩ := hs_ck hf
        refine hs_geti (C := RX12) (T := TX12) (N := 48) hx hb hts (fun w h => List.mem_cons_of_mem _ (inlX12 w h)) hown hK.1 hP h14 (by decide) rfl 2 (by decide) (hts _ (List.mem_cons_of_mem _ wq176)) (fun _ h => h) rfl dX12_feed_77 ?_
        exact hs_iret hx hb hr hlocks rfl hK hP hS hf dX12_feed_80
      · replace hf := hs_f hf hc
        refine lv_bipush (v := -4) hx hb dX12_feed_26 (by decide) ?_
        exact hs_iret hx hb hr hlocks rfl hK hP hS hf dX12_feed_28
    · replace hf := hs_f hf hc
      refine lv_bipush (v := -3) hx hb dX12_feed_11 (by decide) ?_
      exact hs_iret hx hb hr hlocks rfl hK hP hS hf dX12_feed_13

theorem dX12_load_0 : decode cX12_load 0 = .ok (.aload_n 0, 1) := by decide +kernel
theorem dX12_load_1 : decode cX12_load 1 = .ok (.invokevirtual 185, 3) := by decide +kernel
theorem dX12_load_4 : decode cX12_load 4 = .ok (.istore_n 1, 1) := by decide +kernel
theorem dX12_load_5 : decode cX12_load 5 = .ok (.aload_n 0, 1) := by decide +kernel
theorem dX12_load_6 : decode cX12_load 6 = .ok (.iconst 0, 1) := by decide +kernel
theorem dX12_load_7 : decode cX12_load 7 = .ok (.putfield 124, 3) := by decide +kernel
theorem dX12_load_10 : decode cX12_load 10 = .ok (.iload_n 1, 1) := by decide +kernel
theorem dX12_load_11 : decode cX12_load 11 = .ok (.ifCond .ge 8, 3) := by decide +kernel
theorem dX12_load_14 : decode cX12_load 14 = .ok (.bipush (-9), 2) := by decide +kernel
theorem dX12_load_16 : decode cX12_load 16 = .ok (.iload_n 1, 1) := by decide +kernel
theorem dX12_load_17 : decode cX12_load 17 = .ok (.iadd, 1) := by decide +kernel
theorem dX12_load_18 : decode cX12_load 18 = .ok (.ireturn, 1) := by decide +kernel
theorem dX12_load_19 : decode cX12_load 19 = .ok (.aload_n 0, 1) := by decide +kernel
theorem dX12_load_20 : decode cX12_load 20 = .ok (.iload_n 1, 1) := by decide +kernel
theorem dX12_load_21 : decode cX12_load 21 = .ok (.putfield 188, 3) := by decide +kernel
theorem dX12_load_24 : decode cX12_load 24 = .ok (.aload_n 0, 1) := by decide +kernel
theorem dX12_load_25 : decode cX12_load 25 = .ok (.iconst 1, 1) := by decide +kernel
theorem dX12_load_26 : decode cX12_load 26 = .ok (.putfield 191, 3) := by decide +kernel
theorem dX12_load_29 : decode cX12_load 29 = .ok (.aload_n 0, 1) := by decide +kernel
theorem dX12_load_30 : decode cX12_load 30 = .ok (.iconst 0, 1) := by decide +kernel
theorem dX12_load_31 : decode cX12_load 31 = .ok (.putfield 195, 3) := by decide +kernel
theorem dX12_load_34 : decode cX12_load 34 = .ok (.aload_n 0, 1) := by decide +kernel
theorem dX12_load_35 : decode cX12_load 35 = .ok (.invokevirtual 198, 3) := by decide +kernel
theorem dX12_load_38 : decode cX12_load 38 = .ok (.iload_n 1, 1) := by decide +kernel
theorem dX12_load_39 : decode cX12_load 39 = .ok (.ireturn, 1) := by decide +kernel
abbrev wcX12_load : List Cond := .code yX12_load cX12_load 2 (some .int) :: wsL_law
def fX12_load (v0 : Nat) (g : hs_S) : Option (Int32 × hs_S) :=
  if hs_kd g v0 = 10 then
  hs_bd (fX12_read v0 g) fun r3 g2 =>
  if hs_kd g2 v0 = 10 then
  if 0 ≤ r3 then (
    hs_bv (some (hs_wI (hs_wI (hs_wI (hs_wI g2 v0 2 (0 : Int32)) v0 4 r3) v0 3 (1 : Int32)) v0 22 (0 : Int32))) fun g6 =>
    hs_bv ((none : Option (hs_S))) fun g9 =>
    none
  ) else (
    some (((-9 : Int32) + r3), (hs_wI g2 v0 2 (0 : Int32)))
  )
  else none else none
abbrev rmX12_load : Room := { frames := 5, cells := 0, slots := 0, locals := 123 }
set_option maxHeartbeats 4000000 in
set_option maxRecDepth 100000 in
theorem ctX12_load (l : Launch) (B : Nat) (D : va_G) (E : Nat → ClassId) (v0 : Nat) (g : hs_S) (o : Int32 × hs_S) (hf : fX12_load v0 g = some o) : Met l yX12_load wcX12_load rmX12_load (hs_Pc B D E g [.ref (B + v0)]) (hs_Qi B D E o) (0) (0) (hs_F B) := by
  refine Met.ofW (cc := cX12_load) (maxL := 2) (ret := (some .int)) (by decide) rfl ?_
  intro p e s m args below meth c s₁ Bd hml hv
  obtain ⟨rfl, hP, hK⟩ := hv
  have hx := Bd.exec
  have hb := Bd.bytes
  have hr := Bd.returns
  have hts := atoms_spec (ws := wcX12_load) Bd.pre
  have hown : s.vm.findClass RX12 = some m.cls := findClass_of_methodNamed Bd.named
  have hlocks := Bd.notSynchronized
  have hS : hs_Sx B s.heap s.heap [] := va_S.rf
  have hX : hs_cx cX12_load (some .int) 2 RX12 wcX12_load p s m (List.toArray [.ref (B + v0)]) meth c D E := ⟨hx, hb, hr, hml, hown, hts, hlocks, hK⟩
  have hl := lv_entry ([.ref (B + v0)]) (n := 2) (Nat.le_of_ble_eq_true rfl)
  rw [lg_entry_eq]
  generalize (lg_sl ([.ref (B + v0)]) ++ List.replicate (2 - (lg_sl ([.ref (B + v0)])).length) Slot.unset).toArray = ls at hl ⊢
  have hl : lv_has ls 2 [(0, .ref (B + v0))] := hl
  have hP : hs_P B D E g s.heap := hP
  unfold fX12_load at hf
  refine lv_aload_n hx hb dX12_load_0 rfl (lv_at hl 0 rfl) ?_
  obtain ⟨h1, hf⟩ := hs_ck hf
  obtain ⟨r3, g2, h4, hf⟩ := hs_bd_some hf
  refine hs_calli (va_runV (As := []) (rest := []) ⟨hx, hb, hml, hown, hts⟩ (ctX12_read l B D E v0 g _ h4) (cwV 0 hts (hs_gV (fun _ h => List.mem_cons_of_mem _ h) wq395 wq396 wq397 wq5 wq398) rfl rfl rfl (by decide +kernel) ⟨Nat.le_of_ble_eq_true rfl, Nat.le_of_ble_eq_true rfl⟩) (hs_preV (r := (RX12, TX12, 48)) hP hK h1 (by decide) rfl) rfl rfl hl.1 rfl (lv_room (Nat.le_of_ble_eq_true rfl)) dX12_load_1 ⟨(Nat.le_of_ble_eq_true rfl), (Nat.le_of_ble_eq_true rfl)⟩) hS (fun H locs hP hS => ?_)
  refine lv_istore_n (lv' := [(1, .int r3), (0, .ref (B + v0))]) hx hb dX12_load_4 rfl hl (by decide) rfl (fun ls hl => ?_)
  refine lv_aload_n hx hb dX12_load_5 rfl (lv_at hl 1 rfl) ?_
  refine lv_iconst (v := 0) hx hb dX12_load_6 (by decide) ?_
  obtain ⟨h5, hf⟩ := hs_ck hf
  refine hs_puti (C := RX12) (T := TX12) (N := 48) hx hb hts (fun w h => List.mem_cons_of_mem _ (inlX12 w h)) tyX12 tyX12_ok nmX12 hown hK.1 hP hS h5 (by decide) rfl 2 (by decide) (hts _ (List.mem_cons_of_mem _ wq176)) (fun _ h => h) (Or.inl rfl) rfl rfl rfl dX12_load_7 (fun H locs hP hS => ?_)
  refine lv_iload_n hx hb dX12_load_10 rfl (lv_at hl 0 rfl) ?_
  refine lv_if_ge (tgt := 19) hx hb dX12_load_11 (by decide) (fun hc => ?_) (fun hc => ?_)
  · replace hf := hs_t hf hc
    refine lv_aload_n hx hb dX12_load_19 rfl (lv_at hl 1 rfl) ?_
    refine lv_iload_n hx hb dX12_load_20 rfl (lv_at hl 0 rfl) ?_
    refine hs_puti (C := RX12) (T := TX12) (N := 48) hx hb hts (fun w h => List.mem_cons_of_mem _ (inlX12 w h)) tyX12 tyX12_ok nmX12 hown hK.1 hP hS h5 (by decide) rfl 4 (by decide) (hts _ (List.mem_cons_of_mem _ wq392)) (fun _ h => h) (Or.inl rfl) rfl rfl rfl dX12_load_21 (fun H locs hP hS => ?_)
    refine lv_aload_n hx hb dX12_load_24 rfl (lv_at hl 1 rfl) ?_
    refine lv_iconst (v := 1) hx hb dX12_load_25 (by decide) ?_
    refine hs_puti (C := RX12) (T := TX12) (N := 48) hx hb hts (fun w h => List.mem_cons_of_mem _ (inlX12 w h)) tyX12 tyX12_ok nmX12 hown hK.1 hP hS h5 (by decide) rfl 3 (by decide) (hts _ (List.mem_cons_of_mem _ wq393)) (fun _ h => h) (Or.inl rfl) (hs_01_nar (rfl)) (hs_01_fit (rfl)) rfl dX12_load_26 (fun H locs hP hS => ?_)
    refine lv_aload_n hx hb dX12_load_29 rfl (lv_at hl 1 rfl) ?_
    refine lv_iconst (v := 0) hx hb dX12_load_30 (by decide) ?_
    refine hs_puti (C := RX12) (T := TX12) (N := 48) hx hb hts (fun w h => List.mem_cons_of_mem _ (inlX12 w h)) tyX12 tyX12_ok nmX12 hown hK.1 hP hS h5 (by decide) rfl 22 (by decide) (hts _ (List.mem_cons_of_mem _ wq394)) (fun _ h => h) (Or.inl rfl) (hs_01_nar (rfl)) (hs_01_fit (rfl)) rfl dX12_load_31 (fun H locs hP hS => ?_)
    obtain ⟨g6, e7, hf⟩ := hs_bv_some hf
    replace e7 := Option.some.inj e7
    rw [e7] at hP
    have h8 : hs_kd g6 v0 = 10 := by rw [← e7]; exact h5
    refine lv_aload_n hx hb dX12_load_34 rfl (lv_at hl 1 rfl) ?_
    obtain ⟨g9, h11, hf⟩ := hs_bv_some hf
    cases h11
  · replace hf := hs_f hf hc
    refine lv_bipush (v := -9) hx hb dX12_load_14 (by decide) ?_
    refine lv_iload_n hx hb dX12_load_16 rfl (lv_at hl 0 rfl) ?_
    refine lv_iadd hx hb dX12_load_17 ?_
    exact hs_iret hx hb hr hlocks rfl hK hP hS hf dX12_load_18

theorem dX12_price_0 : decode cX12_price 0 = .ok (.iload_n 1, 1) := by decide +kernel
theorem dX12_price_1 : decode cX12_price 1 = .ok (.ifCond .lt 28, 3) := by decide +kernel
theorem dX12_price_4 : decode cX12_price 4 = .ok (.iload_n 1, 1) := by decide +kernel
theorem dX12_price_5 : decode cX12_price 5 = .ok (.sipush 255, 3) := by decide +kernel
theorem dX12_price_8 : decode cX12_price 8 = .ok (.if_icmp .gt 21, 3) := by decide +kernel
theorem dX12_price_11 : decode cX12_price 11 = .ok (.iload_n 1, 1) := by decide +kernel
theorem dX12_price_12 : decode cX12_price 12 = .ok (.invokestatic 169, 3) := by decide +kernel
theorem dX12_price_15 : decode cX12_price 15 = .ok (.ifCond .eq 14, 3) := by decide +kernel
theorem dX12_price_18 : decode cX12_price 18 = .ok (.iload_n 2, 1) := by decide +kernel
theorem dX12_price_19 : decode cX12_price 19 = .ok (.ifCond .lt 10, 3) := by decide +kernel
theorem dX12_price_22 : decode cX12_price 22 = .ok (.iload_n 2, 1) := by decide +kernel
theorem dX12_price_23 : decode cX12_price 23 = .ok (.sipush 1000, 3) := by decide +kernel
theorem dX12_price_26 : decode cX12_price 26 = .ok (.if_icmp .le 6, 3) := by decide +kernel
theorem dX12_price_29 : decode cX12_price 29 = .ok (.bipush (-3), 2) := by decide +kernel
theorem dX12_price_31 : decode cX12_price 31 = .ok (.ireturn, 1) := by decide +kernel
theorem dX12_price_32 : decode cX12_price 32 = .ok (.aload_n 0, 1) := by decide +kernel
theorem dX12_price_33 : decode cX12_price 33 = .ok (.getfield 93, 3) := by decide +kernel
theorem dX12_price_36 : decode cX12_price 36 = .ok (.iload_n 1, 1) := by decide +kernel
theorem dX12_price_37 : decode cX12_price 37 = .ok (.iaload, 1) := by decide +kernel
theorem dX12_price_38 : decode cX12_price 38 = .ok (.istore_n 3, 1) := by decide +kernel
theorem dX12_price_39 : decode cX12_price 39 = .ok (.aload_n 0, 1) := by decide +kernel
theorem dX12_price_40 : decode cX12_price 40 = .ok (.getfield 93, 3) := by decide +kernel
theorem dX12_price_43 : decode cX12_price 43 = .ok (.iload_n 1, 1) := by decide +kernel
theorem dX12_price_44 : decode cX12_price 44 = .ok (.iload_n 2, 1) := by decide +kernel
theorem dX12_price_45 : decode cX12_price 45 = .ok (.iastore, 1) := by decide +kernel
theorem dX12_price_46 : decode cX12_price 46 = .ok (.iload_n 3, 1) := by decide +kernel
theorem dX12_price_47 : decode cX12_price 47 = .ok (.ireturn, 1) := by decide +kernel
abbrev wcX12_price : List Cond := .code yX12_price cX12_price 4 (some .int) :: wsL_law
def fX12_price (v0 : Nat) (v1 : Int32) (v2 : Int32) (g : hs_S) : Option (Int32 × hs_S) :=
  if v1 < 0 then (
    some ((-3 : Int32), g)
  ) else (
    if (255 : Int32) < v1 then (
      some ((-3 : Int32), g)
    ) else (
      hs_bd (fX12_isKind v1 g) fun r2 g1 =>
      if r2 = 0 then (
        some ((-3 : Int32), g1)
      ) else (
        if v2 < 0 then (
          some ((-3 : Int32), g1)
        ) else (
          if v2 ≤ (1000 : Int32) then (
            if hs_kd g1 v0 = 10 then
            if ¬ (hs_R g1 v0 32) = 0 then
            if hs_kd g1 ((hs_R g1 v0 32) - 1) = 100 then
            if hs_in v1 (hs_ln g1 ((hs_R g1 v0 32) - 1)) = true then
            some ((hs_I g1 ((hs_R g1 v0 32) - 1) v1.toNatClampNeg), (hs_wI g1 ((hs_R g1 v0 32) - 1) v1.toNatClampNeg v2))
            else none else none else none else none
          ) else (
            some ((-3 : Int32), g1)
          )
        )
      )
    )
  )
abbrev rmX12_price : Room := { frames := 2, cells := 0, slots := 0, locals := 40 }
set_option maxHeartbeats 4000000 in
set_option maxRecDepth 100000 in
theorem ctX12_price (l : Launch) (B : Nat) (D : va_G) (E : Nat → ClassId) (v0 : Nat) (v1 : Int32) (v2 : Int32) (g : hs_S) (o : Int32 × hs_S) (hf : fX12_price v0 v1 v2 g = some o) : Met l yX12_price wcX12_price rmX12_price (hs_Pc B D E g [.ref (B + v0), .int v1, .int v2]) (hs_Qi B D E o) (0) (0) (hs_F B) := by
  refine Met.ofW (cc := cX12_price) (maxL := 4) (ret := (some .int)) (by decide) rfl ?_
  intro p e s m args below meth c s₁ Bd hml hv
  obtain ⟨rfl, hP, hK⟩ := hv
  have hx := Bd.exec
  have hb := Bd.bytes
  have hr := Bd.returns
  have hts := atoms_spec (ws := wcX12_price) Bd.pre
  have hown : s.vm.findClass RX12 = some m.cls := findClass_of_methodNamed Bd.named
  have hlocks := Bd.notSynchronized
  have hS : hs_Sx B s.heap s.heap [] := va_S.rf
  have hX : hs_cx cX12_price (some .int) 4 RX12 wcX12_price p s m (List.toArray [.ref (B + v0), .int v1, .int v2]) meth c D E := ⟨hx, hb, hr, hml, hown, hts, hlocks, hK⟩
  have hl := lv_entry ([.ref (B + v0), .int v1, .int v2]) (n := 4) (Nat.le_of_ble_eq_true rfl)
  rw [lg_entry_eq]
  generalize (lg_sl ([.ref (B + v0), .int v1, .int v2]) ++ List.replicate (4 - (lg_sl ([.ref (B + v0), .int v1, .int v2])).length) Slot.unset).toArray = ls at hl ⊢
  have hl : lv_has ls 4 [(0, .ref (B + v0)), (1, .int v1), (2, .int v2)] := hl
  have hP : hs_P B D E g s.heap := hP
  unfold fX12_price at hf
  refine lv_iload_n hx hb dX12_price_0 rfl (lv_at hl 1 rfl) ?_
  refine lv_if_lt (tgt := 29) hx hb dX12_price_1 (by decide) (fun hc => ?_) (fun hc => ?_)
  · replace hf := hs_t hf hc
    refine lv_bipush (v := -3) hx hb dX12_price_29 (by decide) ?_
    exact hs_iret hx hb hr hlocks rfl hK hP hS hf dX12_price_31
  · replace hf := hs_f hf hc
    refine lv_iload_n hx hb dX12_price_4 rfl (lv_at hl 1 rfl) ?_
    refine lv_sipush (v := 255) hx hb dX12_price_5 (by decide) ?_
    refine lv_icmp_gt (tgt := 29) hx hb dX12_price_8 (by decide) (fun hc => ?_) (fun hc => ?_)
    · replace hf := hs_t hf hc
      refine lv_bipush (v := -3) hx hb dX12_price_29 (by decide) ?_
      exact hs_iret hx hb hr hlocks rfl hK hP hS hf dX12_price_31
    · replace hf := hs_f hf hc
      refine lv_iload_n hx hb dX12_price_11 rfl (lv_at hl 1 rfl) ?_
      obtain ⟨r2, g1, h3, hf⟩ := hs_bd_some hf
      refine hs_calli (va_runS (As := [.int v1]) (rest := []) ⟨hx, hb, hml, hown, hts⟩ (ctX12_isKind l B D E v1 g _ h3) (va_cwS 1 hts (hs_gS (fun _ h => List.mem_cons_of_mem _ h) wq420 wq421 wq5 wq422) rfl rfl rfl (by decide +kernel) ⟨Nat.le_of_ble_eq_true rfl, Nat.le_of_ble_eq_true rfl⟩) (hs_pre hP hK) rfl rfl hl.1 rfl (lv_room (Nat.le_of_ble_eq_true rfl)) dX12_price_12 ⟨(Nat.le_of_ble_eq_true rfl), (Nat.le_of_ble_eq_true rfl)⟩) hS (fun H locs hP hS => ?_)
      refine lv_if_eq (tgt := 29) hx hb dX12_price_15 (by decide) (fun hc => ?_) (fun hc => ?_)
      · replace hf := hs_t hf hc
        refine lv_bipush (v := -3) hx hb dX12_price_29 (by decide) ?_
        exact hs_iret hx hb hr hlocks rfl hK hP hS hf dX12_price_31
      · replace hf := hs_f hf hc
        refine lv_iload_n hx hb dX12_price_18 rfl (lv_at hl 2 rfl) ?_
        refine lv_if_lt (tgt := 29) hx hb dX12_price_19 (by decide) (fun hc => ?_) (fun hc => ?_)
        · replace hf := hs_t hf hc
          refine lv_bipush (v := -3) hx hb dX12_price_29 (by decide) ?_
          exact hs_iret hx hb hr hlocks rfl hK hP hS hf dX12_price_31
        · replace hf := hs_f hf hc
          refine lv_iload_n hx hb dX12_price_22 rfl (lv_at hl 2 rfl) ?_
          refine lv_sipush (v := 1000) hx hb dX12_price_23 (by decide) ?_
          refine lv_icmp_le (tgt := 32) hx hb dX12_price_26 (by decide) (fun hc => ?_) (fun hc => ?_)
          · replace hf := hs_t hf hc
            refine lv_aload_n hx hb dX12_price_32 rfl (lv_at hl 0 rfl) ?_
            obtain ⟨h4, hf⟩ := hs_ck hf
            obtain ⟨h5, hf⟩ := hs_ck hf
            refine hs_getr (C := RX12) (T := TX12) (N := 48) hx hb hts (fun w h => List.mem_cons_of_mem _ (inlX12 w h)) hown hK.1 hP h4 (by decide) rfl 32 (by decide) (hts _ (List.mem_cons_of_mem _ wq149)) (fun _ h => h) rfl h5 dX12_price_33 ?_
            refine lv_iload_n hx hb dX12_price_36 rfl (lv_at hl 1 rfl) ?_
            obtain ⟨h6, hf⟩ := hs_ck hf
            obtain ⟨h7, hf⟩ := hs_ck hf
            refine hs_iald hx hb hK.1 hP h6 h7 dX12_price_37 ?_
            refine lv_istore_n (lv' := [(3, .int (hs_I g1 ((hs_R g1 v0 32) - 1) v1.toNatClampNeg)), (0, .ref (B + v0)), (1, .int v1), (2, .int v2)]) hx hb dX12_price_38 rfl hl (by decide) rfl (fun ls hl => ?_)
            refine lv_aload_n hx hb dX12_price_39 rfl (lv_at hl 1 rfl) ?_
            refine hs_getr (C := RX12) (T := TX12) (N := 48) hx hb hts (fun w h => List.mem_cons_of_mem _ (inlX12 w h)) hown hK.1 hP h4 (by decide) rfl 32 (by decide) (hts _ (List.mem_cons_of_mem _ wq149)) (fun _ h => h) rfl h5 dX12_price_40 ?_
            refine lv_iload_n hx hb dX12_price_43 rfl (lv_at hl 2 rfl) ?_
            refine lv_iload_n hx hb dX12_price_44 rfl (lv_at hl 3 rfl) ?_
            refine hs_iast hx hb hK.1 hP hS h6 h7 dX12_price_45 (fun H locs hP hS => ?_)
            refine lv_iload_n hx hb dX12_price_46 rfl (lv_at hl 0 rfl) ?_
            exact hs_iret hx hb hr hlocks rfl hK hP hS hf dX12_price_47
          · replace hf := hs_f hf hc
            refine lv_bipush (v := -3) hx hb dX12_price_29 (by decide) ?_
            exact hs_iret hx hb hr hlocks rfl hK hP hS hf dX12_price_31

theorem dX12_rewrite_0 : decode cX12_rewrite 0 = .ok (.aload_n 0, 1) := by decide +kernel
theorem dX12_rewrite_1 : decode cX12_rewrite 1 = .ok (.getfield 191, 3) := by decide +kernel
theorem dX12_rewrite_4 : decode cX12_rewrite 4 = .ok (.ifCond .ne 6, 3) := by decide +kernel
theorem dX12_rewrite_7 : decode cX12_rewrite 7 = .ok (.bipush (-2), 2) := by decide +kernel
theorem dX12_rewrite_9 : decode cX12_rewrite 9 = .ok (.ireturn, 1) := by decide +kernel
theorem dX12_rewrite_10 : decode cX12_rewrite 10 = .ok (.aload_n 0, 1) := by decide +kernel
theorem dX12_rewrite_11 : decode cX12_rewrite 11 = .ok (.iconst 0, 1) := by decide +kernel
theorem dX12_rewrite_12 : decode cX12_rewrite 12 = .ok (.putfield 195, 3) := by decide +kernel
theorem dX12_rewrite_15 : decode cX12_rewrite 15 = .ok (.iconst 0, 1) := by decide +kernel
theorem dX12_rewrite_16 : decode cX12_rewrite 16 = .ok (.istore_n 1, 1) := by decide +kernel
theorem dX12_rewrite_17 : decode cX12_rewrite 17 = .ok (.iconst 0, 1) := by decide +kernel
theorem dX12_rewrite_18 : decode cX12_rewrite 18 = .ok (.istore_n 2, 1) := by decide +kernel
theorem dX12_rewrite_19 : decode cX12_rewrite 19 = .ok (.iload_n 2, 1) := by decide +kernel
theorem dX12_rewrite_20 : decode cX12_rewrite 20 = .ok (.aload_n 0, 1) := by decide +kernel
theorem dX12_rewrite_21 : decode cX12_rewrite 21 = .ok (.getfield 188, 3) := by decide +kernel
theorem dX12_rewrite_24 : decode cX12_rewrite 24 = .ok (.if_icmp .ge 179, 3) := by decide +kernel
theorem dX12_rewrite_27 : decode cX12_rewrite 27 = .ok (.aload_n 0, 1) := by decide +kernel
theorem dX12_rewrite_28 : decode cX12_rewrite 28 = .ok (.iload_n 2, 1) := by decide +kernel
theorem dX12_rewrite_29 : decode cX12_rewrite 29 = .ok (.iconst 1, 1) := by decide +kernel
theorem dX12_rewrite_30 : decode cX12_rewrite 30 = .ok (.invokevirtual 231, 3) := by decide +kernel
theorem dX12_rewrite_33 : decode cX12_rewrite 33 = .ok (.istore_n 3, 1) := by decide +kernel
theorem dX12_rewrite_34 : decode cX12_rewrite 34 = .ok (.iload_n 3, 1) := by decide +kernel
theorem dX12_rewrite_35 : decode cX12_rewrite 35 = .ok (.sipush 4000, 3) := by decide +kernel
theorem dX12_rewrite_38 : decode cX12_rewrite 38 = .ok (.if_icmp .le 8, 3) := by decide +kernel
theorem dX12_rewrite_41 : decode cX12_rewrite 41 = .ok (.bipush (-10), 2) := by decide +kernel
theorem dX12_rewrite_43 : decode cX12_rewrite 43 = .ok (.iload_n 2, 1) := by decide +kernel
theorem dX12_rewrite_44 : decode cX12_rewrite 44 = .ok (.isub, 1) := by decide +kernel
theorem dX12_rewrite_45 : decode cX12_rewrite 45 = .ok (.ireturn, 1) := by decide +kernel
theorem dX12_rewrite_46 : decode cX12_rewrite 46 = .ok (.aload_n 0, 1) := by decide +kernel
theorem dX12_rewrite_47 : decode cX12_rewrite 47 = .ok (.iload_n 2, 1) := by decide +kernel
theorem dX12_rewrite_48 : decode cX12_rewrite 48 = .ok (.iconst 1, 1) := by decide +kernel
theorem dX12_rewrite_49 : decode cX12_rewrite 49 = .ok (.invokevirtual 235, 3) := by decide +kernel
theorem dX12_rewrite_52 : decode cX12_rewrite 52 = .ok (.aload_n 0, 1) := by decide +kernel
theorem dX12_rewrite_53 : decode cX12_rewrite 53 = .ok (.getfield 78, 3) := by decide +kernel
theorem dX12_rewrite_56 : decode cX12_rewrite 56 = .ok (.iload_n 2, 1) := by decide +kernel
theorem dX12_rewrite_57 : decode cX12_rewrite 57 = .ok (.aload_n 0, 1) := by decide +kernel
theorem dX12_rewrite_58 : decode cX12_rewrite 58 = .ok (.getfield 224, 3) := by decide +kernel
theorem dX12_rewrite_61 : decode cX12_rewrite 61 = .ok (.iastore, 1) := by decide +kernel
theorem dX12_rewrite_62 : decode cX12_rewrite 62 = .ok (.aload_n 0, 1) := by decide +kernel
theorem dX12_rewrite_63 : decode cX12_rewrite 63 = .ok (.getfield 72, 3) := by decide +kernel
theorem dX12_rewrite_66 : decode cX12_rewrite 66 = .ok (.iload_n 2, 1) := by decide +kernel
theorem dX12_rewrite_67 : decode cX12_rewrite 67 = .ok (.iload_n 3, 1) := by decide +kernel
theorem dX12_rewrite_68 : decode cX12_rewrite 68 = .ok (.iastore, 1) := by decide +kernel
theorem dX12_rewrite_69 : decode cX12_rewrite 69 = .ok (.iload_n 1, 1) := by decide +kernel
theorem dX12_rewrite_70 : decode cX12_rewrite 70 = .ok (.iload_n 3, 1) := by decide +kernel
theorem dX12_rewrite_71 : decode cX12_rewrite 71 = .ok (.iadd, 1) := by decide +kernel
theorem dX12_rewrite_72 : decode cX12_rewrite 72 = .ok (.istore_n 1, 1) := by decide +kernel
theorem dX12_rewrite_73 : decode cX12_rewrite 73 = .ok (.iconst 0, 1) := by decide +kernel
theorem dX12_rewrite_74 : decode cX12_rewrite 74 = .ok (.istore 4, 2) := by decide +kernel
theorem dX12_rewrite_76 : decode cX12_rewrite 76 = .ok (.iload 4, 2) := by decide +kernel
theorem dX12_rewrite_78 : decode cX12_rewrite 78 = .ok (.iload_n 3, 1) := by decide +kernel
theorem dX12_rewrite_79 : decode cX12_rewrite 79 = .ok (.if_icmp .ge 29, 3) := by decide +kernel
theorem dX12_rewrite_82 : decode cX12_rewrite 82 = .ok (.aload_n 0, 1) := by decide +kernel
theorem dX12_rewrite_83 : decode cX12_rewrite 83 = .ok (.getfield 69, 3) := by decide +kernel
theorem dX12_rewrite_86 : decode cX12_rewrite 86 = .ok (.sipush 4001, 3) := by decide +kernel
theorem dX12_rewrite_89 : decode cX12_rewrite 89 = .ok (.iload_n 2, 1) := by decide +kernel
theorem dX12_rewrite_90 : decode cX12_rewrite 90 = .ok (.imul, 1) := by decide +kernel
theorem dX12_rewrite_91 : decode cX12_rewrite 91 = .ok (.iload 4, 2) := by decide +kernel
theorem dX12_rewrite_93 : decode cX12_rewrite 93 = .ok (.iadd, 1) := by decide +kernel
theorem dX12_rewrite_94 : decode cX12_rewrite 94 = .ok (.aload_n 0, 1) := by decide +kernel
theorem dX12_rewrite_95 : decode cX12_rewrite 95 = .ok (.getfield 90, 3) := by decide +kernel
theorem dX12_rewrite_98 : decode cX12_rewrite 98 = .ok (.iload 4, 2) := by decide +kernel
theorem dX12_rewrite_100 : decode cX12_rewrite 100 = .ok (.iaload, 1) := by decide +kernel
theorem dX12_rewrite_101 : decode cX12_rewrite 101 = .ok (.iastore, 1) := by decide +kernel
theorem dX12_rewrite_102 : decode cX12_rewrite 102 = .ok (.iinc 4 1, 3) := by decide +kernel
theorem dX12_rewrite_105 : decode cX12_rewrite 105 = .ok (.goto (-29), 3) := by decide +kernel
theorem dX12_rewrite_108 : decode cX12_rewrite 108 = .ok (.iconst 0, 1) := by decide +kernel
theorem dX12_rewrite_109 : decode cX12_rewrite 109 = .ok (.istore 4, 2) := by decide +kernel
theorem dX12_rewrite_111 : decode cX12_rewrite 111 = .ok (.iload 4, 2) := by decide +kernel
theorem dX12_rewrite_113 : decode cX12_rewrite 113 = .ok (.aload_n 0, 1) := by decide +kernel
theorem dX12_rewrite_114 : decode cX12_rewrite 114 = .ok (.getfield 26, 3) := by decide +kernel
theorem dX12_rewrite_117 : decode cX12_rewrite 117 = .ok (.iload_n 2, 1) := by decide +kernel
theorem dX12_rewrite_118 : decode cX12_rewrite 118 = .ok (.iaload, 1) := by decide +kernel
theorem dX12_rewrite_119 : decode cX12_rewrite 119 = .ok (.if_icmp .ge 78, 3) := by decide +kernel
theorem dX12_rewrite_122 : decode cX12_rewrite 122 = .ok (.bipush 32, 2) := by decide +kernel
theorem dX12_rewrite_124 : decode cX12_rewrite 124 = .ok (.iload_n 2, 1) := by decide +kernel
theorem dX12_rewrite_125 : decode cX12_rewrite 125 = .ok (.imul, 1) := by decide +kernel
theorem dX12_rewrite_126 : decode cX12_rewrite 126 = .ok (.iconst 4, 1) := by decide +kernel
theorem dX12_rewrite_127 : decode cX12_rewrite 127 = .ok (.iload 4, 2) := by decide +kernel
theorem dX12_rewrite_129 : decode cX12_rewrite 129 = .ok (.imul, 1) := by decide +kernel
theorem dX12_rewrite_130 : decode cX12_rewrite 130 = .ok (.iadd, 1) := by decide +kernel
theorem dX12_rewrite_131 : decode cX12_rewrite 131 = .ok (.istore 5, 2) := by decide +kernel
theorem dX12_rewrite_133 : decode cX12_rewrite 133 = .ok (.iconst 0, 1) := by decide +kernel
theorem dX12_rewrite_134 : decode cX12_rewrite 134 = .ok (.istore 6, 2) := by decide +kernel
theorem dX12_rewrite_136 : decode cX12_rewrite 136 = .ok (.iload 6, 2) := by decide +kernel
theorem dX12_rewrite_138 : decode cX12_rewrite 138 = .ok (.iconst 3, 1) := by decide +kernel
theorem dX12_rewrite_139 : decode cX12_rewrite 139 = .ok (.if_icmp .ge 34, 3) := by decide +kernel
theorem dX12_rewrite_142 : decode cX12_rewrite 142 = .ok (.aload_n 0, 1) := by decide +kernel
theorem dX12_rewrite_143 : decode cX12_rewrite 143 = .ok (.getfield 75, 3) := by decide +kernel
theorem dX12_rewrite_146 : decode cX12_rewrite 146 = .ok (.iload 5, 2) := by decide +kernel
theorem dX12_rewrite_148 : decode cX12_rewrite 148 = .ok (.iload 6, 2) := by decide +kernel
theorem dX12_rewrite_150 : decode cX12_rewrite 150 = .ok (.iadd, 1) := by decide +kernel
theorem dX12_rewrite_151 : decode cX12_rewrite 151 = .ok (.aload_n 0, 1) := by decide +kernel
theorem dX12_rewrite_152 : decode cX12_rewrite 152 = .ok (.getfield 81, 3) := by decide +kernel
theorem dX12_rewrite_155 : decode cX12_rewrite 155 = .ok (.aload_n 0, 1) := by decide +kernel
theorem dX12_rewrite_156 : decode cX12_rewrite 156 = .ok (.getfield 29, 3) := by decide +kernel
theorem dX12_rewrite_159 : decode cX12_rewrite 159 = .ok (.iload 5, 2) := by decide +kernel
theorem dX12_rewrite_161 : decode cX12_rewrite 161 = .ok (.iload 6, 2) := by decide +kernel
theorem dX12_rewrite_163 : decode cX12_rewrite 163 = .ok (.iadd, 1) := by decide +kernel
theorem dX12_rewrite_164 : decode cX12_rewrite 164 = .ok (.iaload, 1) := by decide +kernel
theorem dX12_rewrite_165 : decode cX12_rewrite 165 = .ok (.iaload, 1) := by decide +kernel
theorem dX12_rewrite_166 : decode cX12_rewrite 166 = .ok (.iastore, 1) := by decide +kernel
theorem dX12_rewrite_167 : decode cX12_rewrite 167 = .ok (.iinc 6 1, 3) := by decide +kernel
theorem dX12_rewrite_170 : decode cX12_rewrite 170 = .ok (.goto (-34), 3) := by decide +kernel
theorem dX12_rewrite_173 : decode cX12_rewrite 173 = .ok (.aload_n 0, 1) := by decide +kernel
theorem dX12_rewrite_174 : decode cX12_rewrite 174 = .ok (.getfield 75, 3) := by decide +kernel
theorem dX12_rewrite_177 : decode cX12_rewrite 177 = .ok (.iload 5, 2) := by decide +kernel
theorem dX12_rewrite_179 : decode cX12_rewrite 179 = .ok (.iconst 3, 1) := by decide +kernel
theorem dX12_rewrite_180 : decode cX12_rewrite 180 = .ok (.iadd, 1) := by decide +kernel
theorem dX12_rewrite_181 : decode cX12_rewrite 181 = .ok (.aload_n 0, 1) := by decide +kernel
theorem dX12_rewrite_182 : decode cX12_rewrite 182 = .ok (.getfield 29, 3) := by decide +kernel
theorem dX12_rewrite_185 : decode cX12_rewrite 185 = .ok (.iload 5, 2) := by decide +kernel
theorem dX12_rewrite_187 : decode cX12_rewrite 187 = .ok (.iconst 3, 1) := by decide +kernel
theorem dX12_rewrite_188 : decode cX12_rewrite 188 = .ok (.iadd, 1) := by decide +kernel
theorem dX12_rewrite_189 : decode cX12_rewrite 189 = .ok (.iaload, 1) := by decide +kernel
theorem dX12_rewrite_190 : decode cX12_rewrite 190 = .ok (.iastore, 1) := by decide +kernel
theorem dX12_rewrite_191 : decode cX12_rewrite 191 = .ok (.iinc 4 1, 3) := by decide +kernel
theorem dX12_rewrite_194 : decode cX12_rewrite 194 = .ok (.goto (-83), 3) := by decide +kernel
theorem dX12_rewrite_197 : decode cX12_rewrite 197 = .ok (.iinc 2 1, 3) := by decide +kernel
theorem dX12_rewrite_200 : decode cX12_rewrite 200 = .ok (.goto (-181), 3) := by decide +kernel
theorem dX12_rewrite_203 : decode cX12_rewrite 203 = .ok (.aload_n 0, 1) := by decide +kernel
theorem dX12_rewrite_204 : decode cX12_rewrite 204 = .ok (.iconst 1, 1) := by decide +kernel
theorem dX12_rewrite_205 : decode cX12_rewrite 205 = .ok (.putfield 195, 3) := by decide +kernel
theorem dX12_rewrite_208 : decode cX12_rewrite 208 = .ok (.iload_n 1, 1) := by decide +kernel
theorem dX12_rewrite_209 : decode cX12_rewrite 209 = .ok (.ireturn, 1) := by decide +kernel
abbrev wcX12_rewrite : List Cond := .code yX12_rewrite cX12_rewrite 7 (some .int) :: wsL_law
def lX12_rewrite_19 : Nat → Nat → Int32 → Int32 → hs_S → Option (Nat × Int32 × Int32 × hs_S)
  | 0, _, _, _, _ => none
  | n + 1, v0, v1, v2, g =>
    if hs_kd g v0 = 10 then
    if (hs_I g v0 4) ≤ v2 then (
      some (0, v1, v2, g)
    ) else (
      hs_bd ((none : Option (Int32 × hs_S))) fun r4 g3 =>
      none
    )
    else none
theorem lX12_rewrite_19_s (n : Nat) (v0 : Nat) (v1 : Int32) (v2 : Int32) (g : hs_S) : lX12_rewrite_19 (n + 1) v0 v1 v2 g =
    if hs_kd g v0 = 10 then
    if (hs_I g v0 4) ≤ v2 then (
      some (0, v1, v2, g)
    ) else (
      hs_bd ((none : Option (Int32 × hs_S))) fun r4 g3 =>
      none
    )
    else none := rfl
def fX12_rewrite (v0 : Nat) (g : hs_S) : Option (Int32 × hs_S) :=
  if hs_kd g v0 = 10 then
  if (hs_I g v0 3) = 0 then (
    some ((-2 : Int32), g)
  ) else (
    hs_b4 (lX12_rewrite_19 hs_N v0 (0 : Int32) (0 : Int32) (hs_wI g v0 22 (0 : Int32))) fun k8 x6 x7 g9 =>
    if k8 = 0 then (
      if hs_kd g9 v0 = 10 then
      some (x6, (hs_wI g9 v0 22 (1 : Int32)))
      else none
    ) else (
      some (((-10 : Int32) - x7), g9)
    )
  )
  else none
abbrev rmX12_rewrite : Room := { frames := 5, cells := 0, slots := 0, locals := 120 }
set_option maxHeartbeats 4000000 in
set_option maxRecDepth 100000 in
theorem wX12_rewrite_19 {p : Program} {l : Launch} {e : Env} {s : State} {m : MethodId} {args : Array Value} {below : List Frame} {meth : Method} {c : Code} {B : Nat} {D : va_G} {E : Nat → ClassId} (hX : hs_cx cX12_rewrite (some .int) 7 RX12 wcX12_rewrite p s m args meth c D E) {Q : State → Prop} {o : Nat × Int32 × Int32 × hs_S} {v0 : Nat} (hex0 : o.1 = 0 → ∀ (H : Heap) (locs : List Loc) (ls : Array Slot), hs_P B D E (o.2.2.2) H → hs_Sx B s.heap H locs → lv_has ls 7 [(0, .ref (B + v0)), (1, .int (o.2.1))] → W p l e rmX12_rewrite s m args below meth c H locs 0 0 Q (F0 m 203 ls [])) (hex1 : o.1 = 1 → ∀ (H : Heap) (locs : List Loc) (ls : Array Slot), hs_P B D E (o.2.2.2) H → hs_Sx B s.heap H locs → lv_has ls 7 [(2, .int (o.2.2.1))] → W p l e rmX12_rewrite s m args below meth c H locs 0 0 Q (F0 m 41 ls [])) : ∀ (n : Nat) (v1 : Int32) (v2 : Int32) (g : hs_S), lX12_rewrite_19 n v0 v1 v2 g = some o → ∀ (H : Heap) (locs : List Loc) (ls : Array Slot), hs_P B D E g H → hs_Sx B s.heap H locs → lv_has ls 7 [(0, .ref (B + v0)), (1, .int v1), (2, .int v2)] → W p l e rmX12_rewrite s m args below meth c H locs 0 0 Q (F0 m 19 ls []) := by
  obtain ⟨hx, hb, hr, hml, hown, hts, hlocks, hK⟩ := id hX
  intro n
  induction n with
  | zero =>
    intro v1 v2 g hf
    cases hf
  | succ n ih =>
    intro v1 v2 g hf H locs ls hP hS hl
    replace hf := (lX12_rewrite_19_s n v0 v1 v2 g).symm.trans hf
    refine lv_iload_n hx hb dX12_rewrite_19 rfl (lv_at hl 2 rfl) ?_
    refine lv_aload_n hx hb dX12_rewrite_20 rfl (lv_at hl 0 rfl) ?_
    obtain ⟨h2, hf⟩ := hs_ck hf
    refine hs_geti (C := RX12) (T := TX12) (N := 48) hx hb hts (fun w h => List.mem_cons_of_mem _ (inlX12 w h)) hown hK.1 hP h2 (by decide) rfl 4 (by decide) (hts _ (List.mem_cons_of_mem _ wq392)) (fun _ h => h) rfl dX12_rewrite_21 ?_
    refine lv_icmp_ge (tgt := 203) hx hb dX12_rewrite_24 (by decide) (fun hc => ?_) (fun hc => ?_)
    · replace hf := hs_t hf hc
      obtain rfl := Option.some.inj hf
      exact hex0 rfl _ _ _ hP hS (lv_sub hl [0, 1] rfl)
    · replace hf := hs_f hf hc
      refine lv_aload_n hx hb dX12_rewrite_27 rfl (lv_at hl 0 rfl) ?_
      refine lv_iload_n hx hb dX12_rewrite_28 rfl (lv_at hl 2 rfl) ?_
      refine lv_iconst (v := 1) hx hb dX12_rewrite_29 (by decide) ?_
      obtain ⟨r4, g3, h5, hf⟩ := hs_bd_some hf
      cases h5

set_option maxHeartbeats 4000000 in
set_option maxRecDepth 100000 in
theorem ctX12_rewrite (l : Launch) (B : Nat) (D : va_G) (E : Nat → ClassId) (v0 : Nat) (g : hs_S) (o : Int32 × hs_S) (hf : fX12_rewrite v0 g = some o) : Met l yX12_rewrite wcX12_rewrite rmX12_rewrite (hs_Pc B D E g [.ref (B + v0)]) (hs_Qi B D E o) (0) (0) (hs_F B) := by
  refine Met.ofW (cc := cX12_rewrite) (maxL := 7) (ret := (some .int)) (by decide) rfl ?_
  intro p e s m args below meth c s₁ Bd hml hv
  obtain ⟨rfl, hP, hK⟩ := hv
  have hx := Bd.exec
  have hb := Bd.bytes
  have hr := Bd.returns
  have hts := atoms_spec (ws := wcX12_rewrite) Bd.pre
  have hown : s.vm.findClass RX12 = some m.cls := findClass_of_methodNamed Bd.named
  have hlocks := Bd.notSynchronized
  have hS : hs_Sx B s.heap s.heap [] := va_S.rf
  have hX : hs_cx cX12_rewrite (some .int) 7 RX12 wcX12_rewrite p s m (List.toArray [.ref (B + v0)]) meth c D E := ⟨hx, hb, hr, hml, hown, hts, hlocks, hK⟩
  have hl := lv_entry ([.ref (B + v0)]) (n := 7) (Nat.le_of_ble_eq_true rfl)
  rw [lg_entry_eq]
  generalize (lg_sl ([.ref (B + v0)]) ++ List.replicate (7 - (lg_sl ([.ref (B + v0)])).length) Slot.unset).toArray = ls at hl ⊢
  have hl : lv_has ls 7 [(0, .ref (B + v0))] := hl
  have hP : hs_P B D E g s.heap := hP
  unfold fX12_rewrite at hf
  refine lv_aload_n hx hb dX12_rewrite_0 rfl (lv_at hl 0 rfl) ?_
  obtain ⟨h1, hf⟩ := hs_ck hf
  refine hs_geti (C := RX12) (T := TX12) (N := 48) hx hb hts (fun w h => List.mem_cons_of_mem _ (inlX12 w h)) hown hK.1 hP h1 (by decide) rfl 3 (by decide) (hts _ (List.mem_cons_of_mem _ wq393)) (fun _ h => h) rfl dX12_rewrite_1 ?_
  refine lv_if_ne (tgt := 10) hx hb dX12_rewrite_4 (by decide) (fun hc => ?_) (fun hc => ?_)
  · replace hf := hs_f hf hc
    refine lv_aload_n hx hb dX12_rewrite_10 rfl (lv_at hl 0 rfl) ?_
    refine lv_iconst (v := 0) hx hb dX12_rewrite_11 (by decide) ?_
    refine hs_puti (C := RX12) (T := TX12) (N := 48) hx hb hts (fun w h => List.mem_cons_of_mem _ (inlX12 w h)) tyX12 tyX12_ok nmX12 hown hK.1 hP hS h1 (by decide) rfl 22 (by decide) (hts _ (List.mem_cons_of_mem _ wq394)) (fun _ h => h) (Or.inl rfl) (hs_01_nar (rfl)) (hs_01_fit (rfl)) rfl dX12_rewrite_12 (fun H locs hP hS => ?_)
    refine lv_iconst (v := 0) hx hb dX12_rewrite_15 (by decide) ?_
    refine lv_istore_n (lv' := [(1, .int (0 : Int32)), (0, .ref (B + v0))]) hx hb dX12_rewrite_16 rfl hl (by decide) rfl (fun ls hl => ?_)
    refine lv_iconst (v := 0) hx hb dX12_rewrite_17 (by decide) ?_
    refine lv_istore_n (lv' := [(2, .int (0 : Int32)), (1, .int (0 : Int32)), (0, .ref (B + v0))]) hx hb dX12_rewrite_18 rfl hl (by decide) rfl (fun ls hl => ?_)
    obtain ⟨k8, x6, x7, g9, h10, hf⟩ := hs_b4_some hf
    refine wX12_rewrite_19 hX (fun hlab H locs ls hP hS hl => ?_) (fun hlab H locs ls hP hS hl => ?_) hs_N _ _ _ h10 _ _ _ hP hS (lv_sub hl [2, 1, 0] rfl)
    · replace hlab : k8 = 0 := hlab
      replace hf := hs_t hf hlab
      refine lv_aload_n hx hb dX12_rewrite_203 rfl (lv_at hl 0 rfl) ?_
      refine lv_iconst (v := 1) hx hb dX12_rewrite_204 (by decide) ?_
      obtain ⟨h11, hf⟩ := hs_ck hf
      refine hs_puti (C := RX12) (T := TX12) (N := 48) hx hb hts (fun w h => List.mem_cons_of_mem _ (inlX12 w h)) tyX12 tyX12_ok nmX12 hown hK.1 hP hS h11 (by decide) rfl 22 (by decide) (hts _ (List.mem_cons_of_mem _ wq394)) (fun _ h => h) (Or.inl rfl) (hs_01_nar (rfl)) (hs_01_fit (rfl)) rfl dX12_rewrite_205 (fun H locs hP hS => ?_)
      refine lv_iload_n hx hb dX12_rewrite_208 rfl (lv_at hl 1 rfl) ?_
      exact hs_iret hx hb hr hlocks rfl hK hP hS hf dX12_rewrite_209
    · replace hlab : k8 = 1 := hlab
      replace hf := hs_f hf (by rw [hlab]; decide)
      refine lv_bipush (v := -10) hx hb dX12_rewrite_41 (by decide) ?_
      refine lv_iload_n hx hb dX12_rewrite_43 rfl (lv_at hl 0 rfl) ?_
      refine lv_isub hx hb dX12_rewrite_44 ?_
      exact hs_iret hx hb hr hlocks rfl hK hP hS hf dX12_rewrite_45
  · replace hf := hs_t hf hc
    refine lv_bipush (v := -2) hx hb dX12_rewrite_7 (by decide) ?_
    exact hs_iret hx hb hr hlocks rfl hK hP hS hf dX12_rewrite_9

theorem dX12_told_0 : decode cX12_told 0 = .ok (.iload_n 2, 1) := by decide +kernel
theorem dX12_told_1 : decode cX12_told 1 = .ok (.ifCond .eq 13, 3) := by decide +kernel
theorem dX12_told_4 : decode cX12_told 4 = .ok (.aload_n 0, 1) := by decide +kernel
theorem dX12_told_5 : decode cX12_told 5 = .ok (.getfield 195, 3) := by decide +kernel
theorem dX12_told_8 : decode cX12_told 8 = .ok (.ifCond .ne 16, 3) := by decide +kernel
theorem dX12_told_11 : decode cX12_told 11 = .ok (.goto 10, 3) := by decide +kernel
theorem dX12_told_14 : decode cX12_told 14 = .ok (.aload_n 0, 1) := by decide +kernel
theorem dX12_told_15 : decode cX12_told 15 = .ok (.getfield 191, 3) := by decide +kernel
theorem dX12_told_18 : decode cX12_told 18 = .ok (.ifCond .ne 6, 3) := by decide +kernel
theorem dX12_told_21 : decode cX12_told 21 = .ok (.bipush (-2), 2) := by decide +kernel
theorem dX12_told_23 : decode cX12_told 23 = .ok (.ireturn, 1) := by decide +kernel
theorem dX12_told_24 : decode cX12_told 24 = .ok (.iload_n 1, 1) := by decide +kernel
theorem dX12_told_25 : decode cX12_told 25 = .ok (.ifCond .lt 20, 3) := by decide +kernel
theorem dX12_told_28 : decode cX12_told 28 = .ok (.iload_n 1, 1) := by decide +kernel
theorem dX12_told_29 : decode cX12_told 29 = .ok (.aload_n 0, 1) := by decide +kernel
theorem dX12_told_30 : decode cX12_told 30 = .ok (.getfield 188, 3) := by decide +kernel
theorem dX12_told_33 : decode cX12_told 33 = .ok (.if_icmp .ge 12, 3) := by decide +kernel
theorem dX12_told_36 : decode cX12_told 36 = .ok (.iload_n 3, 1) := by decide +kernel
theorem dX12_told_37 : decode cX12_told 37 = .ok (.ifCond .lt 8, 3) := by decide +kernel
theorem dX12_told_40 : decode cX12_told 40 = .ok (.iload_n 3, 1) := by decide +kernel
theorem dX12_told_41 : decode cX12_told 41 = .ok (.iconst 5, 1) := by decide +kernel
theorem dX12_told_42 : decode cX12_told 42 = .ok (.if_icmp .le 6, 3) := by decide +kernel
theorem dX12_told_45 : decode cX12_told 45 = .ok (.bipush (-3), 2) := by decide +kernel
theorem dX12_told_47 : decode cX12_told 47 = .ok (.ireturn, 1) := by decide +kernel
theorem dX12_told_48 : decode cX12_told 48 = .ok (.iload_n 3, 1) := by decide +kernel
theorem dX12_told_49 : decode cX12_told 49 = .ok (.tableswitch 105 0 4 #[35, 55, 61, 68, 83], 35) := by decide +kernel
theorem dX12_told_84 : decode cX12_told 84 = .ok (.iload_n 2, 1) := by decide +kernel
theorem dX12_told_85 : decode cX12_told 85 = .ok (.ifCond .eq 12, 3) := by decide +kernel
theorem dX12_told_88 : decode cX12_told 88 = .ok (.aload_n 0, 1) := by decide +kernel
theorem dX12_told_89 : decode cX12_told 89 = .ok (.getfield 72, 3) := by decide +kernel
theorem dX12_told_92 : decode cX12_told 92 = .ok (.iload_n 1, 1) := by decide +kernel
theorem dX12_told_93 : decode cX12_told 93 = .ok (.iaload, 1) := by decide +kernel
theorem dX12_told_94 : decode cX12_told 94 = .ok (.goto 9, 3) := by decide +kernel
theorem dX12_told_97 : decode cX12_told 97 = .ok (.aload_n 0, 1) := by decide +kernel
theorem dX12_told_98 : decode cX12_told 98 = .ok (.getfield 23, 3) := by decide +kernel
theorem dX12_told_101 : decode cX12_told 101 = .ok (.iload_n 1, 1) := by decide +kernel
theorem dX12_told_102 : decode cX12_told 102 = .ok (.iaload, 1) := by decide +kernel
theorem dX12_told_103 : decode cX12_told 103 = .ok (.ireturn, 1) := by decide +kernel
theorem dX12_told_104 : decode cX12_told 104 = .ok (.aload_n 0, 1) := by decide +kernel
theorem dX12_told_105 : decode cX12_told 105 = .ok (.iload_n 1, 1) := by decide +kernel
theorem dX12_told_106 : decode cX12_told 106 = .ok (.invokevirtual 211, 3) := by decide +kernel
theorem dX12_told_109 : decode cX12_told 109 = .ok (.ireturn, 1) := by decide +kernel
theorem dX12_told_110 : decode cX12_told 110 = .ok (.aload_n 0, 1) := by decide +kernel
theorem dX12_told_111 : decode cX12_told 111 = .ok (.getfield 26, 3) := by decide +kernel
theorem dX12_told_114 : decode cX12_told 114 = .ok (.iload_n 1, 1) := by decide +kernel
theorem dX12_told_115 : decode cX12_told 115 = .ok (.iaload, 1) := by decide +kernel
theorem dX12_told_116 : decode cX12_told 116 = .ok (.ireturn, 1) := by decide +kernel
theorem dX12_told_117 : decode cX12_told 117 = .ok (.iload_n 2, 1) := by decide +kernel
theorem dX12_told_118 : decode cX12_told 118 = .ok (.ifCond .eq 12, 3) := by decide +kernel
theorem dX12_told_121 : decode cX12_told 121 = .ok (.aload_n 0, 1) := by decide +kernel
theorem dX12_told_122 : decode cX12_told 122 = .ok (.getfield 78, 3) := by decide +kernel
theorem dX12_told_125 : decode cX12_told 125 = .ok (.iload_n 1, 1) := by decide +kernel
theorem dX12_told_126 : decode cX12_told 126 = .ok (.iaload, 1) := by decide +kernel
theorem dX12_told_127 : decode cX12_told 127 = .ok (.goto 4, 3) := by decide +kernel
theorem dX12_told_130 : decode cX12_told 130 = .ok (.iconst 0, 1) := by decide +kernel
theorem dX12_told_131 : decode cX12_told 131 = .ok (.ireturn, 1) := by decide +kernel
theorem dX12_told_132 : decode cX12_told 132 = .ok (.aload_n 0, 1) := by decide +kernel
theorem dX12_told_133 : decode cX12_told 133 = .ok (.iload_n 1, 1) := by decide +kernel
theorem dX12_told_134 : decode cX12_told 134 = .ok (.iload_n 2, 1) := by decide +kernel
theorem dX12_told_135 : decode cX12_told 135 = .ok (.invokevirtual 239, 3) := by decide +kernel
theorem dX12_told_138 : decode cX12_told 138 = .ok (.iload_n 2, 1) := by decide +kernel
theorem dX12_told_139 : decode cX12_told 139 = .ok (.ifCond .eq 12, 3) := by decide +kernel
theorem dX12_told_142 : decode cX12_told 142 = .ok (.aload_n 0, 1) := by decide +kernel
theorem dX12_told_143 : decode cX12_told 143 = .ok (.getfield 78, 3) := by decide +kernel
theorem dX12_told_146 : decode cX12_told 146 = .ok (.iload_n 1, 1) := by decide +kernel
theorem dX12_told_147 : decode cX12_told 147 = .ok (.iaload, 1) := by decide +kernel
theorem dX12_told_148 : decode cX12_told 148 = .ok (.goto 4, 3) := by decide +kernel
theorem dX12_told_151 : decode cX12_told 151 = .ok (.iconst 0, 1) := by decide +kernel
theorem dX12_told_152 : decode cX12_told 152 = .ok (.isub, 1) := by decide +kernel
theorem dX12_told_153 : decode cX12_told 153 = .ok (.ireturn, 1) := by decide +kernel
theorem dX12_told_154 : decode cX12_told 154 = .ok (.iload_n 2, 1) := by decide +kernel
theorem dX12_told_155 : decode cX12_told 155 = .ok (.ifCond .eq 7, 3) := by decide +kernel
theorem dX12_told_158 : decode cX12_told 158 = .ok (.iconst (-1), 1) := by decide +kernel
theorem dX12_told_159 : decode cX12_told 159 = .ok (.goto 8, 3) := by decide +kernel
theorem dX12_told_162 : decode cX12_told 162 = .ok (.aload_n 0, 1) := by decide +kernel
theorem dX12_told_163 : decode cX12_told 163 = .ok (.iload_n 1, 1) := by decide +kernel
theorem dX12_told_164 : decode cX12_told 164 = .ok (.invokevirtual 242, 3) := by decide +kernel
theorem dX12_told_167 : decode cX12_told 167 = .ok (.ireturn, 1) := by decide +kernel
abbrev wcX12_told : List Cond := .code yX12_told cX12_told 4 (some .int) :: wsL_law
def jX12_told_24 (v0 : Nat) (v1 : Int32) (v2 : Int32) (v3 : Int32) (g : hs_S) : Option (Int32 × hs_S) :=
  if v1 < 0 then (
    some ((-3 : Int32), g)
  ) else (
    if hs_kd g v0 = 10 then
    if (hs_I g v0 4) ≤ v1 then (
      some ((-3 : Int32), g)
    ) else (
      if v3 < 0 then (
        some ((-3 : Int32), g)
      ) else (
        if v3 ≤ (5 : Int32) then (
          if v3 = (0 : Int32) then (
            if v2 = 0 then (
              if ¬ (hs_R g v0 7) = 0 then
              if hs_kd g ((hs_R g v0 7) - 1) = 100 then
              if hs_in v1 (hs_ln g ((hs_R g v0 7) - 1)) = true then
              some ((hs_I g ((hs_R g v0 7) - 1) v1.toNatClampNeg), g)
              else none else none else none
            ) else (
              if ¬ (hs_R g v0 24) = 0 then
              if hs_kd g ((hs_R g v0 24) - 1) = 100 then
              if hs_in v1 (hs_ln g ((hs_R g v0 24) - 1)) = true then
              some ((hs_I g ((hs_R g v0 24) - 1) v1.toNatClampNeg), g)
              else none else none else none
            )
          ) else (
          if v3 = (1 : Int32) then (
            hs_bd ((none : Option (Int32 × hs_S))) fun r10 g9 =>
            none
          ) else (
          if v3 = (2 : Int32) then (
            if ¬ (hs_R g v0 8) = 0 then
            if hs_kd g ((hs_R g v0 8) - 1) = 100 then
            if hs_in v1 (hs_ln g ((hs_R g v0 8) - 1)) = true then
            some ((hs_I g ((hs_R g v0 8) - 1) v1.toNatClampNeg), g)
            else none else none else none
          ) else (
          if v3 = (3 : Int32) then (
            if v2 = 0 then (
              some ((0 : Int32), g)
            ) else (
              if ¬ (hs_R g v0 26) = 0 then
              if hs_kd g ((hs_R g v0 26) - 1) = 100 then
              if hs_in v1 (hs_ln g ((hs_R g v0 26) - 1)) = true then
              some ((hs_I g ((hs_R g v0 26) - 1) v1.toNatClampNeg), g)
              else none else none else none
            )
          ) else (
          if v3 = (4 : Int32) then (
            hs_bd ((none : Option (Int32 × hs_S))) fun r19 g18 =>
            none
          ) else (
            if v2 = 0 then (
              hs_bd ((none : Option (Int32 × hs_S))) fun r22 g21 =>
              none
            ) else (
              some ((-1 : Int32), g)
            )
          )))))
        ) else (
          some ((-3 : Int32), g)
        )
      )
    )
    else none
  )
def fX12_told (v0 : Nat) (v1 : Int32) (v2 : Int32) (v3 : Int32) (g : hs_S) : Option (Int32 × hs_S) :=
  if v2 = 0 then (
    if hs_kd g v0 = 10 then
    if (hs_I g v0 3) = 0 then (
      some ((-2 : Int32), g)
    ) else (
      jX12_told_24 v0 v1 v2 v3 g
    )
    else none
  ) else (
    if hs_kd g v0 = 10 then
    if (hs_I g v0 22) = 0 then (
      some ((-2 : Int32), g)
    ) else (
      jX12_told_24 v0 v1 v2 v3 g
    )
    else none
  )
abbrev rmX12_told : Room := { frames := 5, cells := 0, slots := 0, locals := 120 }
set_option maxHeartbeats 4000000 in
set_option maxRecDepth 100000 in
theorem wX12_told_j24 {p : Program} {l : Launch} {e : Env} {s : State} {m : MethodId} {args : Array Value} {below : List Frame} {meth : Method} {c : Code} {B : Nat} {D : va_G} {E : Nat → ClassId} (hX : hs_cx cX12_told (some .int) 4 RX12 wcX12_told p s m args meth c D E) {o : Int32 × hs_S}  {v0 : Nat} {v1 : Int32} {v2 : Int32} {v3 : Int32}   {g : hs_S} {H : Heap} {locs : List Loc} {ls : Array Slot} (hf : jX12_told_24 v0 v1 v2 v3 g = some o) (hP : hs_P B D E g H) (hS : hs_Sx B s.heap H locs) (hl : lv_has ls 4 [(0, .ref (B + v0)), (1, .int v1), (2, .int v2), (3, .int v3)]) : W p l e rmX12_told s m args below meth c H locs 0 0 (MQ below (hs_Qi B D E o) args s 0 0 (hs_F B)) (F0 m 24 ls []) := by
  obtain ⟨hx, hb, hr, hml, hown, hts, hlocks, hK⟩ := id hX
  unfold jX12_told_24 at hf
  refine lv_iload_n hx hb dX12_told_24 rfl (lv_at hl 1 rfl) ?_
  refine lv_if_lt (tgt := 45) hx hb dX12_told_25 (by decide) (fun hc => ?_) (fun hc => ?_)
  · replace hf := hs_t hf hc
    refine lv_bipush (v := -3) hx hb dX12_told_45 (by decide) ?_
    exact hs_iret hx hb hr hlocks rfl hK hP hS hf dX12_told_47
  · replace hf := hs_f hf hc
    refine lv_iload_n hx hb dX12_told_28 rfl (lv_at hl 1 rfl) ?_
    refine lv_aload_n hx hb dX12_told_29 rfl (lv_at hl 0 rfl) ?_
    obtain ⟨h2, hf⟩ := hs_ck hf
    refine hs_geti (C := RX12) (T := TX12) (N := 48) hx hb hts (fun w h => List.mem_cons_of_mem _ (inlX12 w h)) hown hK.1 hP h2 (by decide) rfl 4 (by decide) (hts _ (List.mem_cons_of_mem _ wq392)) (fun _ h => h) rfl dX12_told_30 ?_
    refine lv_icmp_ge (tgt := 45) hx hb dX12_told_33 (by decide) (fun hc => ?_) (fun hc => ?_)
    · replace hf := hs_t hf hc
      refine lv_bipush (v := -3) hx hb dX12_told_45 (by decide) ?_
      exact hs_iret hx hb hr hlocks rfl hK hP hS hf dX12_told_47
    · replace hf := hs_f hf hc
      refine lv_iload_n hx hb dX12_told_36 rfl (lv_at hl 3 rfl) ?_
      refine lv_if_lt (tgt := 45) hx hb dX12_told_37 (by decide) (fun hc => ?_) (fun hc => ?_)
      · replace hf := hs_t hf hc
        refine lv_bipush (v := -3) hx hb dX12_told_45 (by decide) ?_
        exact hs_iret hx hb hr hlocks rfl hK hP hS hf dX12_told_47
      · replace hf := hs_f hf hc
        refine lv_iload_n hx hb dX12_told_40 rfl (lv_at hl 3 rfl) ?_
        refine lv_iconst (v := 5) hx hb dX12_told_41 (by decide) ?_
        refine lv_icmp_le (tgt := 48) hx hb dX12_told_42 (by decide) (fun hc => ?_) (fun hc => ?_)
        · replace hf := hs_t hf hc
          refine lv_iload_n hx hb dX12_told_48 rfl (lv_at hl 3 rfl) ?_
          by_cases hc : v3 = (0 : Int32)
          · replace hf := hs_t hf hc
            refine lv_tableIn (off := 35) (tgt := 84) hx hb dX12_told_49 (by rw [hc]; decide +kernel) (by rw [hc]; decide +kernel) (by rw [hc]; first | done | decide +kernel) (by decide) ?_
            refine lv_iload_n hx hb dX12_told_84 rfl (lv_at hl 2 rfl) ?_
            refine lv_if_eq (tgt := 97) hx hb dX12_told_85 (by decide) (fun hc => ?_) (fun hc => ?_)
            · replace hf := hs_t hf hc
              refine lv_aload_n hx hb dX12_told_97 rfl (lv_at hl 0 rfl) ?_
              obtain ⟨h3, hf⟩ := hs_ck hf
              refine hs_getr (C := RX12) (T := TX12) (N := 48) hx hb hts (fun w h => List.mem_cons_of_mem _ (inlX12 w h)) hown hK.1 hP h2 (by decide) rfl 7 (by decide) (hts _ (List.mem_cons_of_mem _ wq125)) (fun _ h => h) rfl h3 dX12_told_98 ?_
              refine lv_iload_n hx hb dX12_told_101 rfl (lv_at hl 1 rfl) ?_
              obtain ⟨h4, hf⟩ := hs_ck hf
              obtain ⟨h5, hf⟩ := hs_ck hf
              refine hs_iald hx hb hK.1 hP h4 h5 dX12_told_102 ?_
              exact hs_iret hx hb hr hlocks rfl hK hP hS hf dX12_told_103
            · replace hf := hs_f hf hc
              refine lv_aload_n hx hb dX12_told_88 rfl (lv_at hl 0 rfl) ?_
              obtain ⟨h6, hf⟩ := hs_ck hf
              refine hs_getr (C := RX12) (T := TX12) (N := 48) hx hb hts (fun w h => List.mem_cons_of_mem _ (inlX12 w h)) hown hK.1 hP h2 (by decide) rfl 24 (by decide) (hts _ (List.mem_cons_of_mem _ wq142)) (fun _ h => h) rfl h6 dX12_told_89 ?_
              refine lv_iload_n hx hb dX12_told_92 rfl (lv_at hl 1 rfl) ?_
              obtain ⟨h7, hf⟩ := hs_ck hf
              obtain ⟨h8, hf⟩ := hs_ck hf
              refine hs_iald hx hb hK.1 hP h7 h8 dX12_told_93 ?_
              refine lv_goto (tgt := 103) hx hb dX12_told_94 (by decide) ?_
              exact hs_iret hx hb hr hlocks rfl hK hP hS hf dX12_told_103
          have hn0 := hc
          replace hf := hs_f hf hc
          clear hc
          by_cases hc : v3 = (1 : Int32)
          · replace hf := hs_t hf hc
            refine lv_tableIn (off := 55) (tgt := 104) hx hb dX12_told_49 (by rw [hc]; decide +kernel) (by rw [hc]; decide +kernel) (by rw [hc]; first | done | decide +kernel) (by decide) ?_
            refine lv_aload_n hx hb dX12_told_104 rfl (lv_at hl 0 rfl) ?_
            refine lv_iload_n hx hb dX12_told_105 rfl (lv_at hl 1 rfl) ?_
            obtain ⟨r10, g9, h11, hf⟩ := hs_bd_some hf
            cases h11
          have hn1 := hc
          replace hf := hs_f hf hc
          clear hc
          by_cases hc : v3 = (2 : Int32)
          · replace hf := hs_t hf hc
            refine lv_tableIn (off := 61) (tgt := 110) hx hb dX12_told_49 (by rw [hc]; decide +kernel) (by rw [hc]; decide +kernel) (by rw [hc]; first | done | decide +kernel) (by decide) ?_
            refine lv_aload_n hx hb dX12_told_110 rfl (lv_at hl 0 rfl) ?_
            obtain ⟨h12, hf⟩ := hs_ck hf
            refine hs_getr (C := RX12) (T := TX12) (N := 48) hx hb hts (fun w h => List.mem_cons_of_mem _ (inlX12 w h)) hown hK.1 hP h2 (by decide) rfl 8 (by decide) (hts _ (List.mem_cons_of_mem _ wq126)) (fun _ h => h) rfl h12 dX12_told_111 ?_
            refine lv_iload_n hx hb dX12_told_114 rfl (lv_at hl 1 rfl) ?_
            obtain ⟨h13, hf⟩ := hs_ck hf
            obtain ⟨h14, hf⟩ := hs_ck hf
            refine hs_iald hx hb hK.1 hP h13 h14 dX12_told_115 ?_
            exact hs_iret hx hb hr hlocks rfl hK hP hS hf dX12_told_116
          have hn2 := hc
          replace hf := hs_f hf hc
          clear hc
          by_cases hc : v3 = (3 : Int32)
          · replace hf := hs_t hf hc
            refine lv_tableIn (off := 68) (tgt := 117) hx hb dX12_told_49 (by rw [hc]; decide +kernel) (by rw [hc]; decide +kernel) (by rw [hc]; first | done | decide +kernel) (by decide) ?_
            refine lv_iload_n hx hb dX12_told_117 rfl (lv_at hl 2 rfl) ?_
            refine lv_if_eq (tgt := 130) hx hb dX12_told_118 (by decide) (fun hc => ?_) (fun hc => ?_)
            · replace hf := hs_t hf hc
              refine lv_iconst (v := 0) hx hb dX12_told_130 (by decide) ?_
              exact hs_iret hx hb hr hlocks rfl hK hP hS hf dX12_told_131
            · replace hf := hs_f hf hc
              refine lv_aload_n hx hb dX12_told_121 rfl (lv_at hl 0 rfl) ?_
              obtain ⟨h15, hf⟩ := hs_ck hf
              refine hs_getr (C := RX12) (T := TX12) (N := 48) hx hb hts (fun w h => List.mem_cons_of_mem _ (inlX12 w h)) hown hK.1 hP h2 (by decide) rfl 26 (by decide) (hts _ (List.mem_cons_of_mem _ wq144)) (fun _ h => h) rfl h15 dX12_told_122 ?_
              refine lv_iload_n hx hb dX12_told_125 rfl (lv_at hl 1 rfl) ?_
              obtain ⟨h16, hf⟩ := hs_ck hf
              obtain ⟨h17, hf⟩ := hs_ck hf
              refine hs_iald hx hb hK.1 hP h16 h17 dX12_told_126 ?_
              refine lv_goto (tgt := 131) hx hb dX12_told_127 (by decide) ?_
              exact hs_iret hx hb hr hlocks rfl hK hP hS hf dX12_told_131
          have hn3 := hc
          replace hf := hs_f hf hc
          clear hc
          by_cases hc : v3 = (4 : Int32)
          · replace hf := hs_t hf hc
            refine lv_tableIn (off := 83) (tgt := 132) hx hb dX12_told_49 (by rw [hc]; decide +kernel) (by rw [hc]; decide +kernel) (by rw [hc]; first | done | decide +kernel) (by decide) ?_
            refine lv_aload_n hx hb dX12_told_132 rfl (lv_at hl 0 rfl) ?_
            refine lv_iload_n hx hb dX12_told_133 rfl (lv_at hl 1 rfl) ?_
            refine lv_iload_n hx hb dX12_told_134 rfl (lv_at hl 2 rfl) ?_
            obtain ⟨r19, g18, h20, hf⟩ := hs_bd_some hf
            cases h20
          have hn4 := hc
          replace hf := hs_f hf hc
          clear hc
          refine lv_tableOut (tgt := 154) hx hb dX12_told_49 (by have := lv_neT (a := 0) hn0 rfl; have := lv_neT (a := 1) hn1 rfl; have := lv_neT (a := 2) hn2 rfl; have := lv_neT (a := 3) hn3 rfl; have := lv_neT (a := 4) hn4 rfl; omega) (by decide) ?_
          refine lv_iload_n hx hb dX12_told_154 rfl (lv_at hl 2 rfl) ?_
          refine lv_if_eq (tgt := 162) hx hb dX12_told_155 (by decide) (fun hc => ?_) (fun hc => ?_)
          · replace hf := hs_t hf hc
            refine lv_aload_n hx hb dX12_told_162 rfl (lv_at hl 0 rfl) ?_
            refine lv_iload_n hx hb dX12_told_163 rfl (lv_at hl 1 rfl) ?_
            obtain ⟨r22, g21, h23, hf⟩ := hs_bd_some hf
            cases h23
          · replace hf := hs_f hf hc
            refine lv_iconst (v := -1) hx hb dX12_told_158 (by decide) ?_
            refine lv_goto (tgt := 167) hx hb dX12_told_159 (by decide) ?_
            exact hs_iret hx hb hr hlocks rfl hK hP hS hf dX12_told_167
        · replace hf := hs_f hf hc
          refine lv_bipush (v := -3) hx hb dX12_told_45 (by decide) ?_
          exact hs_iret hx hb hr hlocks rfl hK hP hS hf dX12_told_47

set_option maxHeartbeats 4000000 in
set_option maxRecDepth 100000 in
theorem ctX12_told (l : Launch) (B : Nat) (D : va_G) (E : Nat → ClassId) (v0 : Nat) (v1 : Int32) (v2 : Int32) (v3 : Int32) (g : hs_S) (o : Int32 × hs_S) (hf : fX12_told v0 v1 v2 v3 g = some o) : Met l yX12_told wcX12_told rmX12_told (hs_Pc B D E g [.ref (B + v0), .int v1, .int v2, .int v3]) (hs_Qi B D E o) (0) (0) (hs_F B) := by
  refine Met.ofW (cc := cX12_told) (maxL := 4) (ret := (some .int)) (by decide) rfl ?_
  intro p e s m args below meth c s₁ Bd hml hv
  obtain ⟨rfl, hP, hK⟩ := hv
  have hx := Bd.exec
  have hb := Bd.bytes
  have hr := Bd.returns
  have hts := atoms_spec (ws := wcX12_told) Bd.pre
  have hown : s.vm.findClass RX12 = some m.cls := findClass_of_methodNamed Bd.named
  have hlocks := Bd.notSynchronized
  have hS : hs_Sx B s.heap s.heap [] := va_S.rf
  have hX : hs_cx cX12_told (some .int) 4 RX12 wcX12_told p s m (List.toArray [.ref (B + v0), .int v1, .int v2, .int v3]) meth c D E := ⟨hx, hb, hr, hml, hown, hts, hlocks, hK⟩
  have hl := lv_entry ([.ref (B + v0), .int v1, .int v2, .int v3]) (n := 4) (Nat.le_of_ble_eq_true rfl)
  rw [lg_entry_eq]
  generalize (lg_sl ([.ref (B + v0), .int v1, .int v2, .int v3]) ++ List.replicate (4 - (lg_sl ([.ref (B + v0), .int v1, .int v2, .int v3])).length) Slot.unset).toArray = ls at hl ⊢
  have hl : lv_has ls 4 [(0, .ref (B + v0)), (1, .int v1), (2, .int v2), (3, .int v3)] := hl
  have hP : hs_P B D E g s.heap := hP
  unfold fX12_told at hf
  refine lv_iload_n hx hb dX12_told_0 rfl (lv_at hl 2 rfl) ?_
  refine lv_if_eq (tgt := 14) hx hb dX12_told_1 (by decide) (fun hc => ?_) (fun hc => ?_)
  · replace hf := hs_t hf hc
    refine lv_aload_n hx hb dX12_told_14 rfl (lv_at hl 0 rfl) ?_
    obtain ⟨h1, hf⟩ := hs_ck hf
    refine hs_geti (C := RX12) (T := TX12) (N := 48) hx hb hts (fun w h => List.mem_cons_of_mem _ (inlX12 w h)) hown hK.1 hP h1 (by decide) rfl 3 (by decide) (hts _ (List.mem_cons_of_mem _ wq393)) (fun _ h => h) rfl dX12_told_15 ?_
    refine lv_if_ne (tgt := 24) hx hb dX12_told_18 (by decide) (fun hc => ?_) (fun hc => ?_)
    · replace hf := hs_f hf hc
      exact wX12_told_j24 hX hf hP hS (lv_sub hl [0, 1, 2, 3] rfl)
    · replace hf := hs_t hf hc
      refine lv_bipush (v := -2) hx hb dX12_told_21 (by decide) ?_
      exact hs_iret hx hb hr hlocks rfl hK hP hS hf dX12_told_23
  · replace hf := hs_f hf hc
    refine lv_aload_n hx hb dX12_told_4 rfl (lv_at hl 0 rfl) ?_
    obtain ⟨h24, hf⟩ := hs_ck hf
    refine hs_geti (C := RX12) (T := TX12) (N := 48) hx hb hts (fun w h => List.mem_cons_of_mem _ (inlX12 w h)) hown hK.1 hP h24 (by decide) rfl 22 (by decide) (hts _ (List.mem_cons_of_mem _ wq394)) (fun _ h => h) rfl dX12_told_5 ?_
    refine lv_if_ne (tgt := 24) hx hb dX12_told_8 (by decide) (fun hc => ?_) (fun hc => ?_)
    · replace hf := hs_f hf hc
      exact wX12_told_j24 hX hf hP hS (lv_sub hl [0, 1, 2, 3] rfl)
    · replace hf := hs_t hf hc
      refine lv_goto (tgt := 21) hx hb dX12_told_11 (by decide) ?_
      refine lv_bipush (v := -2) hx hb dX12_told_21 (by decide) ?_
      exact hs_iret hx hb hr hlocks rfl hK hP hS hf dX12_told_23

theorem dX12_byteAt_0 : decode cX12_byteAt 0 = .ok (.iload_n 2, 1) := by decide +kernel
theorem dX12_byteAt_1 : decode cX12_byteAt 1 = .ok (.ifCond .eq 13, 3) := by decide +kernel
theorem dX12_byteAt_4 : decode cX12_byteAt 4 = .ok (.aload_n 0, 1) := by decide +kernel
theorem dX12_byteAt_5 : decode cX12_byteAt 5 = .ok (.getfield 195, 3) := by decide +kernel
theorem dX12_byteAt_8 : decode cX12_byteAt 8 = .ok (.ifCond .ne 16, 3) := by decide +kernel
theorem dX12_byteAt_11 : decode cX12_byteAt 11 = .ok (.goto 10, 3) := by decide +kernel
theorem dX12_byteAt_14 : decode cX12_byteAt 14 = .ok (.aload_n 0, 1) := by decide +kernel
theorem dX12_byteAt_15 : decode cX12_byteAt 15 = .ok (.getfield 191, 3) := by decide +kernel
theorem dX12_byteAt_18 : decode cX12_byteAt 18 = .ok (.ifCond .ne 6, 3) := by decide +kernel
theorem dX12_byteAt_21 : decode cX12_byteAt 21 = .ok (.bipush (-2), 2) := by decide +kernel
theorem dX12_byteAt_23 : decode cX12_byteAt 23 = .ok (.ireturn, 1) := by decide +kernel
theorem dX12_byteAt_24 : decode cX12_byteAt 24 = .ok (.iload_n 1, 1) := by decide +kernel
theorem dX12_byteAt_25 : decode cX12_byteAt 25 = .ok (.ifCond .lt 38, 3) := by decide +kernel
theorem dX12_byteAt_28 : decode cX12_byteAt 28 = .ok (.iload_n 1, 1) := by decide +kernel
theorem dX12_byteAt_29 : decode cX12_byteAt 29 = .ok (.aload_n 0, 1) := by decide +kernel
theorem dX12_byteAt_30 : decode cX12_byteAt 30 = .ok (.getfield 188, 3) := by decide +kernel
theorem dX12_byteAt_33 : decode cX12_byteAt 33 = .ok (.if_icmp .ge 30, 3) := by decide +kernel
theorem dX12_byteAt_36 : decode cX12_byteAt 36 = .ok (.iload_n 3, 1) := by decide +kernel
theorem dX12_byteAt_37 : decode cX12_byteAt 37 = .ok (.ifCond .lt 26, 3) := by decide +kernel
theorem dX12_byteAt_40 : decode cX12_byteAt 40 = .ok (.iload_n 3, 1) := by decide +kernel
theorem dX12_byteAt_41 : decode cX12_byteAt 41 = .ok (.iload_n 2, 1) := by decide +kernel
theorem dX12_byteAt_42 : decode cX12_byteAt 42 = .ok (.ifCond .eq 12, 3) := by decide +kernel
theorem dX12_byteAt_45 : decode cX12_byteAt 45 = .ok (.aload_n 0, 1) := by decide +kernel
theorem dX12_byteAt_46 : decode cX12_byteAt 46 = .ok (.getfield 72, 3) := by decide +kernel
theorem dX12_byteAt_49 : decode cX12_byteAt 49 = .ok (.iload_n 1, 1) := by decide +kernel
theorem dX12_byteAt_50 : decode cX12_byteAt 50 = .ok (.iaload, 1) := by decide +kernel
theorem dX12_byteAt_51 : decode cX12_byteAt 51 = .ok (.goto 9, 3) := by decide +kernel
theorem dX12_byteAt_54 : decode cX12_byteAt 54 = .ok (.aload_n 0, 1) := by decide +kernel
theorem dX12_byteAt_55 : decode cX12_byteAt 55 = .ok (.getfield 23, 3) := by decide +kernel
theorem dX12_byteAt_58 : decode cX12_byteAt 58 = .ok (.iload_n 1, 1) := by decide +kernel
theorem dX12_byteAt_59 : decode cX12_byteAt 59 = .ok (.iaload, 1) := by decide +kernel
theorem dX12_byteAt_60 : decode cX12_byteAt 60 = .ok (.if_icmp .lt 6, 3) := by decide +kernel
theorem dX12_byteAt_63 : decode cX12_byteAt 63 = .ok (.bipush (-3), 2) := by decide +kernel
theorem dX12_byteAt_65 : decode cX12_byteAt 65 = .ok (.ireturn, 1) := by decide +kernel
theorem dX12_byteAt_66 : decode cX12_byteAt 66 = .ok (.iload_n 2, 1) := by decide +kernel
theorem dX12_byteAt_67 : decode cX12_byteAt 67 = .ok (.ifCond .eq 18, 3) := by decide +kernel
theorem dX12_byteAt_70 : decode cX12_byteAt 70 = .ok (.aload_n 0, 1) := by decide +kernel
theorem dX12_byteAt_71 : decode cX12_byteAt 71 = .ok (.getfield 69, 3) := by decide +kernel
theorem dX12_byteAt_74 : decode cX12_byteAt 74 = .ok (.sipush 4001, 3) := by decide +kernel
theorem dX12_byteAt_77 : decode cX12_byteAt 77 = .ok (.iload_n 1, 1) := by decide +kernel
theorem dX12_byteAt_78 : decode cX12_byteAt 78 = .ok (.imul, 1) := by decide +kernel
theorem dX12_byteAt_79 : decode cX12_byteAt 79 = .ok (.iload_n 3, 1) := by decide +kernel
theorem dX12_byteAt_80 : decode cX12_byteAt 80 = .ok (.iadd, 1) := by decide +kernel
theorem dX12_byteAt_81 : decode cX12_byteAt 81 = .ok (.iaload, 1) := by decide +kernel
theorem dX12_byteAt_82 : decode cX12_byteAt 82 = .ok (.goto 9, 3) := by decide +kernel
theorem dX12_byteAt_85 : decode cX12_byteAt 85 = .ok (.aload_n 0, 1) := by decide +kernel
theorem dX12_byteAt_86 : decode cX12_byteAt 86 = .ok (.iload_n 1, 1) := by decide +kernel
theorem dX12_byteAt_87 : decode cX12_byteAt 87 = .ok (.iload_n 3, 1) := by decide +kernel
theorem dX12_byteAt_88 : decode cX12_byteAt 88 = .ok (.invokevirtual 201, 3) := by decide +kernel
theorem dX12_byteAt_91 : decode cX12_byteAt 91 = .ok (.ireturn, 1) := by decide +kernel
abbrev wcX12_byteAt : List Cond := .code yX12_byteAt cX12_byteAt 4 (some .int) :: wsL_law
def jX12_byteAt_60 (v0 : Nat) (v1 : Int32) (v2 : Int32) (v3 : Int32) (s0 : Int32) (s1 : Int32) (g : hs_S) : Option (Int32 × hs_S) :=
  if s1 < s0 then (
    if v2 = 0 then (
      if hs_kd g v0 = 10 then
      hs_bd ((none : Option (Int32 × hs_S))) fun r8 g7 =>
      none
      else none
    ) else (
      if hs_kd g v0 = 10 then
      if ¬ (hs_R g v0 23) = 0 then
      if hs_kd g ((hs_R g v0 23) - 1) = 100 then
      if hs_in (((4001 : Int32) * v1) + v3) (hs_ln g ((hs_R g v0 23) - 1)) = true then
      some ((hs_I g ((hs_R g v0 23) - 1) (((4001 : Int32) * v1) + v3).toNatClampNeg), g)
      else none else none else none else none
    )
  ) else (
    some ((-3 : Int32), g)
  )
def jX12_byteAt_24 (v0 : Nat) (v1 : Int32) (v2 : Int32) (v3 : Int32) (g : hs_S) : Option (Int32 × hs_S) :=
  if v1 < 0 then (
    some ((-3 : Int32), g)
  ) else (
    if hs_kd g v0 = 10 then
    if (hs_I g v0 4) ≤ v1 then (
      some ((-3 : Int32), g)
    ) else (
      if v3 < 0 then (
        some ((-3 : Int32), g)
      ) else (
        if v2 = 0 then (
          if ¬ (hs_R g v0 7) = 0 then
          if hs_kd g ((hs_R g v0 7) - 1) = 100 then
          if hs_in v1 (hs_ln g ((hs_R g v0 7) - 1)) = true then
          jX12_byteAt_60 v0 v1 v2 v3 (hs_I g ((hs_R g v0 7) - 1) v1.toNatClampNeg) v3 g
          else none else none else none
        ) else (
          if ¬ (hs_R g v0 24) = 0 then
          if hs_kd g ((hs_R g v0 24) - 1) = 100 then
          if hs_in v1 (hs_ln g ((hs_R g v0 24) - 1)) = true then
          jX12_byteAt_60 v0 v1 v2 v3 (hs_I g ((hs_R g v0 24) - 1) v1.toNatClampNeg) v3 g
          else none else none else none
        )
      )
    )
    else none
  )
def fX12_byteAt (v0 : Nat) (v1 : Int32) (v2 : Int32) (v3 : Int32) (g : hs_S) : Option (Int32 × hs_S) :=
  if v2 = 0 then (
    if hs_kd g v0 = 10 then
    if (hs_I g v0 3) = 0 then (
      some ((-2 : Int32), g)
    ) else (
      jX12_byteAt_24 v0 v1 v2 v3 g
    )
    else none
  ) else (
    if hs_kd g v0 = 10 then
    if (hs_I g v0 22) = 0 then (
      some ((-2 : Int32), g)
    ) else (
      jX12_byteAt_24 v0 v1 v2 v3 g
    )
    else none
  )
abbrev rmX12_byteAt : Room := { frames := 1, cells := 0, slots := 0, locals := 22 }
set_option maxHeartbeats 4000000 in
set_option maxRecDepth 100000 in
theorem wX12_byteAt_j60 {p : Program} {l : Launch} {e : Env} {s : State} {m : MethodId} {args : Array Value} {below : List Frame} {meth : Method} {c : Code} {B : Nat} {D : va_G} {E : Nat → ClassId} (hX : hs_cx cX12_byteAt (some .int) 4 RX12 wcX12_byteAt p s m args meth c D E) {o : Int32 × hs_S}  {v0 : Nat} {v1 : Int32} {v2 : Int32} {v3 : Int32} {s0 : Int32} {s1 : Int32}   {g : hs_S} {H : Heap} {locs : List Loc} {ls : Array Slot} (hf : jX12_byteAt_60 v0 v1 v2 v3 s0 s1 g = some o) (hP : hs_P B D E g H) (hS : hs_Sx B s.heap H locs) (hl : lv_has ls 4 [(0, .ref (B + v0)), (1, .int v1), (2, .int v2), (3, .int v3)]) : W p l e rmX12_byteAt s m args below meth c H locs 0 0 (MQ below (hs_Qi B D E o) args s 0 0 (hs_F B)) (F0 m 60 ls [.int s0, .int s1]) := by
  obtain ⟨hx, hb, hr, hml, hown, hts, hlocks, hK⟩ := id hX
  unfold jX12_byteAt_60 at hf
  refine lv_icmp_lt (tgt := 66) hx hb dX12_byteAt_60 (by decide) (fun hc => ?_) (fun hc => ?_)
  · replace hf := hs_t hf hc
    refine lv_iload_n hx hb dX12_byteAt_66 rfl (lv_at hl 2 rfl) ?_
    refine lv_if_eq (tgt := 85) hx hb dX12_byteAt_67 (by decide) (fun hc => ?_) (fun hc => ?_)
    · replace hf := hs_t hf hc
      refine lv_aload_n hx hb dX12_byteAt_85 rfl (lv_at hl 0 rfl) ?_
      refine lv_iload_n hx hb dX12_byteAt_86 rfl (lv_at hl 1 rfl) ?_
      refine lv_iload_n hx hb dX12_byteAt_87 rfl (lv_at hl 3 rfl) ?_
      obtain ⟨h6, hf⟩ := hs_ck hf
      obtain ⟨r8, g7, h9, hf⟩ := hs_bd_some hf
      cases h9
    · replace hf := hs_f hf hc
      refine lv_aload_n hx hb dX12_byteAt_70 rfl (lv_at hl 0 rfl) ?_
      obtain ⟨h10, hf⟩ := hs_ck hf
      obtain ⟨h11, hf⟩ := hs_ck hf
      refine hs_getr (C := RX12) (T := TX12) (N := 48) hx hb hts (fun w h => List.mem_cons_of_mem _ (inlX12 w h)) hown hK.1 hP h10 (by decide) rfl 23 (by decide) (hts _ (List.mem_cons_of_mem _ wq141)) (fun _ h => h) rfl h11 dX12_byteAt_71 ?_
      refine lv_sipush (v := 4001) hx hb dX12_byteAt_74 (by decide) ?_
      refine lv_iload_n hx hb dX12_byteAt_77 rfl (lv_at hl 1 rfl) ?_
      refine lv_imul hx hb dX12_byteAt_78 ?_
      refine lv_iload_n hx hb dX12_byteAt_79 rfl (lv_at hl 3 rfl) ?_
      refine lv_iadd hx hb dX12_byteAt_80 ?_
      obtain ⟨h12, hf⟩ := hs_ck hf
      obtain ⟨h13, hf⟩ := hs_ck hf
      refine hs_iald hx hb hK.1 hP h12 h13 dX12_byteAt_81 ?_
      refine lv_goto (tgt := 91) hx hb dX12_byteAt_82 (by decide) ?_
      exact hs_iret hx hb hr hlocks rfl hK hP hS hf dX12_byteAt_91
  · replace hf := hs_f hf hc
    refine lv_bipush (v := -3) hx hb dX12_byteAt_63 (by decide) ?_
    exact hs_iret hx hb hr hlocks rfl hK hP hS hf dX12_byteAt_65

set_option maxHeartbeats 4000000 in
set_option maxRecDepth 100000 in
theorem wX12_byteAt_j24 {p : Program} {l : Launch} {e : Env} {s : State} {m : MethodId} {args : Array Value} {below : List Frame} {meth : Method} {c : Code} {B : Nat} {D : va_G} {E : Nat → ClassId} (hX : hs_cx cX12_byteAt (some .int) 4 RX12 wcX12_byteAt p s m args meth c D E) {o : Int32 × hs_S}  {v0 : Nat} {v1 : Int32} {v2 : Int32} {v3 : Int32}   {g : hs_S} {H : Heap} {locs : List Loc} {ls : Array Slot} (hf : jX12_byteAt_24 v0 v1 v2 v3 g = some o) (hP : hs_P B D E g H) (hS : hs_Sx B s.heap H locs) (hl : lv_has ls 4 [(0, .ref (B + v0)), (1, .int v1), (2, .int v2), (3, .int v3)]) : W p l e rmX12_byteAt s m args below meth c H locs 0 0 (MQ below (hs_Qi B D E o) args s 0 0 (hs_F B)) (F0 m 24 ls []) := by
  obtain ⟨hx, hb, hr, hml, hown, hts, hlocks, hK⟩ := id hX
  unfold jX12_byteAt_24 at hf
  refine lv_iload_n hx hb dX12_byteAt_24 rfl (lv_at hl 1 rfl) ?_
  refine lv_if_lt (tgt := 63) hx hb dX12_byteAt_25 (by decide) (fun hc => ?_) (fun hc => ?_)
  · replace hf := hs_t hf hc
    refine lv_bipush (v := -3) hx hb dX12_byteAt_63 (by decide) ?_
    exact hs_iret hx hb hr hlocks rfl hK hP hS hf dX12_byteAt_65
  · replace hf := hs_f hf hc
    refine lv_iload_n hx hb dX12_byteAt_28 rfl (lv_at hl 1 rfl) ?_
    refine lv_aload_n hx hb dX12_byteAt_29 rfl (lv_at hl 0 rfl) ?_
    obtain ⟨h2, hf⟩ := hs_ck hf
    refine hs_geti (C := RX12) (T := TX12) (N := 48) hx hb hts (fun w h => List.mem_cons_of_mem _ (inlX12 w h)) hown hK.1 hP h2 (by decide) rfl 4 (by decide) (hts _ (List.mem_cons_of_mem _ wq392)) (fun _ h => h) rfl dX12_byteAt_30 ?_
    refine lv_icmp_ge (tgt := 63) hx hb dX12_byteAt_33 (by decide) (fun hc => ?_) (fun hc => ?_)
    · replace hf := hs_t hf hc
      refine lv_bipush (v := -3) hx hb dX12_byteAt_63 (by decide) ?_
      exact hs_iret hx hb hr hlocks rfl hK hP hS hf dX12_byteAt_65
    · replace hf := hs_f hf hc
      refine lv_iload_n hx hb dX12_byteAt_36 rfl (lv_at hl 3 rfl) ?_
      refine lv_if_lt (tgt := 63) hx hb dX12_byteAt_37 (by decide) (fun hc => ?_) (fun hc => ?_)
      · replace hf := hs_t hf hc
        refine lv_bipush (v := -3) hx hb dX12_byteAt_63 (by decide) ?_
        exact hs_iret hx hb hr hlocks rfl hK hP hS hf dX12_byteAt_65
      · replace hf := hs_f hf hc
        refine lv_iload_n hx hb dX12_byteAt_40 rfl (lv_at hl 3 rfl) ?_
        refine lv_iload_n hx hb dX12_byteAt_41 rfl (lv_at hl 2 rfl) ?_
        refine lv_if_eq (tgt := 54) hx hb dX12_byteAt_42 (by decide) (fun hc => ?_) (fun hc => ?_)
        · replace hf := hs_t hf hc
          refine lv_aload_n hx hb dX12_byteAt_54 rfl (lv_at hl 0 rfl) ?_
          obtain ⟨h3, hf⟩ := hs_ck hf
          refine hs_getr (C := RX12) (T := TX12) (N := 48) hx hb hts (fun w h => List.mem_cons_of_mem _ (inlX12 w h)) hown hK.1 hP h2 (by decide) rfl 7 (by decide) (hts _ (List.mem_cons_of_mem _ wq125)) (fun _ h => h) rfl h3 dX12_byteAt_55 ?_
          refine lv_iload_n hx hb dX12_byteAt_58 rfl (lv_at hl 1 rfl) ?_
          obtain ⟨h4, hf⟩ := hs_ck hf
          obtain ⟨h5, hf⟩ := hs_ck hf
          refine hs_iald hx hb hK.1 hP h4 h5 dX12_byteAt_59 ?_
          exact wX12_byteAt_j60 hX hf hP hS (lv_sub hl [0, 1, 2, 3] rfl)
        · replace hf := hs_f hf hc
          refine lv_aload_n hx hb dX12_byteAt_45 rfl (lv_at hl 0 rfl) ?_
          obtain ⟨h14, hf⟩ := hs_ck hf
          refine hs_getr (C := RX12) (T := TX12) (N := 48) hx hb hts (fun w h => List.mem_cons_of_mem _ (inlX12 w h)) hown hK.1 hP h2 (by decide) rfl 24 (by decide) (hts _ (List.mem_cons_of_mem _ wq142)) (fun _ h => h) rfl h14 dX12_byteAt_46 ?_
          refine lv_iload_n hx hb dX12_byteAt_49 rfl (lv_at hl 1 rfl) ?_
          obtain ⟨h15, hf⟩ := hs_ck hf
          obtain ⟨h16, hf⟩ := hs_ck hf
          refine hs_iald hx hb hK.1 hP h15 h16 dX12_byteAt_50 ?_
          refine lv_goto (tgt := 60) hx hb dX12_byteAt_51 (by decide) ?_
          exact wX12_byteAt_j60 hX hf hP hS (lv_sub hl [0, 1, 2, 3] rfl)

set_option maxHeartbeats 4000000 in
set_option maxRecDepth 100000 in
theorem ctX12_byteAt (l : Launch) (B : Nat) (D : va_G) (E : Nat → ClassId) (v0 : Nat) (v1 : Int32) (v2 : Int32) (v3 : Int32) (g : hs_S) (o : Int32 × hs_S) (hf : fX12_byteAt v0 v1 v2 v3 g = some o) : Met l yX12_byteAt wcX12_byteAt rmX12_byteAt (hs_Pc B D E g [.ref (B + v0), .int v1, .int v2, .int v3]) (hs_Qi B D E o) (0) (0) (hs_F B) := by
  refine Met.ofW (cc := cX12_byteAt) (maxL := 4) (ret := (some .int)) (by decide) rfl ?_
  intro p e s m args below meth c s₁ Bd hml hv
  obtain ⟨rfl, hP, hK⟩ := hv
  have hx := Bd.exec
  have hb := Bd.bytes
  have hr := Bd.returns
  have hts := atoms_spec (ws := wcX12_byteAt) Bd.pre
  have hown : s.vm.findClass RX12 = some m.cls := findClass_of_methodNamed Bd.named
  have hlocks := Bd.notSynchronized
  have hS : hs_Sx B s.heap s.heap [] := va_S.rf
  have hX : hs_cx cX12_byteAt (some .int) 4 RX12 wcX12_byteAt p s m (List.toArray [.ref (B + v0), .int v1, .int v2, .int v3]) meth c D E := ⟨hx, hb, hr, hml, hown, hts, hlocks, hK⟩
  have hl := lv_entry ([.ref (B + v0), .int v1, .int v2, .int v3]) (n := 4) (Nat.le_of_ble_eq_true rfl)
  rw [lg_entry_eq]
  generalize (lg_sl ([.ref (B + v0), .int v1, .int v2, .int v3]) ++ List.replicate (4 - (lg_sl ([.ref (B + v0), .int v1, .int v2, .int v3])).length) Slot.unset).toArray = ls at hl ⊢
  have hl : lv_has ls 4 [(0, .ref (B + v0)), (1, .int v1), (2, .int v2), (3, .int v3)] := hl
  have hP : hs_P B D E g s.heap := hP
  unfold fX12_byteAt at hf
  refine lv_iload_n hx hb dX12_byteAt_0 rfl (lv_at hl 2 rfl) ?_
  refine lv_if_eq (tgt := 14) hx hb dX12_byteAt_1 (by decide) (fun hc => ?_) (fun hc => ?_)
  · replace hf := hs_t hf hc
    refine lv_aload_n hx hb dX12_byteAt_14 rfl (lv_at hl 0 rfl) ?_
    obtain ⟨h1, hf⟩ := hs_ck hf
    refine hs_geti (C := RX12) (T := TX12) (N := 48) hx hb hts (fun w h => List.mem_cons_of_mem _ (inlX12 w h)) hown hK.1 hP h1 (by decide) rfl 3 (by decide) (hts _ (List.mem_cons_of_mem _ wq393)) (fun _ h => h) rfl dX12_byteAt_15 ?_
    refine lv_if_ne (tgt := 24) hx hb dX12_byteAt_18 (by decide) (fun hc => ?_) (fun hc => ?_)
    · replace hf := hs_f hf hc
      exact wX12_byteAt_j24 hX hf hP hS (lv_sub hl [0, 1, 2, 3] rfl)
    · replace hf := hs_t hf hc
      refine lv_bipush (v := -2) hx hb dX12_byteAt_21 (by decide) ?_
      exact hs_iret hx hb hr hlocks rfl hK hP hS hf dX12_byteAt_23
  · replace hf := hs_f hf hc
    refine lv_aload_n hx hb dX12_byteAt_4 rfl (lv_at hl 0 rfl) ?_
    obtain ⟨h17, hf⟩ := hs_ck hf
    refine hs_geti (C := RX12) (T := TX12) (N := 48) hx hb hts (fun w h => List.mem_cons_of_mem _ (inlX12 w h)) hown hK.1 hP h17 (by decide) rfl 22 (by decide) (hts _ (List.mem_cons_of_mem _ wq394)) (fun _ h => h) rfl dX12_byteAt_5 ?_
    refine lv_if_ne (tgt := 24) hx hb dX12_byteAt_8 (by decide) (fun hc => ?_) (fun hc => ?_)
    · replace hf := hs_f hf hc
      exact wX12_byteAt_j24 hX hf hP hS (lv_sub hl [0, 1, 2, 3] rfl)
    · replace hf := hs_t hf hc
      refine lv_goto (tgt := 21) hx hb dX12_byteAt_11 (by decide) ?_
      refine lv_bipush (v := -2) hx hb dX12_byteAt_21 (by decide) ?_
      exact hs_iret hx hb hr hlocks rfl hK hP hS hf dX12_byteAt_23

theorem dX12_handler_0 : decode cX12_handler 0 = .ok (.iload_n 2, 1) := by decide +kernel
theorem dX12_handler_1 : decode cX12_handler 1 = .ok (.ifCond .eq 13, 3) := by decide +kernel
theorem dX12_handler_4 : decode cX12_handler 4 = .ok (.aload_n 0, 1) := by decide +kernel
theorem dX12_handler_5 : decode cX12_handler 5 = .ok (.getfield 195, 3) := by decide +kernel
theorem dX12_handler_8 : decode cX12_handler 8 = .ok (.ifCond .ne 16, 3) := by decide +kernel
theorem dX12_handler_11 : decode cX12_handler 11 = .ok (.goto 10, 3) := by decide +kernel
theorem dX12_handler_14 : decode cX12_handler 14 = .ok (.aload_n 0, 1) := by decide +kernel
theorem dX12_handler_15 : decode cX12_handler 15 = .ok (.getfield 191, 3) := by decide +kernel
theorem dX12_handler_18 : decode cX12_handler 18 = .ok (.ifCond .ne 6, 3) := by decide +kernel
theorem dX12_handler_21 : decode cX12_handler 21 = .ok (.bipush (-2), 2) := by decide +kernel
theorem dX12_handler_23 : decode cX12_handler 23 = .ok (.ireturn, 1) := by decide +kernel
theorem dX12_handler_24 : decode cX12_handler 24 = .ok (.iload_n 1, 1) := by decide +kernel
theorem dX12_handler_25 : decode cX12_handler 25 = .ok (.ifCond .lt 36, 3) := by decide +kernel
theorem dX12_handler_28 : decode cX12_handler 28 = .ok (.iload_n 1, 1) := by decide +kernel
theorem dX12_handler_29 : decode cX12_handler 29 = .ok (.aload_n 0, 1) := by decide +kernel
theorem dX12_handler_30 : decode cX12_handler 30 = .ok (.getfield 188, 3) := by decide +kernel
theorem dX12_handler_33 : decode cX12_handler 33 = .ok (.if_icmp .ge 28, 3) := by decide +kernel
theorem dX12_handler_36 : decode cX12_handler 36 = .ok (.iload_n 3, 1) := by decide +kernel
theorem dX12_handler_37 : decode cX12_handler 37 = .ok (.ifCond .lt 24, 3) := by decide +kernel
theorem dX12_handler_40 : decode cX12_handler 40 = .ok (.iload_n 3, 1) := by decide +kernel
theorem dX12_handler_41 : decode cX12_handler 41 = .ok (.aload_n 0, 1) := by decide +kernel
theorem dX12_handler_42 : decode cX12_handler 42 = .ok (.getfield 26, 3) := by decide +kernel
theorem dX12_handler_45 : decode cX12_handler 45 = .ok (.iload_n 1, 1) := by decide +kernel
theorem dX12_handler_46 : decode cX12_handler 46 = .ok (.iaload, 1) := by decide +kernel
theorem dX12_handler_47 : decode cX12_handler 47 = .ok (.if_icmp .ge 14, 3) := by decide +kernel
theorem dX12_handler_50 : decode cX12_handler 50 = .ok (.iload 4, 2) := by decide +kernel
theorem dX12_handler_52 : decode cX12_handler 52 = .ok (.ifCond .lt 9, 3) := by decide +kernel
theorem dX12_handler_55 : decode cX12_handler 55 = .ok (.iload 4, 2) := by decide +kernel
theorem dX12_handler_57 : decode cX12_handler 57 = .ok (.iconst 3, 1) := by decide +kernel
theorem dX12_handler_58 : decode cX12_handler 58 = .ok (.if_icmp .le 6, 3) := by decide +kernel
theorem dX12_handler_61 : decode cX12_handler 61 = .ok (.bipush (-3), 2) := by decide +kernel
theorem dX12_handler_63 : decode cX12_handler 63 = .ok (.ireturn, 1) := by decide +kernel
theorem dX12_handler_64 : decode cX12_handler 64 = .ok (.bipush 32, 2) := by decide +kernel
theorem dX12_handler_66 : decode cX12_handler 66 = .ok (.iload_n 1, 1) := by decide +kernel
theorem dX12_handler_67 : decode cX12_handler 67 = .ok (.imul, 1) := by decide +kernel
theorem dX12_handler_68 : decode cX12_handler 68 = .ok (.iconst 4, 1) := by decide +kernel
theorem dX12_handler_69 : decode cX12_handler 69 = .ok (.iload_n 3, 1) := by decide +kernel
theorem dX12_handler_70 : decode cX12_handler 70 = .ok (.imul, 1) := by decide +kernel
theorem dX12_handler_71 : decode cX12_handler 71 = .ok (.iadd, 1) := by decide +kernel
theorem dX12_handler_72 : decode cX12_handler 72 = .ok (.iload 4, 2) := by decide +kernel
theorem dX12_handler_74 : decode cX12_handler 74 = .ok (.iadd, 1) := by decide +kernel
theorem dX12_handler_75 : decode cX12_handler 75 = .ok (.istore 5, 2) := by decide +kernel
theorem dX12_handler_77 : decode cX12_handler 77 = .ok (.iload_n 2, 1) := by decide +kernel
theorem dX12_handler_78 : decode cX12_handler 78 = .ok (.ifCond .eq 13, 3) := by decide +kernel
theorem dX12_handler_81 : decode cX12_handler 81 = .ok (.aload_n 0, 1) := by decide +kernel
theorem dX12_handler_82 : decode cX12_handler 82 = .ok (.getfield 75, 3) := by decide +kernel
theorem dX12_handler_85 : decode cX12_handler 85 = .ok (.iload 5, 2) := by decide +kernel
theorem dX12_handler_87 : decode cX12_handler 87 = .ok (.iaload, 1) := by decide +kernel
theorem dX12_handler_88 : decode cX12_handler 88 = .ok (.goto 10, 3) := by decide +kernel
theorem dX12_handler_91 : decode cX12_handler 91 = .ok (.aload_n 0, 1) := by decide +kernel
theorem dX12_handler_92 : decode cX12_handler 92 = .ok (.getfield 29, 3) := by decide +kernel
theorem dX12_handler_95 : decode cX12_handler 95 = .ok (.iload 5, 2) := by decide +kernel
theorem dX12_handler_97 : decode cX12_handler 97 = .ok (.iaload, 1) := by decide +kernel
theorem dX12_handler_98 : decode cX12_handler 98 = .ok (.ireturn, 1) := by decide +kernel
abbrev wcX12_handler : List Cond := .code yX12_handler cX12_handler 6 (some .int) :: wsL_law
def jX12_handler_24 (v0 : Nat) (v1 : Int32) (v2 : Int32) (v3 : Int32) (v4 : Int32) (g : hs_S) : Option (Int32 × hs_S) :=
  if v1 < 0 then (
    some ((-3 : Int32), g)
  ) else (
    if hs_kd g v0 = 10 then
    if (hs_I g v0 4) ≤ v1 then (
      some ((-3 : Int32), g)
    ) else (
      if v3 < 0 then (
        some ((-3 : Int32), g)
      ) else (
        if ¬ (hs_R g v0 8) = 0 then
        if hs_kd g ((hs_R g v0 8) - 1) = 100 then
        if hs_in v1 (hs_ln g ((hs_R g v0 8) - 1)) = true then
        if (hs_I g ((hs_R g v0 8) - 1) v1.toNatClampNeg) ≤ v3 then (
          some ((-3 : Int32), g)
        ) else (
          if v4 < 0 then (
            some ((-3 : Int32), g)
          ) else (
            if v4 ≤ (3 : Int32) then (
              if v2 = 0 then (
                if ¬ (hs_R g v0 9) = 0 then
                if hs_kd g ((hs_R g v0 9) - 1) = 100 then
                if hs_in ((((32 : Int32) * v1) + ((4 : Int32) * v3)) + v4) (hs_ln g ((hs_R g v0 9) - 1)) = true then
                some ((hs_I g ((hs_R g v0 9) - 1) ((((32 : Int32) * v1) + ((4 : Int32) * v3)) + v4).toNatClampNeg), g)
                else none else none else none
              ) else (
                if ¬ (hs_R g v0 25) = 0 then
                if hs_kd g ((hs_R g v0 25) - 1) = 100 then
                if hs_in ((((32 : Int32) * v1) + ((4 : Int32) * v3)) + v4) (hs_ln g ((hs_R g v0 25) - 1)) = true then
                some ((hs_I g ((hs_R g v0 25) - 1) ((((32 : Int32) * v1) + ((4 : Int32) * v3)) + v4).toNatClampNeg), g)
                else none else none else none
              )
            ) else (
              some ((-3 : Int32), g)
            )
          )
        )
        else none else none else none
      )
    )
    else none
  )
def fX12_handler (v0 : Nat) (v1 : Int32) (v2 : Int32) (v3 : Int32) (v4 : Int32) (g : hs_S) : Option (Int32 × hs_S) :=
  if v2 = 0 then (
    if hs_kd g v0 = 10 then
    if (hs_I g v0 3) = 0 then (
      some ((-2 : Int32), g)
    ) else (
      jX12_handler_24 v0 v1 v2 v3 v4 g
    )
    else none
  ) else (
    if hs_kd g v0 = 10 then
    if (hs_I g v0 22) = 0 then (
      some ((-2 : Int32), g)
    ) else (
      jX12_handler_24 v0 v1 v2 v3 v4 g
    )
    else none
  )
abbrev rmX12_handler : Room := { frames := 0, cells := 0, slots := 0, locals := 0 }
set_option maxHeartbeats 4000000 in
set_option maxRecDepth 100000 in
theorem wX12_handler_j24 {p : Program} {l : Launch} {e : Env} {s : State} {m : MethodId} {args : Array Value} {below : List Frame} {meth : Method} {c : Code} {B : Nat} {D : va_G} {E : Nat → ClassId} (hX : hs_cx cX12_handler (some .int) 6 RX12 wcX12_handler p s m args meth c D E) {o : Int32 × hs_S}  {v0 : Nat} {v1 : Int32} {v2 : Int32} {v3 : Int32} {v4 : Int32}   {g : hs_S} {H : Heap} {locs : List Loc} {ls : Array Slot} (hf : jX12_handler_24 v0 v1 v2 v3 v4 g = some o) (hP : hs_P B D E g H) (hS : hs_Sx B s.heap H locs) (hl : lv_has ls 6 [(0, .ref (B + v0)), (1, .int v1), (2, .int v2), (3, .int v3), (4, .int v4)]) : W p l e rmX12_handler s m args below meth c H locs 0 0 (MQ below (hs_Qi B D E o) args s 0 0 (hs_F B)) (F0 m 24 ls []) := by
  obtain ⟨hx, hb, hr, hml, hown, hts, hlocks, hK⟩ := id hX
  unfold jX12_handler_24 at hf
  refine lv_iload_n hx hb dX12_handler_24 rfl (lv_at hl 1 rfl) ?_
  refine lv_if_lt (tgt := 61) hx hb dX12_handler_25 (by decide) (fun hc => ?_) (fun hc => ?_)
  · replace hf := hs_t hf hc
    refine lv_bipush (v := -3) hx hb dX12_handler_61 (by decide) ?_
    exact hs_iret hx hb hr hlocks rfl hK hP hS hf dX12_handler_63
  · replace hf := hs_f hf hc
    refine lv_iload_n hx hb dX12_handler_28 rfl (lv_at hl 1 rfl) ?_
    refine lv_aload_n hx hb dX12_handler_29 rfl (lv_at hl 0 rfl) ?_
    obtain ⟨h2, hf⟩ := hs_ck hf
    refine hs_geti (C := RX12) (T := TX12) (N := 48) hx hb hts (fun w h => List.mem_cons_of_mem _ (inlX12 w h)) hown hK.1 hP h2 (by decide) rfl 4 (by decide) (hts _ (List.mem_cons_of_mem _ wq392)) (fun _ h => h) rfl dX12_handler_30 ?_
    refine lv_icmp_ge (tgt := 61) hx hb dX12_handler_33 (by decide) (fun hc => ?_) (fun hc => ?_)
    · replace hf := hs_t hf hc
      refine lv_bipush (v := -3) hx hb dX12_handler_61 (by decide) ?_
      exact hs_iret hx hb hr hlocks rfl hK hP hS hf dX12_handler_63
    · replace hf := hs_f hf hc
      refine lv_iload_n hx hb dX12_handler_36 rfl (lv_at hl 3 rfl) ?_
      refine lv_if_lt (tgt := 61) hx hb dX12_handler_37 (by decide) (fun hc => ?_) (fun hc => ?_)
      · replace hf := hs_t hf hc
        refine lv_bipush (v := -3) hx hb dX12_handler_61 (by decide) ?_
        exact hs_iret hx hb hr hlocks rfl hK hP hS hf dX12_handler_63
      · replace hf := hs_f hf hc
        refine lv_iload_n hx hb dX12_handler_40 rfl (lv_at hl 3 rfl) ?_
        refine lv_aload_n hx hb dX12_handler_41 rfl (lv_at hl 0 rfl) ?_
        obtain ⟨h3, hf⟩ := hs_ck hf
        refine hs_getr (C := RX12) (T := TX12) (N := 48) hx hb hts (fun w h => List.mem_cons_of_mem _ (inlX12 w h)) hown hK.1 hP h2 (by decide) rfl 8 (by decide) (hts _ (List.mem_cons_of_mem _ wq126)) (fun _ h => h) rfl h3 dX12_handler_42 ?_
        refine lv_iload_n hx hb dX12_handler_45 rfl (lv_at hl 1 rfl) ?_
        obtain ⟨h4, hf⟩ := hs_ck hf
        obtain ⟨h5, hf⟩ := hs_ck hf
        refine hs_iald hx hb hK.1 hP h4 h5 dX12_handler_46 ?_
        refine lv_icmp_ge (tgt := 61) hx hb dX12_handler_47 (by decide) (fun hc => ?_) (fun hc => ?_)
        · replace hf := hs_t hf hc
          refine lv_bipush (v := -3) hx hb dX12_handler_61 (by decide) ?_
          exact hs_iret hx hb hr hlocks rfl hK hP hS hf dX12_handler_63
        · replace hf := hs_f hf hc
          refine lv_iload hx hb dX12_handler_50 (lv_at hl 4 rfl) ?_
          refine lv_if_lt (tgt := 61) hx hb dX12_handler_52 (by decide) (fun hc => ?_) (fun hc => ?_)
          · replace hf := hs_t hf hc
            refine lv_bipush (v := -3) hx hb dX12_handler_61 (by decide) ?_
            exact hs_iret hx hb hr hlocks rfl hK hP hS hf dX12_handler_63
          · replace hf := hs_f hf hc
            refine lv_iload hx hb dX12_handler_55 (lv_at hl 4 rfl) ?_
            refine lv_iconst (v := 3) hx hb dX12_handler_57 (by decide) ?_
            refine lv_icmp_le (tgt := 64) hx hb dX12_handler_58 (by decide) (fun hc => ?_) (fun hc => ?_)
            · replace hf := hs_t hf hc
              refine lv_bipush (v := 32) hx hb dX12_handler_64 (by decide) ?_
              refine lv_iload_n hx hb dX12_handler_66 rfl (lv_at hl 1 rfl) ?_
              refine lv_imul hx hb dX12_handler_67 ?_
              refine lv_iconst (v := 4) hx hb dX12_handler_68 (by decide) ?_
              refine lv_iload_n hx hb dX12_handler_69 rfl (lv_at hl 3 rfl) ?_
              refine lv_imul hx hb dX12_handler_70 ?_
              refine lv_iadd hx hb dX12_handler_71 ?_
              refine lv_iload hx hb dX12_handler_72 (lv_at hl 4 rfl) ?_
              refine lv_iadd hx hb dX12_handler_74 ?_
              refine lv_istore (lv' := [(5, .int ((((32 : Int32) * v1) + ((4 : Int32) * v3)) + v4)), (0, .ref (B + v0)), (1, .int v1), (2, .int v2), (3, .int v3), (4, .int v4)]) hx hb dX12_handler_75 hl (by decide) rfl (fun ls hl => ?_)
              refine lv_iload_n hx hb dX12_handler_77 rfl (lv_at hl 3 rfl) ?_
              refine lv_if_eq (tgt := 91) hx hb dX12_handler_78 (by decide) (fun hc => ?_) (fun hc => ?_)
              · replace hf := hs_t hf hc
                refine lv_aload_n hx hb dX12_handler_91 rfl (lv_at hl 1 rfl) ?_
                obtain ⟨h6, hf⟩ := hs_ck hf
                refine hs_getr (C := RX12) (T := TX12) (N := 48) hx hb hts (fun w h => List.mem_cons_of_mem _ (inlX12 w h)) hown hK.1 hP h2 (by decide) rfl 9 (by decide) (hts _ (List.mem_cons_of_mem _ wq127)) (fun _ h => h) rfl h6 dX12_handler_92 ?_
                refine lv_iload hx hb dX12_handler_95 (lv_at hl 0 rfl) ?_
                obtain ⟨h7, hf⟩ := hs_ck hf
                obtain ⟨h8, hf⟩ := hs_ck hf
                refine hs_iald hx hb hK.1 hP h7 h8 dX12_handler_97 ?_
                exact hs_iret hx hb hr hlocks rfl hK hP hS hf dX12_handler_98
              · replace hf := hs_f hf hc
                refine lv_aload_n hx hb dX12_handler_81 rfl (lv_at hl 1 rfl) ?_
                obtain ⟨h9, hf⟩ := hs_ck hf
                refine hs_getr (C := RX12) (T := TX12) (N := 48) hx hb hts (fun w h => List.mem_cons_of_mem _ (inlX12 w h)) hown hK.1 hP h2 (by decide) rfl 25 (by decide) (hts _ (List.mem_cons_of_mem _ wq143)) (fun _ h => h) rfl h9 dX12_handler_82 ?_
                refine lv_iload hx hb dX12_handler_85 (lv_at hl 0 rfl) ?_
                obtain ⟨h10, hf⟩ := hs_ck hf
                obtain ⟨h11, hf⟩ := hs_ck hf
                refine hs_iald hx hb hK.1 hP h10 h11 dX12_handler_87 ?_
                refine lv_goto (tgt := 98) hx hb dX12_handler_88 (by decide) ?_
                exact hs_iret hx hb hr hlocks rfl hK hP hS hf dX12_handler_98
            · replace hf := hs_f hf hc
              refine lv_bipush (v := -3) hx hb dX12_handler_61 (by decide) ?_
              exact hs_iret hx hb hr hlocks rfl hK hP hS hf dX12_handler_63

set_option maxHeartbeats 4000000 in
set_option maxRecDepth 100000 in
theorem ctX12_handler (l : Launch) (B : Nat) (D : va_G) (E : Nat → ClassId) (v0 : Nat) (v1 : Int32) (v2 : Int32) (v3 : Int32) (v4 : Int32) (g : hs_S) (o : Int32 × hs_S) (hf : fX12_handler v0 v1 v2 v3 v4 g = some o) : Met l yX12_handler wcX12_handler rmX12_handler (hs_Pc B D E g [.ref (B + v0), .int v1, .int v2, .int v3, .int v4]) (hs_Qi B D E o) (0) (0) (hs_F B) := by
  refine Met.ofW (cc := cX12_handler) (maxL := 6) (ret := (some .int)) (by decide) rfl ?_
  intro p e s m args below meth c s₁ Bd hml hv
  obtain ⟨rfl, hP, hK⟩ := hv
  have hx := Bd.exec
  have hb := Bd.bytes
  have hr := Bd.returns
  have hts := atoms_spec (ws := wcX12_handler) Bd.pre
  have hown : s.vm.findClass RX12 = some m.cls := findClass_of_methodNamed Bd.named
  have hlocks := Bd.notSynchronized
  have hS : hs_Sx B s.heap s.heap [] := va_S.rf
  have hX : hs_cx cX12_handler (some .int) 6 RX12 wcX12_handler p s m (List.toArray [.ref (B + v0), .int v1, .int v2, .int v3, .int v4]) meth c D E := ⟨hx, hb, hr, hml, hown, hts, hlocks, hK⟩
  have hl := lv_entry ([.ref (B + v0), .int v1, .int v2, .int v3, .int v4]) (n := 6) (Nat.le_of_ble_eq_true rfl)
  rw [lg_entry_eq]
  generalize (lg_sl ([.ref (B + v0), .int v1, .int v2, .int v3, .int v4]) ++ List.replicate (6 - (lg_sl ([.ref (B + v0), .int v1, .int v2, .int v3, .int v4])).length) Slot.unset).toArray = ls at hl ⊢
  have hl : lv_has ls 6 [(0, .ref (B + v0)), (1, .int v1), (2, .int v2), (3, .int v3), (4, .int v4)] := hl
  have hP : hs_P B D E g s.heap := hP
  unfold fX12_handler at hf
  refine lv_iload_n hx hb dX12_handler_0 rfl (lv_at hl 2 rfl) ?_
  refine lv_if_eq (tgt := 14) hx hb dX12_handler_1 (by decide) (fun hc => ?_) (fun hc => ?_)
  · replace hf := hs_t hf hc
    refine lv_aload_n hx hb dX12_handler_14 rfl (lv_at hl 0 rfl) ?_
    obtain ⟨h1, hf⟩ := hs_ck hf
    refine hs_geti (C := RX12) (T := TX12) (N := 48) hx hb hts (fun w h => List.mem_cons_of_mem _ (inlX12 w h)) hown hK.1 hP h1 (by decide) rfl 3 (by decide) (hts _ (List.mem_cons_of_mem _ wq393)) (fun _ h => h) rfl dX12_handler_15 ?_
    refine lv_if_ne (tgt := 24) hx hb dX12_handler_18 (by decide) (fun hc => ?_) (fun hc => ?_)
    · replace hf := hs_f hf hc
      exact wX12_handler_j24 hX hf hP hS (lv_sub hl [0, 1, 2, 3, 4] rfl)
    · replace hf := hs_t hf hc
      refine lv_bipush (v := -2) hx hb dX12_handler_21 (by decide) ?_
      exact hs_iret hx hb hr hlocks rfl hK hP hS hf dX12_handler_23
  · replace hf := hs_f hf hc
    refine lv_aload_n hx hb dX12_handler_4 rfl (lv_at hl 0 rfl) ?_
    obtain ⟨h12, hf⟩ := hs_ck hf
    refine hs_geti (C := RX12) (T := TX12) (N := 48) hx hb hts (fun w h => List.mem_cons_of_mem _ (inlX12 w h)) hown hK.1 hP h12 (by decide) rfl 22 (by decide) (hts _ (List.mem_cons_of_mem _ wq394)) (fun _ h => h) rfl dX12_handler_5 ?_
    refine lv_if_ne (tgt := 24) hx hb dX12_handler_8 (by decide) (fun hc => ?_) (fun hc => ?_)
    · replace hf := hs_f hf hc
      exact wX12_handler_j24 hX hf hP hS (lv_sub hl [0, 1, 2, 3, 4] rfl)
    · replace hf := hs_t hf hc
      refine lv_goto (tgt := 21) hx hb dX12_handler_11 (by decide) ?_
      refine lv_bipush (v := -2) hx hb dX12_handler_21 (by decide) ?_
      exact hs_iret hx hb hr hlocks rfl hK hP hS hf dX12_handler_23

theorem dX12_block_0 : decode cX12_block 0 = .ok (.aload_n 0, 1) := by decide +kernel
theorem dX12_block_1 : decode cX12_block 1 = .ok (.getfield 191, 3) := by decide +kernel
theorem dX12_block_4 : decode cX12_block 4 = .ok (.ifCond .ne 6, 3) := by decide +kernel
theorem dX12_block_7 : decode cX12_block 7 = .ok (.bipush (-2), 2) := by decide +kernel
theorem dX12_block_9 : decode cX12_block 9 = .ok (.ireturn, 1) := by decide +kernel
theorem dX12_block_10 : decode cX12_block 10 = .ok (.iload_n 1, 1) := by decide +kernel
theorem dX12_block_11 : decode cX12_block 11 = .ok (.ifCond .lt 33, 3) := by decide +kernel
theorem dX12_block_14 : decode cX12_block 14 = .ok (.iload_n 1, 1) := by decide +kernel
theorem dX12_block_15 : decode cX12_block 15 = .ok (.aload_n 0, 1) := by decide +kernel
theorem dX12_block_16 : decode cX12_block 16 = .ok (.getfield 188, 3) := by decide +kernel
theorem dX12_block_19 : decode cX12_block 19 = .ok (.if_icmp .ge 25, 3) := by decide +kernel
theorem dX12_block_22 : decode cX12_block 22 = .ok (.iload_n 3, 1) := by decide +kernel
theorem dX12_block_23 : decode cX12_block 23 = .ok (.ifCond .lt 21, 3) := by decide +kernel
theorem dX12_block_26 : decode cX12_block 26 = .ok (.iload_n 3, 1) := by decide +kernel
theorem dX12_block_27 : decode cX12_block 27 = .ok (.iconst 1, 1) := by decide +kernel
theorem dX12_block_28 : decode cX12_block 28 = .ok (.if_icmp .gt 16, 3) := by decide +kernel
theorem dX12_block_31 : decode cX12_block 31 = .ok (.iload_n 2, 1) := by decide +kernel
theorem dX12_block_32 : decode cX12_block 32 = .ok (.ifCond .lt 12, 3) := by decide +kernel
theorem dX12_block_35 : decode cX12_block 35 = .ok (.iload_n 2, 1) := by decide +kernel
theorem dX12_block_36 : decode cX12_block 36 = .ok (.aload_n 0, 1) := by decide +kernel
theorem dX12_block_37 : decode cX12_block 37 = .ok (.iload_n 1, 1) := by decide +kernel
theorem dX12_block_38 : decode cX12_block 38 = .ok (.invokevirtual 211, 3) := by decide +kernel
theorem dX12_block_41 : decode cX12_block 41 = .ok (.if_icmp .lt 6, 3) := by decide +kernel
theorem dX12_block_44 : decode cX12_block 44 = .ok (.bipush (-3), 2) := by decide +kernel
theorem dX12_block_46 : decode cX12_block 46 = .ok (.ireturn, 1) := by decide +kernel
theorem dX12_block_47 : decode cX12_block 47 = .ok (.iconst (-1), 1) := by decide +kernel
theorem dX12_block_48 : decode cX12_block 48 = .ok (.istore 4, 2) := by decide +kernel
theorem dX12_block_50 : decode cX12_block 50 = .ok (.iconst 0, 1) := by decide +kernel
theorem dX12_block_51 : decode cX12_block 51 = .ok (.istore 5, 2) := by decide +kernel
theorem dX12_block_53 : decode cX12_block 53 = .ok (.iload 5, 2) := by decide +kernel
theorem dX12_block_55 : decode cX12_block 55 = .ok (.iload_n 2, 1) := by decide +kernel
theorem dX12_block_56 : decode cX12_block 56 = .ok (.if_icmp .gt 28, 3) := by decide +kernel
theorem dX12_block_59 : decode cX12_block 59 = .ok (.iinc 4 1, 3) := by decide +kernel
theorem dX12_block_62 : decode cX12_block 62 = .ok (.aload_n 0, 1) := by decide +kernel
theorem dX12_block_63 : decode cX12_block 63 = .ok (.getfield 39, 3) := by decide +kernel
theorem dX12_block_66 : decode cX12_block 66 = .ok (.iload 4, 2) := by decide +kernel
theorem dX12_block_68 : decode cX12_block 68 = .ok (.baload, 1) := by decide +kernel
theorem dX12_block_69 : decode cX12_block 69 = .ok (.ifCond .ne 9, 3) := by decide +kernel
theorem dX12_block_72 : decode cX12_block 72 = .ok (.iinc 4 1, 3) := by decide +kernel
theorem dX12_block_75 : decode cX12_block 75 = .ok (.goto (-13), 3) := by decide +kernel
theorem dX12_block_78 : decode cX12_block 78 = .ok (.iinc 5 1, 3) := by decide +kernel
theorem dX12_block_81 : decode cX12_block 81 = .ok (.goto (-28), 3) := by decide +kernel
theorem dX12_block_84 : decode cX12_block 84 = .ok (.iload_n 3, 1) := by decide +kernel
theorem dX12_block_85 : decode cX12_block 85 = .ok (.ifCond .ne 8, 3) := by decide +kernel
theorem dX12_block_88 : decode cX12_block 88 = .ok (.iload 4, 2) := by decide +kernel
theorem dX12_block_90 : decode cX12_block 90 = .ok (.goto 10, 3) := by decide +kernel
theorem dX12_block_93 : decode cX12_block 93 = .ok (.aload_n 0, 1) := by decide +kernel
theorem dX12_block_94 : decode cX12_block 94 = .ok (.iload_n 1, 1) := by decide +kernel
theorem dX12_block_95 : decode cX12_block 95 = .ok (.iload 4, 2) := by decide +kernel
theorem dX12_block_97 : decode cX12_block 97 = .ok (.invokevirtual 214, 3) := by decide +kernel
theorem dX12_block_100 : decode cX12_block 100 = .ok (.ireturn, 1) := by decide +kernel
abbrev wcX12_block : List Cond := .code yX12_block cX12_block 6 (some .int) :: wsL_law
def fX12_block (v0 : Nat) (v1 : Int32) (v2 : Int32) (v3 : Int32) (g : hs_S) : Option (Int32 × hs_S) :=
  if hs_kd g v0 = 10 then
  if (hs_I g v0 3) = 0 then (
    some ((-2 : Int32), g)
  ) else (
    if v1 < 0 then (
      some ((-3 : Int32), g)
    ) else (
      if (hs_I g v0 4) ≤ v1 then (
        some ((-3 : Int32), g)
      ) else (
        if v3 < 0 then (
          some ((-3 : Int32), g)
        ) else (
          if (1 : Int32) < v3 then (
            some ((-3 : Int32), g)
          ) else (
            if v2 < 0 then (
              some ((-3 : Int32), g)
            ) else (
              hs_bd ((none : Option (Int32 × hs_S))) fun r3 g2 =>
              none
            )
          )
        )
      )
    )
  )
  else none
abbrev rmX12_block : Room := { frames := 5, cells := 0, slots := 0, locals := 113 }
set_option maxHeartbeats 4000000 in
set_option maxRecDepth 100000 in
theorem ctX12_block (l : Launch) (B : Nat) (D : va_G) (E : Nat → ClassId) (v0 : Nat) (v1 : Int32) (v2 : Int32) (v3 : Int32) (g : hs_S) (o : Int32 × hs_S) (hf : fX12_block v0 v1 v2 v3 g = some o) : Met l yX12_block wcX12_block rmX12_block (hs_Pc B D E g [.ref (B + v0), .int v1, .int v2, .int v3]) (hs_Qi B D E o) (0) (0) (hs_F B) := by
  refine Met.ofW (cc := cX12_block) (maxL := 6) (ret := (some .int)) (by decide) rfl ?_
  intro p e s m args below meth c s₁ Bd hml hv
  obtain ⟨rfl, hP, hK⟩ := hv
  have hx := Bd.exec
  have hb := Bd.bytes
  have hr := Bd.returns
  have hts := atoms_spec (ws := wcX12_block) Bd.pre
  have hown : s.vm.findClass RX12 = some m.cls := findClass_of_methodNamed Bd.named
  have hlocks := Bd.notSynchronized
  have hS : hs_Sx B s.heap s.heap [] := va_S.rf
  have hX : hs_cx cX12_block (some .int) 6 RX12 wcX12_block p s m (List.toArray [.ref (B + v0), .int v1, .int v2, .int v3]) meth c D E := ⟨hx, hb, hr, hml, hown, hts, hlocks, hK⟩
  have hl := lv_entry ([.ref (B + v0), .int v1, .int v2, .int v3]) (n := 6) (Nat.le_of_ble_eq_true rfl)
  rw [lg_entry_eq]
  generalize (lg_sl ([.ref (B + v0), .int v1, .int v2, .int v3]) ++ List.replicate (6 - (lg_sl ([.ref (B + v0), .int v1, .int v2, .int v3])).length) Slot.unset).toArray = ls at hl ⊢
  have hl : lv_has ls 6 [(0, .ref (B + v0)), (1, .int v1), (2, .int v2), (3, .int v3)] := hl
  have hP : hs_P B D E g s.heap := hP
  unfold fX12_block at hf
  refine lv_aload_n hx hb dX12_block_0 rfl (lv_at hl 0 rfl) ?_
  obtain ⟨h1, hf⟩ := hs_ck hf
  refine hs_geti (C := RX12) (T := TX12) (N := 48) hx hb hts (fun w h => List.mem_cons_of_mem _ (inlX12 w h)) hown hK.1 hP h1 (by decide) rfl 3 (by decide) (hts _ (List.mem_cons_of_mem _ wq393)) (fun _ h => h) rfl dX12_block_1 ?_
  refine lv_if_ne (tgt := 10) hx hb dX12_block_4 (by decide) (fun hc => ?_) (fun hc => ?_)
  · replace hf := hs_f hf hc
    refine lv_iload_n hx hb dX12_block_10 rfl (lv_at hl 1 rfl) ?_
    refine lv_if_lt (tgt := 44) hx hb dX12_block_11 (by decide) (fun hc => ?_) (fun hc => ?_)
    · replace hf := hs_t hf hc
      refine lv_bipush (v := -3) hx hb dX12_block_44 (by decide) ?_
      exact hs_iret hx hb hr hlocks rfl hK hP hS hf dX12_block_46
    · replace hf := hs_f hf hc
      refine lv_iload_n hx hb dX12_block_14 rfl (lv_at hl 1 rfl) ?_
      refine lv_aload_n hx hb dX12_block_15 rfl (lv_at hl 0 rfl) ?_
      refine hs_geti (C := RX12) (T := TX12) (N := 48) hx hb hts (fun w h => List.mem_cons_of_mem _ (inlX12 w h)) hown hK.1 hP h1 (by decide) rfl 4 (by decide) (hts _ (List.mem_cons_of_mem _ wq392)) (fun _ h => h) rfl dX12_block_16 ?_
      refine lv_icmp_ge (tgt := 44) hx hb dX12_block_19 (by decide) (fun hc => ?_) (fun hc => ?_)
      · replace hf := hs_t hf hc
        refine lv_bipush (v := -3) hx hb dX12_block_44 (by decide) ?_
        exact hs_iret hx hb hr hlocks rfl hK hP hS hf dX12_block_46
      · replace hf := hs_f hf hc
        refine lv_iload_n hx hb dX12_block_22 rfl (lv_at hl 3 rfl) ?_
        refine lv_if_lt (tgt := 44) hx hb dX12_block_23 (by decide) (fun hc => ?_) (fun hc => ?_)
        · replace hf := hs_t hf hc
          refine lv_bipush (v := -3) hx hb dX12_block_44 (by decide) ?_
          exact hs_iret hx hb hr hlocks rfl hK hP hS hf dX12_block_46
        · replace hf := hs_f hf hc
          refine lv_iload_n hx hb dX12_block_26 rfl (lv_at hl 3 rfl) ?_
          refine lv_iconst (v := 1) hx hb dX12_block_27 (by decide) ?_
          refine lv_icmp_gt (tgt := 44) hx hb dX12_block_28 (by decide) (fun hc => ?_) (fun hc => ?_)
          · replace hf := hs_t hf hc
            refine lv_bipush (v := -3) hx hb dX12_block_44 (by decide) ?_
            exact hs_iret hx hb hr hlocks rfl hK hP hS hf dX12_block_46
          · replace hf := hs_f hf hc
            refine lv_iload_n hx hb dX12_block_31 rfl (lv_at hl 2 rfl) ?_
            refine lv_if_lt (tgt := 44) hx hb dX12_block_32 (by decide) (fun hc => ?_) (fun hc => ?_)
            · replace hf := hs_t hf hc
              refine lv_bipush (v := -3) hx hb dX12_block_44 (by decide) ?_
              exact hs_iret hx hb hr hlocks rfl hK hP hS hf dX12_block_46
            · replace hf := hs_f hf hc
              refine lv_iload_n hx hb dX12_block_35 rfl (lv_at hl 2 rfl) ?_
              refine lv_aload_n hx hb dX12_block_36 rfl (lv_at hl 0 rfl) ?_
              refine lv_iload_n hx hb dX12_block_37 rfl (lv_at hl 1 rfl) ?_
              obtain ⟨r3, g2, h4, hf⟩ := hs_bd_some hf
              cases h4
  · replace hf := hs_t hf hc
    refine lv_bipush (v := -2) hx hb dX12_block_7 (by decide) ?_
    exact hs_iret hx hb hr hlocks rfl hK hP hS hf dX12_block_9

theorem dX12_run_0 : decode cX12_run 0 = .ok (.aload_n 0, 1) := by decide +kernel
theorem dX12_run_1 : decode cX12_run 1 = .ok (.getfield 195, 3) := by decide +kernel
theorem dX12_run_4 : decode cX12_run 4 = .ok (.ifCond .ne 6, 3) := by decide +kernel
theorem dX12_run_7 : decode cX12_run 7 = .ok (.bipush (-2), 2) := by decide +kernel
theorem dX12_run_9 : decode cX12_run 9 = .ok (.ireturn, 1) := by decide +kernel
theorem dX12_run_10 : decode cX12_run 10 = .ok (.iload_n 1, 1) := by decide +kernel
theorem dX12_run_11 : decode cX12_run 11 = .ok (.ifCond .lt 24, 3) := by decide +kernel
theorem dX12_run_14 : decode cX12_run 14 = .ok (.iload_n 1, 1) := by decide +kernel
theorem dX12_run_15 : decode cX12_run 15 = .ok (.aload_n 0, 1) := by decide +kernel
theorem dX12_run_16 : decode cX12_run 16 = .ok (.getfield 188, 3) := by decide +kernel
theorem dX12_run_19 : decode cX12_run 19 = .ok (.if_icmp .ge 16, 3) := by decide +kernel
theorem dX12_run_22 : decode cX12_run 22 = .ok (.iload 4, 2) := by decide +kernel
theorem dX12_run_24 : decode cX12_run 24 = .ok (.ifCond .lt 11, 3) := by decide +kernel
theorem dX12_run_27 : decode cX12_run 27 = .ok (.iload 4, 2) := by decide +kernel
theorem dX12_run_29 : decode cX12_run 29 = .ok (.ldc_w 257, 3) := by decide +kernel
theorem dX12_run_32 : decode cX12_run 32 = .ok (.if_icmp .le 6, 3) := by decide +kernel
theorem dX12_run_35 : decode cX12_run 35 = .ok (.bipush (-3), 2) := by decide +kernel
theorem dX12_run_37 : decode cX12_run 37 = .ok (.ireturn, 1) := by decide +kernel
theorem dX12_run_38 : decode cX12_run 38 = .ok (.iconst 0, 1) := by decide +kernel
theorem dX12_run_39 : decode cX12_run 39 = .ok (.istore 5, 2) := by decide +kernel
theorem dX12_run_41 : decode cX12_run 41 = .ok (.iload 5, 2) := by decide +kernel
theorem dX12_run_43 : decode cX12_run 43 = .ok (.iconst 4, 1) := by decide +kernel
theorem dX12_run_44 : decode cX12_run 44 = .ok (.if_icmp .ge 17, 3) := by decide +kernel
theorem dX12_run_47 : decode cX12_run 47 = .ok (.aload_n 0, 1) := by decide +kernel
theorem dX12_run_48 : decode cX12_run 48 = .ok (.getfield 96, 3) := by decide +kernel
theorem dX12_run_51 : decode cX12_run 51 = .ok (.iload 5, 2) := by decide +kernel
theorem dX12_run_53 : decode cX12_run 53 = .ok (.iconst 0, 1) := by decide +kernel
theorem dX12_run_54 : decode cX12_run 54 = .ok (.iastore, 1) := by decide +kernel
theorem dX12_run_55 : decode cX12_run 55 = .ok (.iinc 5 1, 3) := by decide +kernel
theorem dX12_run_58 : decode cX12_run 58 = .ok (.goto (-17), 3) := by decide +kernel
theorem dX12_run_61 : decode cX12_run 61 = .ok (.aload_n 0, 1) := by decide +kernel
theorem dX12_run_62 : decode cX12_run 62 = .ok (.iconst 0, 1) := by decide +kernel
theorem dX12_run_63 : decode cX12_run 63 = .ok (.putfield 258, 3) := by decide +kernel
theorem dX12_run_66 : decode cX12_run 66 = .ok (.aload_n 0, 1) := by decide +kernel
theorem dX12_run_67 : decode cX12_run 67 = .ok (.iconst 0, 1) := by decide +kernel
theorem dX12_run_68 : decode cX12_run 68 = .ok (.putfield 251, 3) := by decide +kernel
theorem dX12_run_71 : decode cX12_run 71 = .ok (.aload_n 0, 1) := by decide +kernel
theorem dX12_run_72 : decode cX12_run 72 = .ok (.iconst 0, 1) := by decide +kernel
theorem dX12_run_73 : decode cX12_run 73 = .ok (.putfield 261, 3) := by decide +kernel
theorem dX12_run_76 : decode cX12_run 76 = .ok (.aload_n 0, 1) := by decide +kernel
theorem dX12_run_77 : decode cX12_run 77 = .ok (.iload 4, 2) := by decide +kernel
theorem dX12_run_79 : decode cX12_run 79 = .ok (.putfield 245, 3) := by decide +kernel
theorem dX12_run_82 : decode cX12_run 82 = .ok (.aload_n 0, 1) := by decide +kernel
theorem dX12_run_83 : decode cX12_run 83 = .ok (.iconst 0, 1) := by decide +kernel
theorem dX12_run_84 : decode cX12_run 84 = .ok (.putfield 254, 3) := by decide +kernel
theorem dX12_run_87 : decode cX12_run 87 = .ok (.aload_n 0, 1) := by decide +kernel
theorem dX12_run_88 : decode cX12_run 88 = .ok (.iconst 0, 1) := by decide +kernel
theorem dX12_run_89 : decode cX12_run 89 = .ok (.putfield 248, 3) := by decide +kernel
theorem dX12_run_92 : decode cX12_run 92 = .ok (.aload_n 0, 1) := by decide +kernel
theorem dX12_run_93 : decode cX12_run 93 = .ok (.iload_n 1, 1) := by decide +kernel
theorem dX12_run_94 : decode cX12_run 94 = .ok (.invokevirtual 264, 3) := by decide +kernel
theorem dX12_run_97 : decode cX12_run 97 = .ok (.aload_n 0, 1) := by decide +kernel
theorem dX12_run_98 : decode cX12_run 98 = .ok (.getfield 17, 3) := by decide +kernel
theorem dX12_run_101 : decode cX12_run 101 = .ok (.iload_n 1, 1) := by decide +kernel
theorem dX12_run_102 : decode cX12_run 102 = .ok (.iaload, 1) := by decide +kernel
theorem dX12_run_103 : decode cX12_run 103 = .ok (.ifCond .le 10, 3) := by decide +kernel
theorem dX12_run_106 : decode cX12_run 106 = .ok (.aload_n 0, 1) := by decide +kernel
theorem dX12_run_107 : decode cX12_run 107 = .ok (.getfield 114, 3) := by decide +kernel
theorem dX12_run_110 : decode cX12_run 110 = .ok (.iconst 0, 1) := by decide +kernel
theorem dX12_run_111 : decode cX12_run 111 = .ok (.iload_n 2, 1) := by decide +kernel
theorem dX12_run_112 : decode cX12_run 112 = .ok (.iastore, 1) := by decide +kernel
theorem dX12_run_113 : decode cX12_run 113 = .ok (.aload_n 0, 1) := by decide +kernel
theorem dX12_run_114 : decode cX12_run 114 = .ok (.getfield 17, 3) := by decide +kernel
theorem dX12_run_117 : decode cX12_run 117 = .ok (.iload_n 1, 1) := by decide +kernel
theorem dX12_run_118 : decode cX12_run 118 = .ok (.iaload, 1) := by decide +kernel
theorem dX12_run_119 : decode cX12_run 119 = .ok (.iconst 1, 1) := by decide +kernel
theorem dX12_run_120 : decode cX12_run 120 = .ok (.if_icmp .le 10, 3) := by decide +kernel
theorem dX12_run_123 : decode cX12_run 123 = .ok (.aload_n 0, 1) := by decide +kernel
theorem dX12_run_124 : decode cX12_run 124 = .ok (.getfield 114, 3) := by decide +kernel
theorem dX12_run_127 : decode cX12_run 127 = .ok (.iconst 1, 1) := by decide +kernel
theorem dX12_run_128 : decode cX12_run 128 = .ok (.iload_n 3, 1) := by decide +kernel
theorem dX12_run_129 : decode cX12_run 129 = .ok (.iastore, 1) := by decide +kernel
theorem dX12_run_130 : decode cX12_run 130 = .ok (.aload_n 0, 1) := by decide +kernel
theorem dX12_run_131 : decode cX12_run 131 = .ok (.getfield 254, 3) := by decide +kernel
theorem dX12_run_134 : decode cX12_run 134 = .ok (.ifCond .le 47, 3) := by decide +kernel
theorem dX12_run_137 : decode cX12_run 137 = .ok (.aload_n 0, 1) := by decide +kernel
theorem dX12_run_138 : decode cX12_run 138 = .ok (.getfield 248, 3) := by decide +kernel
theorem dX12_run_141 : decode cX12_run 141 = .ok (.ifCond .ne 40, 3) := by decide +kernel
theorem dX12_run_144 : decode cX12_run 144 = .ok (.aload_n 0, 1) := by decide +kernel
theorem dX12_run_145 : decode cX12_run 145 = .ok (.iconst 0, 1) := by decide +kernel
theorem dX12_run_146 : decode cX12_run 146 = .ok (.putfield 267, 3) := by decide +kernel
theorem dX12_run_149 : decode cX12_run 149 = .ok (.aload_n 0, 1) := by decide +kernel
theorem dX12_run_150 : decode cX12_run 150 = .ok (.invokevirtual 270, 3) := by decide +kernel
theorem dX12_run_153 : decode cX12_run 153 = .ok (.aload_n 0, 1) := by decide +kernel
theorem dX12_run_154 : decode cX12_run 154 = .ok (.getfield 267, 3) := by decide +kernel
theorem dX12_run_157 : decode cX12_run 157 = .ok (.ifCond .le (-27), 3) := by decide +kernel
theorem dX12_run_160 : decode cX12_run 160 = .ok (.aload_n 0, 1) := by decide +kernel
theorem dX12_run_161 : decode cX12_run 161 = .ok (.invokevirtual 273, 3) := by decide +kernel
theorem dX12_run_164 : decode cX12_run 164 = .ok (.aload_n 0, 1) := by decide +kernel
theorem dX12_run_165 : decode cX12_run 165 = .ok (.getfield 254, 3) := by decide +kernel
theorem dX12_run_168 : decode cX12_run 168 = .ok (.ifCond .ne (-38), 3) := by decide +kernel
theorem dX12_run_171 : decode cX12_run 171 = .ok (.aload_n 0, 1) := by decide +kernel
theorem dX12_run_172 : decode cX12_run 172 = .ok (.aload_n 0, 1) := by decide +kernel
theorem dX12_run_173 : decode cX12_run 173 = .ok (.getfield 267, 3) := by decide +kernel
theorem dX12_run_176 : decode cX12_run 176 = .ok (.putfield 258, 3) := by decide +kernel
theorem dX12_run_179 : decode cX12_run 179 = .ok (.iconst 2, 1) := by decide +kernel
theorem dX12_run_180 : decode cX12_run 180 = .ok (.ireturn, 1) := by decide +kernel
theorem dX12_run_181 : decode cX12_run 181 = .ok (.aload_n 0, 1) := by decide +kernel
theorem dX12_run_182 : decode cX12_run 182 = .ok (.getfield 248, 3) := by decide +kernel
theorem dX12_run_185 : decode cX12_run 185 = .ok (.ifCond .eq 10, 3) := by decide +kernel
theorem dX12_run_188 : decode cX12_run 188 = .ok (.aload_n 0, 1) := by decide +kernel
theorem dX12_run_189 : decode cX12_run 189 = .ok (.iconst 0, 1) := by decide +kernel
theorem dX12_run_190 : decode cX12_run 190 = .ok (.putfield 258, 3) := by decide +kernel
theorem dX12_run_193 : decode cX12_run 193 = .ok (.iconst 1, 1) := by decide +kernel
theorem dX12_run_194 : decode cX12_run 194 = .ok (.ireturn, 1) := by decide +kernel
theorem dX12_run_195 : decode cX12_run 195 = .ok (.iconst 0, 1) := by decide +kernel
theorem dX12_run_196 : decode cX12_run 196 = .ok (.ireturn, 1) := by decide +kernel
abbrev wcX12_run : List Cond := .code yX12_run cX12_run 6 (some .int) :: wsL_law
def lX12_run_41 : Nat → Nat → Int32 → Int32 → Int32 → Int32 → Int32 → hs_S → Option (hs_S)
  | 0, _, _, _, _, _, _, _ => none
  | n + 1, v0, v1, v2, v3, v4, v5, g =>
    if (4 : Int32) ≤ v5 then (
      some g
    ) else (
      if hs_kd g v0 = 10 then
      if ¬ (hs_R g v0 34) = 0 then
      if hs_kd g ((hs_R g v0 34) - 1) = 100 then
      if hs_in v5 (hs_ln g ((hs_R g v0 34) - 1)) = true then
      lX12_run_41 n v0 v1 v2 v3 v4 (v5 + (1 : Int32)) (hs_wI g ((hs_R g v0 34) - 1) v5.toNatClampNeg (0 : Int32))
      else none else none else none else none
    )
theorem lX12_run_41_s (n : Nat) (v0 : Nat) (v1 : Int32) (v2 : Int32) (v3 : Int32) (v4 : Int32) (v5 : Int32) (g : hs_S) : lX12_run_41 (n + 1) v0 v1 v2 v3 v4 v5 g =
    if (4 : Int32) ≤ v5 then (
      some g
    ) else (
      if hs_kd g v0 = 10 then
      if ¬ (hs_R g v0 34) = 0 then
      if hs_kd g ((hs_R g v0 34) - 1) = 100 then
      if hs_in v5 (hs_ln g ((hs_R g v0 34) - 1)) = true then
      lX12_run_41 n v0 v1 v2 v3 v4 (v5 + (1 : Int32)) (hs_wI g ((hs_R g v0 34) - 1) v5.toNatClampNeg (0 : Int32))
      else none else none else none else none
    ) := rfl
def fX12_run (v0 : Nat) (v1 : Int32) (v2 : Int32) (v3 : Int32) (v4 : Int32) (g : hs_S) : Option (Int32 × hs_S) :=
  if hs_kd g v0 = 10 then
  if (hs_I g v0 22) = 0 then (
    some ((-2 : Int32), g)
  ) else (
    if v1 < 0 then (
      some ((-3 : Int32), g)
    ) else (
      if (hs_I g v0 4) ≤ v1 then (
        some ((-3 : Int32), g)
      ) else (
        if v4 < 0 then (
          some ((-3 : Int32), g)
        ) else (
          if v4 ≤ (100000 : Int32) then (
            hs_bv (lX12_run_41 hs_N v0 v1 v2 v3 v4 (0 : Int32) g) fun g7 =>
            if hs_kd g7 v0 = 10 then
            hs_bv (some (hs_wI (hs_wI (hs_wI (hs_wI g7 v0 36 (0 : Int32)) v0 37 (0 : Int32)) v0 38 (0 : Int32)) v0 39 v4)) fun g10 =>
            hs_bv ((none : Option (hs_S))) fun g13 =>
            none
            else none
          ) else (
            some ((-3 : Int32), g)
          )
        )
      )
    )
  )
  else none
abbrev rmX12_run : Room := { frames := 4, cells := 0, slots := 0, locals := 87 }
set_option maxHeartbeats 4000000 in
set_option maxRecDepth 100000 in
theorem wX12_run_41 {p : Program} {l : Launch} {e : Env} {s : State} {m : MethodId} {args : Array Value} {below : List Frame} {meth : Method} {c : Code} {B : Nat} {D : va_G} {E : Nat → ClassId} (hX : hs_cx cX12_run (some .int) 6 RX12 wcX12_run p s m args meth c D E) {Q : State → Prop} {o : hs_S} {v0 : Nat} {v1 : Int32} {v2 : Int32} {v3 : Int32} {v4 : Int32} (hex0 : ∀ (H : Heap) (locs : List Loc) (ls : Array Slot), hs_P B D E (o) H → hs_Sx B s.heap H locs → lv_has ls 6 [(0, .ref (B + v0)), (1, .int v1), (2, .int v2), (3, .int v3), (4, .int v4)] → W p l e rmX12_run s m args below meth c H locs 0 0 Q (F0 m 61 ls [])) : ∀ (n : Nat) (v5 : Int32) (g : hs_S), lX12_run_41 n v0 v1 v2 v3 v4 v5 g = some o → ∀ (H : Heap) (locs : List Loc) (ls : Array Slot), hs_P B D E g H → hs_Sx B s.heap H locs → lv_has ls 6 [(0, .ref (B + v0)), (1, .int v1), (2, .int v2), (3, .int v3), (4, .int v4), (5, .int v5)] → W p l e rmX12_run s m args below meth c H locs 0 0 Q (F0 m 41 ls []) := by
  obtain ⟨hx, hb, hr, hml, hown, hts, hlocks, hK⟩ := id hX
  intro n
  induction n with
  | zero =>
    intro v5 g hf
    cases hf
  | succ n ih =>
    intro v5 g hf H locs ls hP hS hl
    replace hf := (lX12_run_41_s n v0 v1 v2 v3 v4 v5 g).symm.trans hf
    refine lv_iload hx hb dX12_run_41 (lv_at hl 5 rfl) ?_
    refine lv_iconst (v := 4) hx hb dX12_run_43 (by decide) ?_
    refine lv_icmp_ge (tgt := 61) hx hb dX12_run_44 (by decide) (fun hc => ?_) (fun hc => ?_)
    · replace hf := hs_t hf hc
      obtain rfl := Option.some.inj hf
      exact hex0 _ _ _ hP hS (lv_sub hl [0, 1, 2, 3, 4] rfl)
    · replace hf := hs_f hf hc
      refine lv_aload_n hx hb dX12_run_47 rfl (lv_at hl 0 rfl) ?_
      obtain ⟨h2, hf⟩ := hs_ck hf
      obtain ⟨h3, hf⟩ := hs_ck hf
      refine hs_getr (C := RX12) (T := TX12) (N := 48) hx hb hts (fun w h => List.mem_cons_of_mem _ (inlX12 w h)) hown hK.1 hP h2 (by decide) rfl 34 (by decide) (hts _ (List.mem_cons_of_mem _ wq150)) (fun _ h => h) rfl h3 dX12_run_48 ?_
      refine lv_iload hx hb dX12_run_51 (lv_at hl 5 rfl) ?_
      refine lv_iconst (v := 0) hx hb dX12_run_53 (by decide) ?_
      obtain ⟨h4, hf⟩ := hs_ck hf
      obtain ⟨h5, hf⟩ := hs_ck hf
      refine hs_iast hx hb hK.1 hP hS h4 h5 dX12_run_54 (fun H locs hP hS => ?_)
      refine lv_iinc (v := (v5 + (1 : Int32))) (lv' := [(5, .int (v5 + (1 : Int32))), (0, .ref (B + v0)), (1, .int v1), (2, .int v2), (3, .int v3), (4, .int v4)]) hx hb dX12_run_55 hl (k := 5) rfl (by rfl) (by decide) rfl (fun ls hl => ?_)
      refine lv_goto (tgt := 41) hx hb dX12_run_58 (by decide) ?_
      exact ih _ _ hf _ _ _ hP hS (lv_sub hl [1, 2, 3, 4, 5, 0] rfl)

set_option maxHeartbeats 4000000 in
set_option maxRecDepth 100000 in
theorem ctX12_run (l : Launch) (B : Nat) (D : va_G) (E : Nat → ClassId) (v0 : Nat) (v1 : Int32) (v2 : Int32) (v3 : Int32) (v4 : Int32) (g : hs_S) (o : Int32 × hs_S) (hf : fX12_run v0 v1 v2 v3 v4 g = some o) : Met l yX12_run wcX12_run rmX12_run (hs_Pc B D E g [.ref (B + v0), .int v1, .int v2, .int v3, .int v4]) (hs_Qi B D E o) (0) (0) (hs_F B) := by
  refine Met.ofW (cc := cX12_run) (maxL := 6) (ret := (some .int)) (by decide) rfl ?_
  intro p e s m args below meth c s₁ Bd hml hv
  obtain ⟨rfl, hP, hK⟩ := hv
  have hx := Bd.exec
  have hb := Bd.bytes
  have hr := Bd.returns
  have hts := atoms_spec (ws := wcX12_run) Bd.pre
  have hown : s.vm.findClass RX12 = some m.cls := findClass_of_methodNamed Bd.named
  have hlocks := Bd.notSynchronized
  have hS : hs_Sx B s.heap s.heap [] := va_S.rf
  have hX : hs_cx cX12_run (some .int) 6 RX12 wcX12_run p s m (List.toArray [.ref (B + v0), .int v1, .int v2, .int v3, .int v4]) meth c D E := ⟨hx, hb, hr, hml, hown, hts, hlocks, hK⟩
  have hl := lv_entry ([.ref (B + v0), .int v1, .int v2, .int v3, .int v4]) (n := 6) (Nat.le_of_ble_eq_true rfl)
  rw [lg_entry_eq]
  generalize (lg_sl ([.ref (B + v0), .int v1, .int v2, .int v3, .int v4]) ++ List.replicate (6 - (lg_sl ([.ref (B + v0), .int v1, .int v2, .int v3, .int v4])).length) Slot.unset).toArray = ls at hl ⊢
  have hl : lv_has ls 6 [(0, .ref (B + v0)), (1, .int v1), (2, .int v2), (3, .int v3), (4, .int v4)] := hl
  have hP : hs_P B D E g s.heap := hP
  unfold fX12_run at hf
  refine lv_aload_n hx hb dX12_run_0 rfl (lv_at hl 0 rfl) ?_
  obtain ⟨h1, hf⟩ := hs_ck hf
  refine hs_geti (C := RX12) (T := TX12) (N := 48) hx hb hts (fun w h => List.mem_cons_of_mem _ (inlX12 w h)) hown hK.1 hP h1 (by decide) rfl 22 (by decide) (hts _ (List.mem_cons_of_mem _ wq394)) (fun _ h => h) rfl dX12_run_1 ?_
  refine lv_if_ne (tgt := 10) hx hb dX12_run_4 (by decide) (fun hc => ?_) (fun hc => ?_)
  · replace hf := hs_f hf hc
    refine lv_iload_n hx hb dX12_run_10 rfl (lv_at hl 1 rfl) ?_
    refine lv_if_lt (tgt := 35) hx hb dX12_run_11 (by decide) (fun hc => ?_) (fun hc => ?_)
    · replace hf := hs_t hf hc
      refine lv_bipush (v := -3) hx hb dX12_run_35 (by decide) ?_
      exact hs_iret hx hb hr hlocks rfl hK hP hS hf dX12_run_37
    · replace hf := hs_f hf hc
      refine lv_iload_n hx hb dX12_run_14 rfl (lv_at hl 1 rfl) ?_
      refine lv_aload_n hx hb dX12_run_15 rfl (lv_at hl 0 rfl) ?_
      refine hs_geti (C := RX12) (T := TX12) (N := 48) hx hb hts (fun w h => List.mem_cons_of_mem _ (inlX12 w h)) hown hK.1 hP h1 (by decide) rfl 4 (by decide) (hts _ (List.mem_cons_of_mem _ wq392)) (fun _ h => h) rfl dX12_run_16 ?_
      refine lv_icmp_ge (tgt := 35) hx hb dX12_run_19 (by decide) (fun hc => ?_) (fun hc => ?_)
      · replace hf := hs_t hf hc
        refine lv_bipush (v := -3) hx hb dX12_run_35 (by decide) ?_
        exact hs_iret hx hb hr hlocks rfl hK hP hS hf dX12_run_37
      · replace hf := hs_f hf hc
        refine lv_iload hx hb dX12_run_22 (lv_at hl 4 rfl) ?_
        refine lv_if_lt (tgt := 35) hx hb dX12_run_24 (by decide) (fun hc => ?_) (fun hc => ?_)
        · replace hf := hs_t hf hc
          refine lv_bipush (v := -3) hx hb dX12_run_35 (by decide) ?_
          exact hs_iret hx hb hr hlocks rfl hK hP hS hf dX12_run_37
        · replace hf := hs_f hf hc
          refine lv_iload hx hb dX12_run_27 (lv_at hl 4 rfl) ?_
          refine lv_ldcw (v := 100000) hx hb hown (hts _ (List.mem_cons_of_mem _ wq854)) dX12_run_29 ?_
          refine lv_icmp_le (tgt := 38) hx hb dX12_run_32 (by decide) (fun hc => ?_) (fun hc => ?_)
          · replace hf := hs_t hf hc
            refine lv_iconst (v := 0) hx hb dX12_run_38 (by decide) ?_
            refine lv_istore (lv' := [(5, .int (0 : Int32)), (0, .ref (B + v0)), (1, .int v1), (2, .int v2), (3, .int v3), (4, .int v4)]) hx hb dX12_run_39 hl (by decide) rfl (fun ls hl => ?_)
            obtain ⟨g7, h8, hf⟩ := hs_bv_some hf
            refine wX12_run_41 hX (fun H locs ls hP hS hl => ?_) hs_N _ _ h8 _ _ _ hP hS (lv_sub hl [1, 2, 3, 4, 5, 0] rfl)
            refine lv_aload_n hx hb dX12_run_61 rfl (lv_at hl 0 rfl) ?_
            refine lv_iconst (v := 0) hx hb dX12_run_62 (by decide) ?_
            obtain ⟨h9, hf⟩ := hs_ck hf
            refine hs_puti (C := RX12) (T := TX12) (N := 48) hx hb hts (fun w h => List.mem_cons_of_mem _ (inlX12 w h)) tyX12 tyX12_ok nmX12 hown hK.1 hP hS h9 (by decide) rfl 36 (by decide) (hts _ (List.mem_cons_of_mem _ wq855)) (fun _ h => h) (Or.inl rfl) rfl rfl rfl dX12_run_63 (fun H locs hP hS => ?_)
            refine lv_aload_n hx hb dX12_run_66 rfl (lv_at hl 0 rfl) ?_
            refine lv_iconst (v := 0) hx hb dX12_run_67 (by decide) ?_
            refine hs_puti (C := RX12) (T := TX12) (N := 48) hx hb hts (fun w h => List.mem_cons_of_mem _ (inlX12 w h)) tyX12 tyX12_ok nmX12 hown hK.1 hP hS h9 (by decide) rfl 37 (by decide) (hts _ (List.mem_cons_of_mem _ wq856)) (fun _ h => h) (Or.inl rfl) rfl rfl rfl dX12_run_68 (fun H locs hP hS => ?_)
            refine lv_aload_n hx hb dX12_run_71 rfl (lv_at hl 0 rfl) ?_
            refine lv_iconst (v := 0) hx hb dX12_run_72 (by decide) ?_
            refine hs_puti (C := RX12) (T := TX12) (N := 48) hx hb hts (fun w h => List.mem_cons_of_mem _ (inlX12 w h)) tyX12 tyX12_ok nmX12 hown hK.1 hP hS h9 (by decide) rfl 38 (by decide) (hts _ (List.mem_cons_of_mem _ wq857)) (fun _ h => h) (Or.inl rfl) rfl rfl rfl dX12_run_73 (fun H locs hP hS => ?_)
            refine lv_aload_n hx hb dX12_run_76 rfl (lv_at hl 0 rfl) ?_
            refine lv_iload hx hb dX12_run_77 (lv_at hl 4 rfl) ?_
            refine hs_puti (C := RX12) (T := TX12) (N := 48) hx hb hts (fun w h => List.mem_cons_of_mem _ (inlX12 w h)) tyX12 tyX12_ok nmX12 hown hK.1 hP hS h9 (by decide) rfl 39 (by decide) (hts _ (List.mem_cons_of_mem _ wq858)) (fun _ h => h) (Or.inl rfl) rfl rfl rfl dX12_run_79 (fun H locs hP hS => ?_)
            obtain ⟨g10, e11, hf⟩ := hs_bv_some hf
            replace e11 := Option.some.inj e11
            rw [e11] at hP
            have h12 : hs_kd g10 v0 = 10 := by rw [← e11]; exact h9
            refine lv_aload_n hx hb dX12_run_82 rfl (lv_at hl 0 rfl) ?_
            refine lv_iconst (v := 0) hx hb dX12_run_83 (by decide) ?_
            refine hs_puti (C := RX12) (T := TX12) (N := 48) hx hb hts (fun w h => List.mem_cons_of_mem _ (inlX12 w h)) tyX12 tyX12_ok nmX12 hown hK.1 hP hS h12 (by decide) rfl 40 (by decide) (hts _ (List.mem_cons_of_mem _ wq859)) (fun _ h => h) (Or.inl rfl) rfl rfl rfl dX12_run_84 (fun H locs hP hS => ?_)
            refine lv_aload_n hx hb dX12_run_87 rfl (lv_at hl 0 rfl) ?_
            refine lv_iconst (v := 0) hx hb dX12_run_88 (by decide) ?_
            refine hs_puti (C := RX12) (T := TX12) (N := 48) hx hb hts (fun w h => List.mem_cons_of_mem _ (inlX12 w h)) tyX12 tyX12_ok nmX12 hown hK.1 hP hS h12 (by decide) rfl 46 (by decide) (hts _ (List.mem_cons_of_mem _ wq860)) (fun _ h => h) (Or.inl rfl) (hs_01_nar (rfl)) (hs_01_fit (rfl)) rfl dX12_run_89 (fun H locs hP hS => ?_)
            refine lv_aload_n hx hb dX12_run_92 rfl (lv_at hl 0 rfl) ?_
            refine lv_iload_n hx hb dX12_run_93 rfl (lv_at hl 1 rfl) ?_
            obtain ⟨g13, h15, hf⟩ := hs_bv_some hf
            cases h15
          · replace hf := hs_f hf hc
            refine lv_bipush (v := -3) hx hb dX12_run_35 (by decide) ?_
            exact hs_iret hx hb hr hlocks rfl hK hP hS hf dX12_run_37
  · replace hf := hs_t hf hc
    refine lv_bipush (v := -2) hx hb dX12_run_7 (by decide) ?_
    exact hs_iret hx hb hr hlocks rfl hK hP hS hf dX12_run_9

theorem dX12_answer_0 : decode cX12_answer 0 = .ok (.aload_n 0, 1) := by decide +kernel
theorem dX12_answer_1 : decode cX12_answer 1 = .ok (.getfield 258, 3) := by decide +kernel
theorem dX12_answer_4 : decode cX12_answer 4 = .ok (.ireturn, 1) := by decide +kernel
abbrev wcX12_answer : List Cond := .code yX12_answer cX12_answer 1 (some .int) :: wsL_law
def fX12_answer (v0 : Nat) (g : hs_S) : Option (Int32 × hs_S) :=
  if hs_kd g v0 = 10 then
  some ((hs_I g v0 36), g)
  else none
abbrev rmX12_answer : Room := { frames := 0, cells := 0, slots := 0, locals := 0 }
set_option maxHeartbeats 4000000 in
set_option maxRecDepth 100000 in
theorem ctX12_answer (l : Launch) (B : Nat) (D : va_G) (E : Nat → ClassId) (v0 : Nat) (g : hs_S) (o : Int32 × hs_S) (hf : fX12_answer v0 g = some o) : Met l yX12_answer wcX12_answer rmX12_answer (hs_Pc B D E g [.ref (B + v0)]) (hs_Qi B D E o) (0) (0) (hs_F B) := by
  refine Met.ofW (cc := cX12_answer) (maxL := 1) (ret := (some .int)) (by decide) rfl ?_
  intro p e s m args below meth c s₁ Bd hml hv
  obtain ⟨rfl, hP, hK⟩ := hv
  have hx := Bd.exec
  have hb := Bd.bytes
  have hr := Bd.returns
  have hts := atoms_spec (ws := wcX12_answer) Bd.pre
  have hown : s.vm.findClass RX12 = some m.cls := findClass_of_methodNamed Bd.named
  have hlocks := Bd.notSynchronized
  have hS : hs_Sx B s.heap s.heap [] := va_S.rf
  have hX : hs_cx cX12_answer (some .int) 1 RX12 wcX12_answer p s m (List.toArray [.ref (B + v0)]) meth c D E := ⟨hx, hb, hr, hml, hown, hts, hlocks, hK⟩
  have hl := lv_entry ([.ref (B + v0)]) (n := 1) (Nat.le_of_ble_eq_true rfl)
  rw [lg_entry_eq]
  generalize (lg_sl ([.ref (B + v0)]) ++ List.replicate (1 - (lg_sl ([.ref (B + v0)])).length) Slot.unset).toArray = ls at hl ⊢
  have hl : lv_has ls 1 [(0, .ref (B + v0))] := hl
  have hP : hs_P B D E g s.heap := hP
  unfold fX12_answer at hf
  refine lv_aload_n hx hb dX12_answer_0 rfl (lv_at hl 0 rfl) ?_
  obtain ⟨h1, hf⟩ := hs_ck hf
  refine hs_geti (C := RX12) (T := TX12) (N := 48) hx hb hts (fun w h => List.mem_cons_of_mem _ (inlX12 w h)) hown hK.1 hP h1 (by decide) rfl 36 (by decide) (hts _ (List.mem_cons_of_mem _ wq855)) (fun _ h => h) rfl dX12_answer_1 ?_
  exact hs_iret hx hb hr hlocks rfl hK hP hS hf dX12_answer_4

theorem dX12_counted_0 : decode cX12_counted 0 = .ok (.aload_n 0, 1) := by decide +kernel
theorem dX12_counted_1 : decode cX12_counted 1 = .ok (.getfield 251, 3) := by decide +kernel
theorem dX12_counted_4 : decode cX12_counted 4 = .ok (.ireturn, 1) := by decide +kernel
abbrev wcX12_counted : List Cond := .code yX12_counted cX12_counted 1 (some .int) :: wsL_law
def fX12_counted (v0 : Nat) (g : hs_S) : Option (Int32 × hs_S) :=
  if hs_kd g v0 = 10 then
  some ((hs_I g v0 37), g)
  else none
abbrev rmX12_counted : Room := { frames := 0, cells := 0, slots := 0, locals := 0 }
set_option maxHeartbeats 4000000 in
set_option maxRecDepth 100000 in
theorem ctX12_counted (l : Launch) (B : Nat) (D : va_G) (E : Nat → ClassId) (v0 : Nat) (g : hs_S) (o : Int32 × hs_S) (hf : fX12_counted v0 g = some o) : Met l yX12_counted wcX12_counted rmX12_counted (hs_Pc B D E g [.ref (B + v0)]) (hs_Qi B D E o) (0) (0) (hs_F B) := by
  refine Met.ofW (cc := cX12_counted) (maxL := 1) (ret := (some .int)) (by decide) rfl ?_
  intro p e s m args below meth c s₁ Bd hml hv
  obtain ⟨rfl, hP, hK⟩ := hv
  have hx := Bd.exec
  have hb := Bd.bytes
  have hr := Bd.returns
  have hts := atoms_spec (ws := wcX12_counted) Bd.pre
  have hown : s.vm.findClass RX12 = some m.cls := findClass_of_methodNamed Bd.named
  have hlocks := Bd.notSynchronized
  have hS : hs_Sx B s.heap s.heap [] := va_S.rf
  have hX : hs_cx cX12_counted (some .int) 1 RX12 wcX12_counted p s m (List.toArray [.ref (B + v0)]) meth c D E := ⟨hx, hb, hr, hml, hown, hts, hlocks, hK⟩
  have hl := lv_entry ([.ref (B + v0)]) (n := 1) (Nat.le_of_ble_eq_true rfl)
  rw [lg_entry_eq]
  generalize (lg_sl ([.ref (B + v0)]) ++ List.replicate (1 - (lg_sl ([.ref (B + v0)])).length) Slot.unset).toArray = ls at hl ⊢
  have hl : lv_has ls 1 [(0, .ref (B + v0))] := hl
  have hP : hs_P B D E g s.heap := hP
  unfold fX12_counted at hf
  refine lv_aload_n hx hb dX12_counted_0 rfl (lv_at hl 0 rfl) ?_
  obtain ⟨h1, hf⟩ := hs_ck hf
  refine hs_geti (C := RX12) (T := TX12) (N := 48) hx hb hts (fun w h => List.mem_cons_of_mem _ (inlX12 w h)) hown hK.1 hP h1 (by decide) rfl 37 (by decide) (hts _ (List.mem_cons_of_mem _ wq856)) (fun _ h => h) rfl dX12_counted_1 ?_
  exact hs_iret hx hb hr hlocks rfl hK hP hS hf dX12_counted_4

theorem dX12_steps_0 : decode cX12_steps 0 = .ok (.aload_n 0, 1) := by decide +kernel
theorem dX12_steps_1 : decode cX12_steps 1 = .ok (.getfield 261, 3) := by decide +kernel
theorem dX12_steps_4 : decode cX12_steps 4 = .ok (.ireturn, 1) := by decide +kernel
abbrev wcX12_steps : List Cond := .code yX12_steps cX12_steps 1 (some .int) :: wsL_law
def fX12_steps (v0 : Nat) (g : hs_S) : Option (Int32 × hs_S) :=
  if hs_kd g v0 = 10 then
  some ((hs_I g v0 38), g)
  else none
abbrev rmX12_steps : Room := { frames := 0, cells := 0, slots := 0, locals := 0 }
set_option maxHeartbeats 4000000 in
set_option maxRecDepth 100000 in
theorem ctX12_steps (l : Launch) (B : Nat) (D : va_G) (E : Nat → ClassId) (v0 : Nat) (g : hs_S) (o : Int32 × hs_S) (hf : fX12_steps v0 g = some o) : Met l yX12_steps wcX12_steps rmX12_steps (hs_Pc B D E g [.ref (B + v0)]) (hs_Qi B D E o) (0) (0) (hs_F B) := by
  refine Met.ofW (cc := cX12_steps) (maxL := 1) (ret := (some .int)) (by decide) rfl ?_
  intro p e s m args below meth c s₁ Bd hml hv
  obtain ⟨rfl, hP, hK⟩ := hv
  have hx := Bd.exec
  have hb := Bd.bytes
  have hr := Bd.returns
  have hts := atoms_spec (ws := wcX12_steps) Bd.pre
  have hown : s.vm.findClass RX12 = some m.cls := findClass_of_methodNamed Bd.named
  have hlocks := Bd.notSynchronized
  have hS : hs_Sx B s.heap s.heap [] := va_S.rf
  have hX : hs_cx cX12_steps (some .int) 1 RX12 wcX12_steps p s m (List.toArray [.ref (B + v0)]) meth c D E := ⟨hx, hb, hr, hml, hown, hts, hlocks, hK⟩
  have hl := lv_entry ([.ref (B + v0)]) (n := 1) (Nat.le_of_ble_eq_true rfl)
  rw [lg_entry_eq]
  generalize (lg_sl ([.ref (B + v0)]) ++ List.replicate (1 - (lg_sl ([.ref (B + v0)])).length) Slot.unset).toArray = ls at hl ⊢
  have hl : lv_has ls 1 [(0, .ref (B + v0))] := hl
  have hP : hs_P B D E g s.heap := hP
  unfold fX12_steps at hf
  refine lv_aload_n hx hb dX12_steps_0 rfl (lv_at hl 0 rfl) ?_
  obtain ⟨h1, hf⟩ := hs_ck hf
  refine hs_geti (C := RX12) (T := TX12) (N := 48) hx hb hts (fun w h => List.mem_cons_of_mem _ (inlX12 w h)) hown hK.1 hP h1 (by decide) rfl 38 (by decide) (hts _ (List.mem_cons_of_mem _ wq857)) (fun _ h => h) rfl dX12_steps_1 ?_
  exact hs_iret hx hb hr hlocks rfl hK hP hS hf dX12_steps_4

theorem dX12_element_0 : decode cX12_element 0 = .ok (.iload_n 1, 1) := by decide +kernel
theorem dX12_element_1 : decode cX12_element 1 = .ok (.ifCond .lt 8, 3) := by decide +kernel
theorem dX12_element_4 : decode cX12_element 4 = .ok (.iload_n 1, 1) := by decide +kernel
theorem dX12_element_5 : decode cX12_element 5 = .ok (.iconst 3, 1) := by decide +kernel
theorem dX12_element_6 : decode cX12_element 6 = .ok (.if_icmp .le 6, 3) := by decide +kernel
theorem dX12_element_9 : decode cX12_element 9 = .ok (.bipush (-3), 2) := by decide +kernel
theorem dX12_element_11 : decode cX12_element 11 = .ok (.ireturn, 1) := by decide +kernel
theorem dX12_element_12 : decode cX12_element 12 = .ok (.iload_n 2, 1) := by decide +kernel
theorem dX12_element_13 : decode cX12_element 13 = .ok (.iconst (-1), 1) := by decide +kernel
theorem dX12_element_14 : decode cX12_element 14 = .ok (.if_icmp .ne 10, 3) := by decide +kernel
theorem dX12_element_17 : decode cX12_element 17 = .ok (.aload_n 0, 1) := by decide +kernel
theorem dX12_element_18 : decode cX12_element 18 = .ok (.getfield 96, 3) := by decide +kernel
theorem dX12_element_21 : decode cX12_element 21 = .ok (.iload_n 1, 1) := by decide +kernel
theorem dX12_element_22 : decode cX12_element 22 = .ok (.iaload, 1) := by decide +kernel
theorem dX12_element_23 : decode cX12_element 23 = .ok (.ireturn, 1) := by decide +kernel
theorem dX12_element_24 : decode cX12_element 24 = .ok (.iload_n 2, 1) := by decide +kernel
theorem dX12_element_25 : decode cX12_element 25 = .ok (.ifCond .lt 13, 3) := by decide +kernel
theorem dX12_element_28 : decode cX12_element 28 = .ok (.iload_n 2, 1) := by decide +kernel
theorem dX12_element_29 : decode cX12_element 29 = .ok (.aload_n 0, 1) := by decide +kernel
theorem dX12_element_30 : decode cX12_element 30 = .ok (.getfield 96, 3) := by decide +kernel
theorem dX12_element_33 : decode cX12_element 33 = .ok (.iload_n 1, 1) := by decide +kernel
theorem dX12_element_34 : decode cX12_element 34 = .ok (.iaload, 1) := by decide +kernel
theorem dX12_element_35 : decode cX12_element 35 = .ok (.if_icmp .lt 7, 3) := by decide +kernel
theorem dX12_element_38 : decode cX12_element 38 = .ok (.iconst (-1), 1) := by decide +kernel
theorem dX12_element_39 : decode cX12_element 39 = .ok (.goto 15, 3) := by decide +kernel
theorem dX12_element_42 : decode cX12_element 42 = .ok (.aload_n 0, 1) := by decide +kernel
theorem dX12_element_43 : decode cX12_element 43 = .ok (.getfield 99, 3) := by decide +kernel
theorem dX12_element_46 : decode cX12_element 46 = .ok (.sipush 1001, 3) := by decide +kernel
theorem dX12_element_49 : decode cX12_element 49 = .ok (.iload_n 1, 1) := by decide +kernel
theorem dX12_element_50 : decode cX12_element 50 = .ok (.imul, 1) := by decide +kernel
theorem dX12_element_51 : decode cX12_element 51 = .ok (.iload_n 2, 1) := by decide +kernel
theorem dX12_element_52 : decode cX12_element 52 = .ok (.iadd, 1) := by decide +kernel
theorem dX12_element_53 : decode cX12_element 53 = .ok (.iaload, 1) := by decide +kernel
theorem dX12_element_54 : decode cX12_element 54 = .ok (.ireturn, 1) := by decide +kernel
abbrev wcX12_element : List Cond := .code yX12_element cX12_element 3 (some .int) :: wsL_law
def jX12_element_38  (g : hs_S) : Option (Int32 × hs_S) :=
  some ((-1 : Int32), g)
def fX12_element (v0 : Nat) (v1 : Int32) (v2 : Int32) (g : hs_S) : Option (Int32 × hs_S) :=
  if v1 < 0 then (
    some ((-3 : Int32), g)
  ) else (
    if v1 ≤ (3 : Int32) then (
      if v2 = (-1 : Int32) then (
        if hs_kd g v0 = 10 then
        if ¬ (hs_R g v0 34) = 0 then
        if hs_kd g ((hs_R g v0 34) - 1) = 100 then
        if hs_in v1 (hs_ln g ((hs_R g v0 34) - 1)) = true then
        some ((hs_I g ((hs_R g v0 34) - 1) v1.toNatClampNeg), g)
        else none else none else none else none
      ) else (
        if v2 < 0 then (
          jX12_element_38 g
        ) else (
          if hs_kd g v0 = 10 then
          if ¬ (hs_R g v0 34) = 0 then
          if hs_kd g ((hs_R g v0 34) - 1) = 100 then
          if hs_in v1 (hs_ln g ((hs_R g v0 34) - 1)) = true then
          if v2 < (hs_I g ((hs_R g v0 34) - 1) v1.toNatClampNeg) then (
            if ¬ (hs_R g v0 35) = 0 then
            if hs_kd g ((hs_R g v0 35) - 1) = 100 then
            if hs_in (((1001 : Int32) * v1) + v2) (hs_ln g ((hs_R g v0 35) - 1)) = true then
            some ((hs_I g ((hs_R g v0 35) - 1) (((1001 : Int32) * v1) + v2).toNatClampNeg), g)
            else none else none else none
          ) else (
            jX12_element_38 g
          )
          else none else none else none else none
        )
      )
    ) else (
      some ((-3 : Int32), g)
    )
  )
abbrev rmX12_element : Room := { frames := 0, cells := 0, slots := 0, locals := 0 }
set_option maxHeartbeats 4000000 in
set_option maxRecDepth 100000 in
theorem wX12_element_j38 {p : Program} {l : Launch} {e : Env} {s : State} {m : MethodId} {args : Array Value} {below : List Frame} {meth : Method} {c : Code} {B : Nat} {D : va_G} {E : Nat → ClassId} (hX : hs_cx cX12_element (some .int) 3 RX12 wcX12_element p s m args meth c D E) {o : Int32 × hs_S}     {g : hs_S} {H : Heap} {locs : List Loc} {ls : Array Slot} (hf : jX12_element_38  g = some o) (hP : hs_P B D E g H) (hS : hs_Sx B s.heap H locs) (hl : lv_has ls 3 []) : W p l e rmX12_element s m args below meth c H locs 0 0 (MQ below (hs_Qi B D E o) args s 0 0 (hs_F B)) (F0 m 38 ls []) := by
  obtain ⟨hx, hb, hr, hml, hown, hts, hlocks, hK⟩ := id hX
  unfold jX12_element_38 at hf
  refine lv_iconst (v := -1) hx hb dX12_element_38 (by decide) ?_
  refine lv_goto (tgt := 54) hx hb dX12_element_39 (by decide) ?_
  exact hs_iret hx hb hr hlocks rfl hK hP hS hf dX12_element_54

set_option maxHeartbeats 4000000 in
set_option maxRecDepth 100000 in
theorem ctX12_element (l : Launch) (B : Nat) (D : va_G) (E : Nat → ClassId) (v0 : Nat) (v1 : Int32) (v2 : Int32) (g : hs_S) (o : Int32 × hs_S) (hf : fX12_element v0 v1 v2 g = some o) : Met l yX12_element wcX12_element rmX12_element (hs_Pc B D E g [.ref (B + v0), .int v1, .int v2]) (hs_Qi B D E o) (0) (0) (hs_F B) := by
  refine Met.ofW (cc := cX12_element) (maxL := 3) (ret := (some .int)) (by decide) rfl ?_
  intro p e s m args below meth c s₁ Bd hml hv
  obtain ⟨rfl, hP, hK⟩ := hv
  have hx := Bd.exec
  have hb := Bd.bytes
  have hr := Bd.returns
  have hts := atoms_spec (ws := wcX12_element) Bd.pre
  have hown : s.vm.findClass RX12 = some m.cls := findClass_of_methodNamed Bd.named
  have hlocks := Bd.notSynchronized
  have hS : hs_Sx B s.heap s.heap [] := va_S.rf
  have hX : hs_cx cX12_element (some .int) 3 RX12 wcX12_element p s m (List.toArray [.ref (B + v0), .int v1, .int v2]) meth c D E := ⟨hx, hb, hr, hml, hown, hts, hlocks, hK⟩
  have hl := lv_entry ([.ref (B + v0), .int v1, .int v2]) (n := 3) (Nat.le_of_ble_eq_true rfl)
  rw [lg_entry_eq]
  generalize (lg_sl ([.ref (B + v0), .int v1, .int v2]) ++ List.replicate (3 - (lg_sl ([.ref (B + v0), .int v1, .int v2])).length) Slot.unset).toArray = ls at hl ⊢
  have hl : lv_has ls 3 [(0, .ref (B + v0)), (1, .int v1), (2, .int v2)] := hl
  have hP : hs_P B D E g s.heap := hP
  unfold fX12_element at hf
  refine lv_iload_n hx hb dX12_element_0 rfl (lv_at hl 1 rfl) ?_
  refine lv_if_lt (tgt := 9) hx hb dX12_element_1 (by decide) (fun hc => ?_) (fun hc => ?_)
  · replace hf := hs_t hf hc
    refine lv_bipush (v := -3) hx hb dX12_element_9 (by decide) ?_
    exact hs_iret hx hb hr hlocks rfl hK hP hS hf dX12_element_11
  · replace hf := hs_f hf hc
    refine lv_iload_n hx hb dX12_element_4 rfl (lv_at hl 1 rfl) ?_
    refine lv_iconst (v := 3) hx hb dX12_element_5 (by decide) ?_
    refine lv_icmp_le (tgt := 12) hx hb dX12_element_6 (by decide) (fun hc => ?_) (fun hc => ?_)
    · replace hf := hs_t hf hc
      refine lv_iload_n hx hb dX12_element_12 rfl (lv_at hl 2 rfl) ?_
      refine lv_iconst (v := -1) hx hb dX12_element_13 (by decide) ?_
      refine lv_icmp_ne (tgt := 24) hx hb dX12_element_14 (by decide) (fun hc => ?_) (fun hc => ?_)
      · replace hf := hs_f hf hc
        refine lv_iload_n hx hb dX12_element_24 rfl (lv_at hl 2 rfl) ?_
        refine lv_if_lt (tgt := 38) hx hb dX12_element_25 (by decide) (fun hc => ?_) (fun hc => ?_)
        · replace hf := hs_t hf hc
          exact wX12_element_j38 hX hf hP hS (lv_sub hl [] rfl)
        · replace hf := hs_f hf hc
          refine lv_iload_n hx hb dX12_element_28 rfl (lv_at hl 2 rfl) ?_
          refine lv_aload_n hx hb dX12_element_29 rfl (lv_at hl 0 rfl) ?_
          obtain ⟨h1, hf⟩ := hs_ck hf
          obtain ⟨h2, hf⟩ := hs_ck hf
          refine hs_getr (C := RX12) (T := TX12) (N := 48) hx hb hts (fun w h => List.mem_cons_of_mem _ (inlX12 w h)) hown hK.1 hP h1 (by decide) rfl 34 (by decide) (hts _ (List.mem_cons_of_mem _ wq150)) (fun _ h => h) rfl h2 dX12_element_30 ?_
          refine lv_iload_n hx hb dX12_element_33 rfl (lv_at hl 1 rfl) ?_
          obtain ⟨h3, hf⟩ := hs_ck hf
          obtain ⟨h4, hf⟩ := hs_ck hf
          refine hs_iald hx hb hK.1 hP h3 h4 dX12_element_34 ?_
          refine lv_icmp_lt (tgt := 42) hx hb dX12_element_35 (by decide) (fun hc => ?_) (fun hc => ?_)
          · replace hf := hs_t hf hc
            refine lv_aload_n hx hb dX12_element_42 rfl (lv_at hl 0 rfl) ?_
            obtain ⟨h5, hf⟩ := hs_ck hf
            refine hs_getr (C := RX12) (T := TX12) (N := 48) hx hb hts (fun w h => List.mem_cons_of_mem _ (inlX12 w h)) hown hK.1 hP h1 (by decide) rfl 35 (by decide) (hts _ (List.mem_cons_of_mem _ wq151)) (fun _ h => h) rfl h5 dX12_element_43 ?_
            refine lv_sipush (v := 1001) hx hb dX12_element_46 (by decide) ?_
            refine lv_iload_n hx hb dX12_element_49 rfl (lv_at hl 1 rfl) ?_
            refine lv_imul hx hb dX12_element_50 ?_
            refine lv_iload_n hx hb dX12_element_51 rfl (lv_at hl 2 rfl) ?_
            refine lv_iadd hx hb dX12_element_52 ?_
            obtain ⟨h6, hf⟩ := hs_ck hf
            obtain ⟨h7, hf⟩ := hs_ck hf
            refine hs_iald hx hb hK.1 hP h6 h7 dX12_element_53 ?_
            exact hs_iret hx hb hr hlocks rfl hK hP hS hf dX12_element_54
          · replace hf := hs_f hf hc
            exact wX12_element_j38 hX hf hP hS (lv_sub hl [] rfl)
      · replace hf := hs_t hf hc
        refine lv_aload_n hx hb dX12_element_17 rfl (lv_at hl 0 rfl) ?_
        obtain ⟨h8, hf⟩ := hs_ck hf
        obtain ⟨h9, hf⟩ := hs_ck hf
        refine hs_getr (C := RX12) (T := TX12) (N := 48) hx hb hts (fun w h => List.mem_cons_of_mem _ (inlX12 w h)) hown hK.1 hP h8 (by decide) rfl 34 (by decide) (hts _ (List.mem_cons_of_mem _ wq150)) (fun _ h => h) rfl h9 dX12_element_18 ?_
        refine lv_iload_n hx hb dX12_element_21 rfl (lv_at hl 1 rfl) ?_
        obtain ⟨h10, hf⟩ := hs_ck hf
        obtain ⟨h11, hf⟩ := hs_ck hf
        refine hs_iald hx hb hK.1 hP h10 h11 dX12_element_22 ?_
        exact hs_iret hx hb hr hlocks rfl hK hP hS hf dX12_element_23
    · replace hf := hs_f hf hc
      refine lv_bipush (v := -3) hx hb dX12_element_9 (by decide) ?_
      exact hs_iret hx hb hr hlocks rfl hK hP hS hf dX12_element_11

theorem dX12_unwrite_0 : decode cX12_unwrite 0 = .ok (.aload_n 0, 1) := by decide +kernel
theorem dX12_unwrite_1 : decode cX12_unwrite 1 = .ok (.getfield 195, 3) := by decide +kernel
theorem dX12_unwrite_4 : decode cX12_unwrite 4 = .ok (.ifCond .ne 6, 3) := by decide +kernel
theorem dX12_unwrite_7 : decode cX12_unwrite 7 = .ok (.bipush (-2), 2) := by decide +kernel
theorem dX12_unwrite_9 : decode cX12_unwrite 9 = .ok (.ireturn, 1) := by decide +kernel
theorem dX12_unwrite_10 : decode cX12_unwrite 10 = .ok (.iconst 0, 1) := by decide +kernel
theorem dX12_unwrite_11 : decode cX12_unwrite 11 = .ok (.istore_n 1, 1) := by decide +kernel
theorem dX12_unwrite_12 : decode cX12_unwrite 12 = .ok (.iconst 0, 1) := by decide +kernel
theorem dX12_unwrite_13 : decode cX12_unwrite 13 = .ok (.istore_n 2, 1) := by decide +kernel
theorem dX12_unwrite_14 : decode cX12_unwrite 14 = .ok (.iload_n 2, 1) := by decide +kernel
theorem dX12_unwrite_15 : decode cX12_unwrite 15 = .ok (.aload_n 0, 1) := by decide +kernel
theorem dX12_unwrite_16 : decode cX12_unwrite 16 = .ok (.getfield 188, 3) := by decide +kernel
theorem dX12_unwrite_19 : decode cX12_unwrite 19 = .ok (.if_icmp .ge 139, 3) := by decide +kernel
theorem dX12_unwrite_22 : decode cX12_unwrite 22 = .ok (.aload_n 0, 1) := by decide +kernel
theorem dX12_unwrite_23 : decode cX12_unwrite 23 = .ok (.iload_n 2, 1) := by decide +kernel
theorem dX12_unwrite_24 : decode cX12_unwrite 24 = .ok (.iconst 0, 1) := by decide +kernel
theorem dX12_unwrite_25 : decode cX12_unwrite 25 = .ok (.invokevirtual 231, 3) := by decide +kernel
theorem dX12_unwrite_28 : decode cX12_unwrite 28 = .ok (.istore_n 3, 1) := by decide +kernel
theorem dX12_unwrite_29 : decode cX12_unwrite 29 = .ok (.aload_n 0, 1) := by decide +kernel
theorem dX12_unwrite_30 : decode cX12_unwrite 30 = .ok (.iload_n 2, 1) := by decide +kernel
theorem dX12_unwrite_31 : decode cX12_unwrite 31 = .ok (.iconst 0, 1) := by decide +kernel
theorem dX12_unwrite_32 : decode cX12_unwrite 32 = .ok (.invokevirtual 235, 3) := by decide +kernel
theorem dX12_unwrite_35 : decode cX12_unwrite 35 = .ok (.iload_n 1, 1) := by decide +kernel
theorem dX12_unwrite_36 : decode cX12_unwrite 36 = .ok (.iload_n 3, 1) := by decide +kernel
theorem dX12_unwrite_37 : decode cX12_unwrite 37 = .ok (.iadd, 1) := by decide +kernel
theorem dX12_unwrite_38 : decode cX12_unwrite 38 = .ok (.istore_n 1, 1) := by decide +kernel
theorem dX12_unwrite_39 : decode cX12_unwrite 39 = .ok (.iconst 0, 1) := by decide +kernel
theorem dX12_unwrite_40 : decode cX12_unwrite 40 = .ok (.istore 4, 2) := by decide +kernel
theorem dX12_unwrite_42 : decode cX12_unwrite 42 = .ok (.iload 4, 2) := by decide +kernel
theorem dX12_unwrite_44 : decode cX12_unwrite 44 = .ok (.aload_n 0, 1) := by decide +kernel
theorem dX12_unwrite_45 : decode cX12_unwrite 45 = .ok (.getfield 26, 3) := by decide +kernel
theorem dX12_unwrite_48 : decode cX12_unwrite 48 = .ok (.iload_n 2, 1) := by decide +kernel
theorem dX12_unwrite_49 : decode cX12_unwrite 49 = .ok (.iaload, 1) := by decide +kernel
theorem dX12_unwrite_50 : decode cX12_unwrite 50 = .ok (.if_icmp .ge 60, 3) := by decide +kernel
theorem dX12_unwrite_53 : decode cX12_unwrite 53 = .ok (.bipush 32, 2) := by decide +kernel
theorem dX12_unwrite_55 : decode cX12_unwrite 55 = .ok (.iload_n 2, 1) := by decide +kernel
theorem dX12_unwrite_56 : decode cX12_unwrite 56 = .ok (.imul, 1) := by decide +kernel
theorem dX12_unwrite_57 : decode cX12_unwrite 57 = .ok (.iconst 4, 1) := by decide +kernel
theorem dX12_unwrite_58 : decode cX12_unwrite 58 = .ok (.iload 4, 2) := by decide +kernel
theorem dX12_unwrite_60 : decode cX12_unwrite 60 = .ok (.imul, 1) := by decide +kernel
theorem dX12_unwrite_61 : decode cX12_unwrite 61 = .ok (.iadd, 1) := by decide +kernel
theorem dX12_unwrite_62 : decode cX12_unwrite 62 = .ok (.istore 5, 2) := by decide +kernel
theorem dX12_unwrite_64 : decode cX12_unwrite 64 = .ok (.iconst 0, 1) := by decide +kernel
theorem dX12_unwrite_65 : decode cX12_unwrite 65 = .ok (.istore 6, 2) := by decide +kernel
theorem dX12_unwrite_67 : decode cX12_unwrite 67 = .ok (.iload 6, 2) := by decide +kernel
theorem dX12_unwrite_69 : decode cX12_unwrite 69 = .ok (.iconst 3, 1) := by decide +kernel
theorem dX12_unwrite_70 : decode cX12_unwrite 70 = .ok (.if_icmp .ge 34, 3) := by decide +kernel
theorem dX12_unwrite_73 : decode cX12_unwrite 73 = .ok (.aload_n 0, 1) := by decide +kernel
theorem dX12_unwrite_74 : decode cX12_unwrite 74 = .ok (.getfield 29, 3) := by decide +kernel
theorem dX12_unwrite_77 : decode cX12_unwrite 77 = .ok (.iload 5, 2) := by decide +kernel
theorem dX12_unwrite_79 : decode cX12_unwrite 79 = .ok (.iload 6, 2) := by decide +kernel
theorem dX12_unwrite_81 : decode cX12_unwrite 81 = .ok (.iadd, 1) := by decide +kernel
theorem dX12_unwrite_82 : decode cX12_unwrite 82 = .ok (.aload_n 0, 1) := by decide +kernel
theorem dX12_unwrite_83 : decode cX12_unwrite 83 = .ok (.getfield 81, 3) := by decide +kernel
theorem dX12_unwrite_86 : decode cX12_unwrite 86 = .ok (.aload_n 0, 1) := by decide +kernel
theorem dX12_unwrite_87 : decode cX12_unwrite 87 = .ok (.getfield 29, 3) := by decide +kernel
theorem dX12_unwrite_90 : decode cX12_unwrite 90 = .ok (.iload 5, 2) := by decide +kernel
theorem dX12_unwrite_92 : decode cX12_unwrite 92 = .ok (.iload 6, 2) := by decide +kernel
theorem dX12_unwrite_94 : decode cX12_unwrite 94 = .ok (.iadd, 1) := by decide +kernel
theorem dX12_unwrite_95 : decode cX12_unwrite 95 = .ok (.iaload, 1) := by decide +kernel
theorem dX12_unwrite_96 : decode cX12_unwrite 96 = .ok (.iaload, 1) := by decide +kernel
theorem dX12_unwrite_97 : decode cX12_unwrite 97 = .ok (.iastore, 1) := by decide +kernel
theorem dX12_unwrite_98 : decode cX12_unwrite 98 = .ok (.iinc 6 1, 3) := by decide +kernel
theorem dX12_unwrite_101 : decode cX12_unwrite 101 = .ok (.goto (-34), 3) := by decide +kernel
theorem dX12_unwrite_104 : decode cX12_unwrite 104 = .ok (.iinc 4 1, 3) := by decide +kernel
theorem dX12_unwrite_107 : decode cX12_unwrite 107 = .ok (.goto (-65), 3) := by decide +kernel
theorem dX12_unwrite_110 : decode cX12_unwrite 110 = .ok (.iconst 0, 1) := by decide +kernel
theorem dX12_unwrite_111 : decode cX12_unwrite 111 = .ok (.istore 4, 2) := by decide +kernel
theorem dX12_unwrite_113 : decode cX12_unwrite 113 = .ok (.iload 4, 2) := by decide +kernel
theorem dX12_unwrite_115 : decode cX12_unwrite 115 = .ok (.iload_n 3, 1) := by decide +kernel
theorem dX12_unwrite_116 : decode cX12_unwrite 116 = .ok (.if_icmp .ge 29, 3) := by decide +kernel
theorem dX12_unwrite_119 : decode cX12_unwrite 119 = .ok (.aload_n 0, 1) := by decide +kernel
theorem dX12_unwrite_120 : decode cX12_unwrite 120 = .ok (.getfield 32, 3) := by decide +kernel
theorem dX12_unwrite_123 : decode cX12_unwrite 123 = .ok (.sipush 2001, 3) := by decide +kernel
theorem dX12_unwrite_126 : decode cX12_unwrite 126 = .ok (.iload_n 2, 1) := by decide +kernel
theorem dX12_unwrite_127 : decode cX12_unwrite 127 = .ok (.imul, 1) := by decide +kernel
theorem dX12_unwrite_128 : decode cX12_unwrite 128 = .ok (.iload 4, 2) := by decide +kernel
theorem dX12_unwrite_130 : decode cX12_unwrite 130 = .ok (.iadd, 1) := by decide +kernel
theorem dX12_unwrite_131 : decode cX12_unwrite 131 = .ok (.aload_n 0, 1) := by decide +kernel
theorem dX12_unwrite_132 : decode cX12_unwrite 132 = .ok (.getfield 90, 3) := by decide +kernel
theorem dX12_unwrite_135 : decode cX12_unwrite 135 = .ok (.iload 4, 2) := by decide +kernel
theorem dX12_unwrite_137 : decode cX12_unwrite 137 = .ok (.iaload, 1) := by decide +kernel
theorem dX12_unwrite_138 : decode cX12_unwrite 138 = .ok (.iastore, 1) := by decide +kernel
theorem dX12_unwrite_139 : decode cX12_unwrite 139 = .ok (.iinc 4 1, 3) := by decide +kernel
theorem dX12_unwrite_142 : decode cX12_unwrite 142 = .ok (.goto (-29), 3) := by decide +kernel
theorem dX12_unwrite_145 : decode cX12_unwrite 145 = .ok (.aload_n 0, 1) := by decide +kernel
theorem dX12_unwrite_146 : decode cX12_unwrite 146 = .ok (.getfield 23, 3) := by decide +kernel
theorem dX12_unwrite_149 : decode cX12_unwrite 149 = .ok (.iload_n 2, 1) := by decide +kernel
theorem dX12_unwrite_150 : decode cX12_unwrite 150 = .ok (.iload_n 3, 1) := by decide +kernel
theorem dX12_unwrite_151 : decode cX12_unwrite 151 = .ok (.iastore, 1) := by decide +kernel
theorem dX12_unwrite_152 : decode cX12_unwrite 152 = .ok (.iinc 2 1, 3) := by decide +kernel
theorem dX12_unwrite_155 : decode cX12_unwrite 155 = .ok (.goto (-141), 3) := by decide +kernel
theorem dX12_unwrite_158 : decode cX12_unwrite 158 = .ok (.iload_n 1, 1) := by decide +kernel
theorem dX12_unwrite_159 : decode cX12_unwrite 159 = .ok (.ireturn, 1) := by decide +kernel
abbrev wcX12_unwrite : List Cond := .code yX12_unwrite cX12_unwrite 7 (some .int) :: wsL_law
def lX12_unwrite_14 : Nat → Nat → Int32 → Int32 → hs_S → Option (Int32 × hs_S)
  | 0, _, _, _, _ => none
  | n + 1, v0, v1, v2, g =>
    if hs_kd g v0 = 10 then
    if (hs_I g v0 4) ≤ v2 then (
      some (v1, g)
    ) else (
      hs_bd ((none : Option (Int32 × hs_S))) fun r4 g3 =>
      none
    )
    else none
theorem lX12_unwrite_14_s (n : Nat) (v0 : Nat) (v1 : Int32) (v2 : Int32) (g : hs_S) : lX12_unwrite_14 (n + 1) v0 v1 v2 g =
    if hs_kd g v0 = 10 then
    if (hs_I g v0 4) ≤ v2 then (
      some (v1, g)
    ) else (
      hs_bd ((none : Option (Int32 × hs_S))) fun r4 g3 =>
      none
    )
    else none := rfl
def fX12_unwrite (v0 : Nat) (g : hs_S) : Option (Int32 × hs_S) :=
  if hs_kd g v0 = 10 then
  if (hs_I g v0 22) = 0 then (
    some ((-2 : Int32), g)
  ) else (
    hs_bd (lX12_unwrite_14 hs_N v0 (0 : Int32) (0 : Int32) g) fun x6 g8 =>
    some (x6, g8)
  )
  else none
abbrev rmX12_unwrite : Room := { frames := 5, cells := 0, slots := 0, locals := 120 }
set_option maxHeartbeats 4000000 in
set_option maxRecDepth 100000 in
theorem wX12_unwrite_14 {p : Program} {l : Launch} {e : Env} {s : State} {m : MethodId} {args : Array Value} {below : List Frame} {meth : Method} {c : Code} {B : Nat} {D : va_G} {E : Nat → ClassId} (hX : hs_cx cX12_unwrite (some .int) 7 RX12 wcX12_unwrite p s m args meth c D E) {Q : State → Prop} {o : Int32 × hs_S} {v0 : Nat} (hex0 : ∀ (H : Heap) (locs : List Loc) (ls : Array Slot), hs_P B D E (o.2) H → hs_Sx B s.heap H locs → lv_has ls 7 [(1, .int (o.1))] → W p l e rmX12_unwrite s m args below meth c H locs 0 0 Q (F0 m 158 ls [])) : ∀ (n : Nat) (v1 : Int32) (v2 : Int32) (g : hs_S), lX12_unwrite_14 n v0 v1 v2 g = some o → ∀ (H : Heap) (locs : List Loc) (ls : Array Slot), hs_P B D E g H → hs_Sx B s.heap H locs → lv_has ls 7 [(0, .ref (B + v0)), (1, .int v1), (2, .int v2)] → W p l e rmX12_unwrite s m args below meth c H locs 0 0 Q (F0 m 14 ls []) := by
  obtain ⟨hx, hb, hr, hml, hown, hts, hlocks, hK⟩ := id hX
  intro n
  induction n with
  | zero =>
    intro v1 v2 g hf
    cases hf
  | succ n ih =>
    intro v1 v2 g hf H locs ls hP hS hl
    replace hf := (lX12_unwrite_14_s n v0 v1 v2 g).symm.trans hf
    refine lv_iload_n hx hb dX12_unwrite_14 rfl (lv_at hl 2 rfl) ?_
    refine lv_aload_n hx hb dX12_unwrite_15 rfl (lv_at hl 0 rfl) ?_
    obtain ⟨h2, hf⟩ := hs_ck hf
    refine hs_geti (C := RX12) (T := TX12) (N := 48) hx hb hts (fun w h => List.mem_cons_of_mem _ (inlX12 w h)) hown hK.1 hP h2 (by decide) rfl 4 (by decide) (hts _ (List.mem_cons_of_mem _ wq392)) (fun _ h => h) rfl dX12_unwrite_16 ?_
    refine lv_icmp_ge (tgt := 158) hx hb dX12_unwrite_19 (by decide) (fun hc => ?_) (fun hc => ?_)
    · replace hf := hs_t hf hc
      obtain rfl := Option.some.inj hf
      exact hex0 _ _ _ hP hS (lv_sub hl [1] rfl)
    · replace hf := hs_f hf hc
      refine lv_aload_n hx hb dX12_unwrite_22 rfl (lv_at hl 0 rfl) ?_
      refine lv_iload_n hx hb dX12_unwrite_23 rfl (lv_at hl 2 rfl) ?_
      refine lv_iconst (v := 0) hx hb dX12_unwrite_24 (by decide) ?_
      obtain ⟨r4, g3, h5, hf⟩ := hs_bd_some hf
      cases h5

set_option maxHeartbeats 4000000 in
set_option maxRecDepth 100000 in
theorem ctX12_unwrite (l : Launch) (B : Nat) (D : va_G) (E : Nat → ClassId) (v0 : Nat) (g : hs_S) (o : Int32 × hs_S) (hf : fX12_unwrite v0 g = some o) : Met l yX12_unwrite wcX12_unwrite rmX12_unwrite (hs_Pc B D E g [.ref (B + v0)]) (hs_Qi B D E o) (0) (0) (hs_F B) := by
  refine Met.ofW (cc := cX12_unwrite) (maxL := 7) (ret := (some .int)) (by decide) rfl ?_
  intro p e s m args below meth c s₁ Bd hml hv
  obtain ⟨rfl, hP, hK⟩ := hv
  have hx := Bd.exec
  have hb := Bd.bytes
  have hr := Bd.returns
  have hts := atoms_spec (ws := wcX12_unwrite) Bd.pre
  have hown : s.vm.findClass RX12 = some m.cls := findClass_of_methodNamed Bd.named
  have hlocks := Bd.notSynchronized
  have hS : hs_Sx B s.heap s.heap [] := va_S.rf
  have hX : hs_cx cX12_unwrite (some .int) 7 RX12 wcX12_unwrite p s m (List.toArray [.ref (B + v0)]) meth c D E := ⟨hx, hb, hr, hml, hown, hts, hlocks, hK⟩
  have hl := lv_entry ([.ref (B + v0)]) (n := 7) (Nat.le_of_ble_eq_true rfl)
  rw [lg_entry_eq]
  generalize (lg_sl ([.ref (B + v0)]) ++ List.replicate (7 - (lg_sl ([.ref (B + v0)])).length) Slot.unset).toArray = ls at hl ⊢
  have hl : lv_has ls 7 [(0, .ref (B + v0))] := hl
  have hP : hs_P B D E g s.heap := hP
  unfold fX12_unwrite at hf
  refine lv_aload_n hx hb dX12_unwrite_0 rfl (lv_at hl 0 rfl) ?_
  obtain ⟨h1, hf⟩ := hs_ck hf
  refine hs_geti (C := RX12) (T := TX12) (N := 48) hx hb hts (fun w h => List.mem_cons_of_mem _ (inlX12 w h)) hown hK.1 hP h1 (by decide) rfl 22 (by decide) (hts _ (List.mem_cons_of_mem _ wq394)) (fun _ h => h) rfl dX12_unwrite_1 ?_
  refine lv_if_ne (tgt := 10) hx hb dX12_unwrite_4 (by decide) (fun hc => ?_) (fun hc => ?_)
  · replace hf := hs_f hf hc
    refine lv_iconst (v := 0) hx hb dX12_unwrite_10 (by decide) ?_
    refine lv_istore_n (lv' := [(1, .int (0 : Int32)), (0, .ref (B + v0))]) hx hb dX12_unwrite_11 rfl hl (by decide) rfl (fun ls hl => ?_)
    refine lv_iconst (v := 0) hx hb dX12_unwrite_12 (by decide) ?_
    refine lv_istore_n (lv' := [(2, .int (0 : Int32)), (1, .int (0 : Int32)), (0, .ref (B + v0))]) hx hb dX12_unwrite_13 rfl hl (by decide) rfl (fun ls hl => ?_)
    obtain ⟨x6, g8, h9, hf⟩ := hs_bd_some hf
    refine wX12_unwrite_14 hX (fun H locs ls hP hS hl => ?_) hs_N _ _ _ h9 _ _ _ hP hS (lv_sub hl [2, 1, 0] rfl)
    refine lv_iload_n hx hb dX12_unwrite_158 rfl (lv_at hl 0 rfl) ?_
    exact hs_iret hx hb hr hlocks rfl hK hP hS hf dX12_unwrite_159
  · replace hf := hs_t hf hc
    refine lv_bipush (v := -2) hx hb dX12_unwrite_7 (by decide) ?_
    exact hs_iret hx hb hr hlocks rfl hK hP hS hf dX12_unwrite_9

theorem dX12_clear_0 : decode cX12_clear 0 = .ok (.aload_n 0, 1) := by decide +kernel
theorem dX12_clear_1 : decode cX12_clear 1 = .ok (.iconst 0, 1) := by decide +kernel
theorem dX12_clear_2 : decode cX12_clear 2 = .ok (.putfield 124, 3) := by decide +kernel
theorem dX12_clear_5 : decode cX12_clear 5 = .ok (.aload_n 0, 1) := by decide +kernel
theorem dX12_clear_6 : decode cX12_clear 6 = .ok (.iconst 0, 1) := by decide +kernel
theorem dX12_clear_7 : decode cX12_clear 7 = .ok (.putfield 191, 3) := by decide +kernel
theorem dX12_clear_10 : decode cX12_clear 10 = .ok (.aload_n 0, 1) := by decide +kernel
theorem dX12_clear_11 : decode cX12_clear 11 = .ok (.iconst 0, 1) := by decide +kernel
theorem dX12_clear_12 : decode cX12_clear 12 = .ok (.putfield 195, 3) := by decide +kernel
theorem dX12_clear_15 : decode cX12_clear 15 = .ok (.aload_n 0, 1) := by decide +kernel
theorem dX12_clear_16 : decode cX12_clear 16 = .ok (.invokevirtual 117, 3) := by decide +kernel
theorem dX12_clear_19 : decode cX12_clear 19 = .ok (.iconst 0, 1) := by decide +kernel
theorem dX12_clear_20 : decode cX12_clear 20 = .ok (.istore_n 1, 1) := by decide +kernel
theorem dX12_clear_21 : decode cX12_clear 21 = .ok (.iload_n 1, 1) := by decide +kernel
theorem dX12_clear_22 : decode cX12_clear 22 = .ok (.iconst 4, 1) := by decide +kernel
theorem dX12_clear_23 : decode cX12_clear 23 = .ok (.if_icmp .ge 16, 3) := by decide +kernel
theorem dX12_clear_26 : decode cX12_clear 26 = .ok (.aload_n 0, 1) := by decide +kernel
theorem dX12_clear_27 : decode cX12_clear 27 = .ok (.getfield 96, 3) := by decide +kernel
theorem dX12_clear_30 : decode cX12_clear 30 = .ok (.iload_n 1, 1) := by decide +kernel
theorem dX12_clear_31 : decode cX12_clear 31 = .ok (.iconst 0, 1) := by decide +kernel
theorem dX12_clear_32 : decode cX12_clear 32 = .ok (.iastore, 1) := by decide +kernel
theorem dX12_clear_33 : decode cX12_clear 33 = .ok (.iinc 1 1, 3) := by decide +kernel
theorem dX12_clear_36 : decode cX12_clear 36 = .ok (.goto (-15), 3) := by decide +kernel
theorem dX12_clear_39 : decode cX12_clear 39 = .ok (.aload_n 0, 1) := by decide +kernel
theorem dX12_clear_40 : decode cX12_clear 40 = .ok (.iconst 0, 1) := by decide +kernel
theorem dX12_clear_41 : decode cX12_clear 41 = .ok (.putfield 258, 3) := by decide +kernel
theorem dX12_clear_44 : decode cX12_clear 44 = .ok (.aload_n 0, 1) := by decide +kernel
theorem dX12_clear_45 : decode cX12_clear 45 = .ok (.iconst 0, 1) := by decide +kernel
theorem dX12_clear_46 : decode cX12_clear 46 = .ok (.putfield 251, 3) := by decide +kernel
theorem dX12_clear_49 : decode cX12_clear 49 = .ok (.aload_n 0, 1) := by decide +kernel
theorem dX12_clear_50 : decode cX12_clear 50 = .ok (.iconst 0, 1) := by decide +kernel
theorem dX12_clear_51 : decode cX12_clear 51 = .ok (.putfield 261, 3) := by decide +kernel
theorem dX12_clear_54 : decode cX12_clear 54 = .ok (.return_, 1) := by decide +kernel
abbrev wcX12_clear : List Cond := .code yX12_clear cX12_clear 2 none :: wsL_law
def lX12_clear_21 : Nat → Nat → Int32 → hs_S → Option (hs_S)
  | 0, _, _, _ => none
  | n + 1, v0, v1, g =>
    if (4 : Int32) ≤ v1 then (
      some g
    ) else (
      if hs_kd g v0 = 10 then
      if ¬ (hs_R g v0 34) = 0 then
      if hs_kd g ((hs_R g v0 34) - 1) = 100 then
      if hs_in v1 (hs_ln g ((hs_R g v0 34) - 1)) = true then
      lX12_clear_21 n v0 (v1 + (1 : Int32)) (hs_wI g ((hs_R g v0 34) - 1) v1.toNatClampNeg (0 : Int32))
      else none else none else none else none
    )
theorem lX12_clear_21_s (n : Nat) (v0 : Nat) (v1 : Int32) (g : hs_S) : lX12_clear_21 (n + 1) v0 v1 g =
    if (4 : Int32) ≤ v1 then (
      some g
    ) else (
      if hs_kd g v0 = 10 then
      if ¬ (hs_R g v0 34) = 0 then
      if hs_kd g ((hs_R g v0 34) - 1) = 100 then
      if hs_in v1 (hs_ln g ((hs_R g v0 34) - 1)) = true then
      lX12_clear_21 n v0 (v1 + (1 : Int32)) (hs_wI g ((hs_R g v0 34) - 1) v1.toNatClampNeg (0 : Int32))
      else none else none else none else none
    ) := rfl
def fX12_clear (v0 : Nat) (g : hs_S) : Option (hs_S) :=
  if hs_kd g v0 = 10 then
  hs_bv (fX12_begin v0 (hs_wI (hs_wI (hs_wI g v0 2 (0 : Int32)) v0 3 (0 : Int32)) v0 22 (0 : Int32))) fun g2 =>
  hs_bv (lX12_clear_21 hs_N v0 (0 : Int32) g2) fun g10 =>
  if hs_kd g10 v0 = 10 then
  some (hs_wI (hs_wI (hs_wI g10 v0 36 (0 : Int32)) v0 37 (0 : Int32)) v0 38 (0 : Int32))
  else none else none
abbrev rmX12_clear : Room := { frames := 1, cells := 0, slots := 0, locals := 21 }
set_option maxHeartbeats 4000000 in
set_option maxRecDepth 100000 in
theorem wX12_clear_21 {p : Program} {l : Launch} {e : Env} {s : State} {m : MethodId} {args : Array Value} {below : List Frame} {meth : Method} {c : Code} {B : Nat} {D : va_G} {E : Nat → ClassId} (hX : hs_cx cX12_clear none 2 RX12 wcX12_clear p s m args meth c D E) {Q : State → Prop} {o : hs_S} {v0 : Nat} (hex0 : ∀ (H : Heap) (locs : List Loc) (ls : Array Slot), hs_P B D E (o) H → hs_Sx B s.heap H locs → lv_has ls 2 [(0, .ref (B + v0))] → W p l e rmX12_clear s m args below meth c H locs 0 0 Q (F0 m 39 ls [])) : ∀ (n : Nat) (v1 : Int32) (g : hs_S), lX12_clear_21 n v0 v1 g = some o → ∀ (H : Heap) (locs : List Loc) (ls : Array Slot), hs_P B D E g H → hs_Sx B s.heap H locs → lv_has ls 2 [(0, .ref (B + v0)), (1, .int v1)] → W p l e rmX12_clear s m args below meth c H locs 0 0 Q (F0 m 21 ls []) := by
  obtain ⟨hx, hb, hr, hml, hown, hts, hlocks, hK⟩ := id hX
  intro n
  induction n with
  | zero =>
    intro v1 g hf
    cases hf
  | succ n ih =>
    intro v1 g hf H locs ls hP hS hl
    replace hf := (lX12_clear_21_s n v0 v1 g).symm.trans hf
    refine lv_iload_n hx hb dX12_clear_21 rfl (lv_at hl 1 rfl) ?_
    refine lv_iconst (v := 4) hx hb dX12_clear_22 (by decide) ?_
    refine lv_icmp_ge (tgt := 39) hx hb dX12_clear_23 (by decide) (fun hc => ?_) (fun hc => ?_)
    · replace hf := hs_t hf hc
      obtain rfl := Option.some.inj hf
      exact hex0 _ _ _ hP hS (lv_sub hl [0] rfl)
    · replace hf := hs_f hf hc
      refine lv_aload_n hx hb dX12_clear_26 rfl (lv_at hl 0 rfl) ?_
      obtain ⟨h5, hf⟩ := hs_ck hf
      obtain ⟨h6, hf⟩ := hs_ck hf
      refine hs_getr (C := RX12) (T := TX12) (N := 48) hx hb hts (fun w h => List.mem_cons_of_mem _ (inlX12 w h)) hown hK.1 hP h5 (by decide) rfl 34 (by decide) (hts _ (List.mem_cons_of_mem _ wq150)) (fun _ h => h) rfl h6 dX12_clear_27 ?_
      refine lv_iload_n hx hb dX12_clear_30 rfl (lv_at hl 1 rfl) ?_
      refine lv_iconst (v := 0) hx hb dX12_clear_31 (by decide) ?_
      obtain ⟨h7, hf⟩ := hs_ck hf
      obtain ⟨h8, hf⟩ := hs_ck hf
      refine hs_iast hx hb hK.1 hP hS h7 h8 dX12_clear_32 (fun H locs hP hS => ?_)
      refine lv_iinc (v := (v1 + (1 : Int32))) (lv' := [(1, .int (v1 + (1 : Int32))), (0, .ref (B + v0))]) hx hb dX12_clear_33 hl (k := 1) rfl (by rfl) (by decide) rfl (fun ls hl => ?_)
      refine lv_goto (tgt := 21) hx hb dX12_clear_36 (by decide) ?_
      exact ih _ _ hf _ _ _ hP hS (lv_sub hl [1, 0] rfl)

set_option maxHeartbeats 4000000 in
set_option maxRecDepth 100000 in
theorem ctX12_clear (l : Launch) (B : Nat) (D : va_G) (E : Nat → ClassId) (v0 : Nat) (g : hs_S) (o : hs_S) (hf : fX12_clear v0 g = some o) : Met l yX12_clear wcX12_clear rmX12_clear (hs_Pc B D E g [.ref (B + v0)]) (hs_Qv B D E o) (0) (0) (hs_F B) := by
  refine Met.ofW (cc := cX12_clear) (maxL := 2) (ret := none) (by decide) rfl ?_
  intro p e s m args below meth c s₁ Bd hml hv
  obtain ⟨rfl, hP, hK⟩ := hv
  have hx := Bd.exec
  have hb := Bd.bytes
  have hr := Bd.returns
  have hts := atoms_spec (ws := wcX12_clear) Bd.pre
  have hown : s.vm.findClass RX12 = some m.cls := findClass_of_methodNamed Bd.named
  have hlocks := Bd.notSynchronized
  have hS : hs_Sx B s.heap s.heap [] := va_S.rf
  have hX : hs_cx cX12_clear none 2 RX12 wcX12_clear p s m (List.toArray [.ref (B + v0)]) meth c D E := ⟨hx, hb, hr, hml, hown, hts, hlocks, hK⟩
  have hl := lv_entry ([.ref (B + v0)]) (n := 2) (Nat.le_of_ble_eq_true rfl)
  rw [lg_entry_eq]
  generalize (lg_sl ([.ref (B + v0)]) ++ List.replicate (2 - (lg_sl ([.ref (B + v0)])).length) Slot.unset).toArray = ls at hl ⊢
  have hl : lv_has ls 2 [(0, .ref (B + v0))] := hl
  have hP : hs_P B D E g s.heap := hP
  unfold fX12_clear at hf
  refine lv_aload_n hx hb dX12_clear_0 rfl (lv_at hl 0 rfl) ?_
  refine lv_iconst (v := 0) hx hb dX12_clear_1 (by decide) ?_
  obtain ⟨h1, hf⟩ := hs_ck hf
  refine hs_puti (C := RX12) (T := TX12) (N := 48) hx hb hts (fun w h => List.mem_cons_of_mem _ (inlX12 w h)) tyX12 tyX12_ok nmX12 hown hK.1 hP hS h1 (by decide) rfl 2 (by decide) (hts _ (List.mem_cons_of_mem _ wq176)) (fun _ h => h) (Or.inl rfl) rfl rfl rfl dX12_clear_2 (fun H locs hP hS => ?_)
  refine lv_aload_n hx hb dX12_clear_5 rfl (lv_at hl 0 rfl) ?_
  refine lv_iconst (v := 0) hx hb dX12_clear_6 (by decide) ?_
  refine hs_puti (C := RX12) (T := TX12) (N := 48) hx hb hts (fun w h => List.mem_cons_of_mem _ (inlX12 w h)) tyX12 tyX12_ok nmX12 hown hK.1 hP hS h1 (by decide) rfl 3 (by decide) (hts _ (List.mem_cons_of_mem _ wq393)) (fun _ h => h) (Or.inl rfl) (hs_01_nar (rfl)) (hs_01_fit (rfl)) rfl dX12_clear_7 (fun H locs hP hS => ?_)
  refine lv_aload_n hx hb dX12_clear_10 rfl (lv_at hl 0 rfl) ?_
  refine lv_iconst (v := 0) hx hb dX12_clear_11 (by decide) ?_
  refine hs_puti (C := RX12) (T := TX12) (N := 48) hx hb hts (fun w h => List.mem_cons_of_mem _ (inlX12 w h)) tyX12 tyX12_ok nmX12 hown hK.1 hP hS h1 (by decide) rfl 22 (by decide) (hts _ (List.mem_cons_of_mem _ wq394)) (fun _ h => h) (Or.inl rfl) (hs_01_nar (rfl)) (hs_01_fit (rfl)) rfl dX12_clear_12 (fun H locs hP hS => ?_)
  refine lv_aload_n hx hb dX12_clear_15 rfl (lv_at hl 0 rfl) ?_
  obtain ⟨g2, h4, hf⟩ := hs_bv_some hf
  refine hs_callv (va_runV (As := []) (rest := []) ⟨hx, hb, hml, hown, hts⟩ (ctX12_begin l B D E v0 (hs_wI (hs_wI (hs_wI g v0 2 (0 : Int32)) v0 3 (0 : Int32)) v0 22 (0 : Int32)) _ h4) (cwV 0 hts (hs_gV (fun _ h => List.mem_cons_of_mem _ h) wq157 wq158 wq159 wq5 wq160) rfl rfl rfl (by decide +kernel) ⟨Nat.le_of_ble_eq_true rfl, Nat.le_of_ble_eq_true rfl⟩) (hs_preV (r := (RX12, TX12, 48)) hP hK h1 (by decide) rfl) rfl rfl hl.1 rfl (lv_room (Nat.le_of_ble_eq_true rfl)) dX12_clear_16 ⟨(Nat.le_of_ble_eq_true rfl), (Nat.le_of_ble_eq_true rfl)⟩) hS (fun H locs hP hS => ?_)
  refine lv_iconst (v := 0) hx hb dX12_clear_19 (by decide) ?_
  refine lv_istore_n (lv' := [(1, .int (0 : Int32)), (0, .ref (B + v0))]) hx hb dX12_clear_20 rfl hl (by decide) rfl (fun ls hl => ?_)
  obtain ⟨g10, h11, hf⟩ := hs_bv_some hf
  refine wX12_clear_21 hX (fun H locs ls hP hS hl => ?_) hs_N _ _ h11 _ _ _ hP hS (lv_sub hl [1, 0] rfl)
  refine lv_aload_n hx hb dX12_clear_39 rfl (lv_at hl 0 rfl) ?_
  refine lv_iconst (v := 0) hx hb dX12_clear_40 (by decide) ?_
  obtain ⟨h12, hf⟩ := hs_ck hf
  refine hs_puti (C := RX12) (T := TX12) (N := 48) hx hb hts (fun w h => List.mem_cons_of_mem _ (inlX12 w h)) tyX12 tyX12_ok nmX12 hown hK.1 hP hS h12 (by decide) rfl 36 (by decide) (hts _ (List.mem_cons_of_mem _ wq855)) (fun _ h => h) (Or.inl rfl) rfl rfl rfl dX12_clear_41 (fun H locs hP hS => ?_)
  refine lv_aload_n hx hb dX12_clear_44 rfl (lv_at hl 0 rfl) ?_
  refine lv_iconst (v := 0) hx hb dX12_clear_45 (by decide) ?_
  refine hs_puti (C := RX12) (T := TX12) (N := 48) hx hb hts (fun w h => List.mem_cons_of_mem _ (inlX12 w h)) tyX12 tyX12_ok nmX12 hown hK.1 hP hS h12 (by decide) rfl 37 (by decide) (hts _ (List.mem_cons_of_mem _ wq856)) (fun _ h => h) (Or.inl rfl) rfl rfl rfl dX12_clear_46 (fun H locs hP hS => ?_)
  refine lv_aload_n hx hb dX12_clear_49 rfl (lv_at hl 0 rfl) ?_
  refine lv_iconst (v := 0) hx hb dX12_clear_50 (by decide) ?_
  refine hs_puti (C := RX12) (T := TX12) (N := 48) hx hb hts (fun w h => List.mem_cons_of_mem _ (inlX12 w h)) tyX12 tyX12_ok nmX12 hown hK.1 hP hS h12 (by decide) rfl 38 (by decide) (hts _ (List.mem_cons_of_mem _ wq857)) (fun _ h => h) (Or.inl rfl) rfl rfl rfl dX12_clear_51 (fun H locs hP hS => ?_)
  exact hs_vret hx hb hr hlocks hK hP hS hf dX12_clear_54

