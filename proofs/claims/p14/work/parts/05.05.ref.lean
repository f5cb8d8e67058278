theorem dX12_keep_0 : decode cX12_keep 0 = .ok (.iconst 0, 1) := by decide +kernel
theorem dX12_keep_1 : decode cX12_keep 1 = .ok (.istore_n 1, 1) := by decide +kernel
theorem dX12_keep_2 : decode cX12_keep 2 = .ok (.iload_n 1, 1) := by decide +kernel
theorem dX12_keep_3 : decode cX12_keep 3 = .ok (.bipush 8, 2) := by decide +kernel
theorem dX12_keep_5 : decode cX12_keep 5 = .ok (.if_icmp .ge 57, 3) := by decide +kernel
theorem dX12_keep_8 : decode cX12_keep 8 = .ok (.aload_n 0, 1) := by decide +kernel
theorem dX12_keep_9 : decode cX12_keep 9 = .ok (.getfield 17, 3) := by decide +kernel
theorem dX12_keep_12 : decode cX12_keep 12 = .ok (.iload_n 1, 1) := by decide +kernel
theorem dX12_keep_13 : decode cX12_keep 13 = .ok (.aload_n 0, 1) := by decide +kernel
theorem dX12_keep_14 : decode cX12_keep 14 = .ok (.getfield 48, 3) := by decide +kernel
theorem dX12_keep_17 : decode cX12_keep 17 = .ok (.iload_n 1, 1) := by decide +kernel
theorem dX12_keep_18 : decode cX12_keep 18 = .ok (.iaload, 1) := by decide +kernel
theorem dX12_keep_19 : decode cX12_keep 19 = .ok (.iastore, 1) := by decide +kernel
theorem dX12_keep_20 : decode cX12_keep 20 = .ok (.aload_n 0, 1) := by decide +kernel
theorem dX12_keep_21 : decode cX12_keep 21 = .ok (.getfield 20, 3) := by decide +kernel
theorem dX12_keep_24 : decode cX12_keep 24 = .ok (.iload_n 1, 1) := by decide +kernel
theorem dX12_keep_25 : decode cX12_keep 25 = .ok (.aload_n 0, 1) := by decide +kernel
theorem dX12_keep_26 : decode cX12_keep 26 = .ok (.getfield 51, 3) := by decide +kernel
theorem dX12_keep_29 : decode cX12_keep 29 = .ok (.iload_n 1, 1) := by decide +kernel
theorem dX12_keep_30 : decode cX12_keep 30 = .ok (.iaload, 1) := by decide +kernel
theorem dX12_keep_31 : decode cX12_keep 31 = .ok (.iastore, 1) := by decide +kernel
theorem dX12_keep_32 : decode cX12_keep 32 = .ok (.aload_n 0, 1) := by decide +kernel
theorem dX12_keep_33 : decode cX12_keep 33 = .ok (.getfield 23, 3) := by decide +kernel
theorem dX12_keep_36 : decode cX12_keep 36 = .ok (.iload_n 1, 1) := by decide +kernel
theorem dX12_keep_37 : decode cX12_keep 37 = .ok (.aload_n 0, 1) := by decide +kernel
theorem dX12_keep_38 : decode cX12_keep 38 = .ok (.getfield 54, 3) := by decide +kernel
theorem dX12_keep_41 : decode cX12_keep 41 = .ok (.iload_n 1, 1) := by decide +kernel
theorem dX12_keep_42 : decode cX12_keep 42 = .ok (.iaload, 1) := by decide +kernel
theorem dX12_keep_43 : decode cX12_keep 43 = .ok (.iastore, 1) := by decide +kernel
theorem dX12_keep_44 : decode cX12_keep 44 = .ok (.aload_n 0, 1) := by decide +kernel
theorem dX12_keep_45 : decode cX12_keep 45 = .ok (.getfield 26, 3) := by decide +kernel
theorem dX12_keep_48 : decode cX12_keep 48 = .ok (.iload_n 1, 1) := by decide +kernel
theorem dX12_keep_49 : decode cX12_keep 49 = .ok (.aload_n 0, 1) := by decide +kernel
theorem dX12_keep_50 : decode cX12_keep 50 = .ok (.getfield 60, 3) := by decide +kernel
theorem dX12_keep_53 : decode cX12_keep 53 = .ok (.iload_n 1, 1) := by decide +kernel
theorem dX12_keep_54 : decode cX12_keep 54 = .ok (.iaload, 1) := by decide +kernel
theorem dX12_keep_55 : decode cX12_keep 55 = .ok (.iastore, 1) := by decide +kernel
theorem dX12_keep_56 : decode cX12_keep 56 = .ok (.iinc 1 1, 3) := by decide +kernel
theorem dX12_keep_59 : decode cX12_keep 59 = .ok (.goto (-57), 3) := by decide +kernel
theorem dX12_keep_62 : decode cX12_keep 62 = .ok (.iconst 0, 1) := by decide +kernel
theorem dX12_keep_63 : decode cX12_keep 63 = .ok (.istore_n 1, 1) := by decide +kernel
theorem dX12_keep_64 : decode cX12_keep 64 = .ok (.iload_n 1, 1) := by decide +kernel
theorem dX12_keep_65 : decode cX12_keep 65 = .ok (.sipush 256, 3) := by decide +kernel
theorem dX12_keep_68 : decode cX12_keep 68 = .ok (.if_icmp .ge 21, 3) := by decide +kernel
theorem dX12_keep_71 : decode cX12_keep 71 = .ok (.aload_n 0, 1) := by decide +kernel
theorem dX12_keep_72 : decode cX12_keep 72 = .ok (.getfield 29, 3) := by decide +kernel
theorem dX12_keep_75 : decode cX12_keep 75 = .ok (.iload_n 1, 1) := by decide +kernel
theorem dX12_keep_76 : decode cX12_keep 76 = .ok (.aload_n 0, 1) := by decide +kernel
theorem dX12_keep_77 : decode cX12_keep 77 = .ok (.getfield 63, 3) := by decide +kernel
theorem dX12_keep_80 : decode cX12_keep 80 = .ok (.iload_n 1, 1) := by decide +kernel
theorem dX12_keep_81 : decode cX12_keep 81 = .ok (.iaload, 1) := by decide +kernel
theorem dX12_keep_82 : decode cX12_keep 82 = .ok (.iastore, 1) := by decide +kernel
theorem dX12_keep_83 : decode cX12_keep 83 = .ok (.iinc 1 1, 3) := by decide +kernel
theorem dX12_keep_86 : decode cX12_keep 86 = .ok (.goto (-22), 3) := by decide +kernel
theorem dX12_keep_89 : decode cX12_keep 89 = .ok (.iconst 0, 1) := by decide +kernel
theorem dX12_keep_90 : decode cX12_keep 90 = .ok (.istore_n 1, 1) := by decide +kernel
theorem dX12_keep_91 : decode cX12_keep 91 = .ok (.iload_n 1, 1) := by decide +kernel
theorem dX12_keep_92 : decode cX12_keep 92 = .ok (.sipush 16008, 3) := by decide +kernel
theorem dX12_keep_95 : decode cX12_keep 95 = .ok (.if_icmp .ge 21, 3) := by decide +kernel
theorem dX12_keep_98 : decode cX12_keep 98 = .ok (.aload_n 0, 1) := by decide +kernel
theorem dX12_keep_99 : decode cX12_keep 99 = .ok (.getfield 32, 3) := by decide +kernel
theorem dX12_keep_102 : decode cX12_keep 102 = .ok (.iload_n 1, 1) := by decide +kernel
theorem dX12_keep_103 : decode cX12_keep 103 = .ok (.aload_n 0, 1) := by decide +kernel
theorem dX12_keep_104 : decode cX12_keep 104 = .ok (.getfield 66, 3) := by decide +kernel
theorem dX12_keep_107 : decode cX12_keep 107 = .ok (.iload_n 1, 1) := by decide +kernel
theorem dX12_keep_108 : decode cX12_keep 108 = .ok (.iaload, 1) := by decide +kernel
theorem dX12_keep_109 : decode cX12_keep 109 = .ok (.iastore, 1) := by decide +kernel
theorem dX12_keep_110 : decode cX12_keep 110 = .ok (.iinc 1 1, 3) := by decide +kernel
theorem dX12_keep_113 : decode cX12_keep 113 = .ok (.goto (-22), 3) := by decide +kernel
theorem dX12_keep_116 : decode cX12_keep 116 = .ok (.return_, 1) := by decide +kernel
abbrev wcX12_keep : List Cond := .code yX12_keep cX12_keep 2 none :: wsL_law
def lX12_keep_2 : Nat → Nat → Int32 → hs_S → Option (hs_S)
  | 0, _, _, _ => none
  | n + 1, v0, v1, g =>
    if (8 : Int32) ≤ v1 then (
      some g
    ) else (
      if hs_kd g v0 = 10 then
      if ¬ (hs_R g v0 5) = 0 then
      if ¬ (hs_R g v0 15) = 0 then
      if hs_kd g ((hs_R g v0 15) - 1) = 100 then
      if hs_in v1 (hs_ln g ((hs_R g v0 15) - 1)) = true then
      if hs_kd g ((hs_R g v0 5) - 1) = 100 then
      if hs_in v1 (hs_ln g ((hs_R g v0 5) - 1)) = true then
      hs_bv (some (hs_wI g ((hs_R g v0 5) - 1) v1.toNatClampNeg (hs_I g ((hs_R g v0 15) - 1) v1.toNatClampNeg))) fun g8 =>
      if ¬ (hs_R g8 v0 6) = 0 then
      if ¬ (hs_R g8 v0 16) = 0 then
      if hs_kd g8 ((hs_R g8 v0 16) - 1) = 100 then
      if hs_in v1 (hs_ln g8 ((hs_R g8 v0 16) - 1)) = true then
      if hs_kd g8 ((hs_R g8 v0 6) - 1) = 100 then
      if hs_in v1 (hs_ln g8 ((hs_R g8 v0 6) - 1)) = true then
      hs_bv (some (hs_wI g8 ((hs_R g8 v0 6) - 1) v1.toNatClampNeg (hs_I g8 ((hs_R g8 v0 16) - 1) v1.toNatClampNeg))) fun g21 =>
      if ¬ (hs_R g21 v0 7) = 0 then
      if ¬ (hs_R g21 v0 17) = 0 then
      if hs_kd g21 ((hs_R g21 v0 17) - 1) = 100 then
      if hs_in v1 (hs_ln g21 ((hs_R g21 v0 17) - 1)) = true then
      if hs_kd g21 ((hs_R g21 v0 7) - 1) = 100 then
      if hs_in v1 (hs_ln g21 ((hs_R g21 v0 7) - 1)) = true then
      hs_bv (some (hs_wI g21 ((hs_R g21 v0 7) - 1) v1.toNatClampNeg (hs_I g21 ((hs_R g21 v0 17) - 1) v1.toNatClampNeg))) fun g38 =>
      if ¬ (hs_R g38 v0 8) = 0 then
      if ¬ (hs_R g38 v0 19) = 0 then
      if hs_kd g38 ((hs_R g38 v0 19) - 1) = 100 then
      if hs_in v1 (hs_ln g38 ((hs_R g38 v0 19) - 1)) = true then
      if hs_kd g38 ((hs_R g38 v0 8) - 1) = 100 then
      if hs_in v1 (hs_ln g38 ((hs_R g38 v0 8) - 1)) = true then
      hs_bv (some (hs_wI g38 ((hs_R g38 v0 8) - 1) v1.toNatClampNeg (hs_I g38 ((hs_R g38 v0 19) - 1) v1.toNatClampNeg))) fun g59 =>
      lX12_keep_2 n v0 (v1 + (1 : Int32)) g59
      else none else none else none else none else none else none else none else none else none else none else none else none else none else none else none else none else none else none else none else none else none else none else none else none else none
    )
theorem lX12_keep_2_s (n : Nat) (v0 : Nat) (v1 : Int32) (g : hs_S) : lX12_keep_2 (n + 1) v0 v1 g =
    if (8 : Int32) ≤ v1 then (
      some g
    ) else (
      if hs_kd g v0 = 10 then
      if ¬ (hs_R g v0 5) = 0 then
      if ¬ (hs_R g v0 15) = 0 then
      if hs_kd g ((hs_R g v0 15) - 1) = 100 then
      if hs_in v1 (hs_ln g ((hs_R g v0 15) - 1)) = true then
      if hs_kd g ((hs_R g v0 5) - 1) = 100 then
      if hs_in v1 (hs_ln g ((hs_R g v0 5) - 1)) = true then
      hs_bv (some (hs_wI g ((hs_R g v0 5) - 1) v1.toNatClampNeg (hs_I g ((hs_R g v0 15) - 1) v1.toNatClampNeg))) fun g8 =>
      if ¬ (hs_R g8 v0 6) = 0 then
      if ¬ (hs_R g8 v0 16) = 0 then
      if hs_kd g8 ((hs_R g8 v0 16) - 1) = 100 then
      if hs_in v1 (hs_ln g8 ((hs_R g8 v0 16) - 1)) = true then
      if hs_kd g8 ((hs_R g8 v0 6) - 1) = 100 then
      if hs_in v1 (hs_ln g8 ((hs_R g8 v0 6) - 1)) = true then
      hs_bv (some (hs_wI g8 ((hs_R g8 v0 6) - 1) v1.toNatClampNeg (hs_I g8 ((hs_R g8 v0 16) - 1) v1.toNatClampNeg))) fun g21 =>
      if ¬ (hs_R g21 v0 7) = 0 then
      if ¬ (hs_R g21 v0 17) = 0 then
      if hs_kd g21 ((hs_R g21 v0 17) - 1) = 100 then
      if hs_in v1 (hs_ln g21 ((hs_R g21 v0 17) - 1)) = true then
      if hs_kd g21 ((hs_R g21 v0 7) - 1) = 100 then
      if hs_in v1 (hs_ln g21 ((hs_R g21 v0 7) - 1)) = true then
      hs_bv (some (hs_wI g21 ((hs_R g21 v0 7) - 1) v1.toNatClampNeg (hs_I g21 ((hs_R g21 v0 17) - 1) v1.toNatClampNeg))) fun g38 =>
      if ¬ (hs_R g38 v0 8) = 0 then
      if ¬ (hs_R g38 v0 19) = 0 then
      if hs_kd g38 ((hs_R g38 v0 19) - 1) = 100 then
      if hs_in v1 (hs_ln g38 ((hs_R g38 v0 19) - 1)) = true then
      if hs_kd g38 ((hs_R g38 v0 8) - 1) = 100 then
      if hs_in v1 (hs_ln g38 ((hs_R g38 v0 8) - 1)) = true then
      hs_bv (some (hs_wI g38 ((hs_R g38 v0 8) - 1) v1.toNatClampNeg (hs_I g38 ((hs_R g38 v0 19) - 1) v1.toNatClampNeg))) fun g59 =>
      lX12_keep_2 n v0 (v1 + (1 : Int32)) g59
      else none else none else none else none else none else none else none else none else none else none else none else none else none else none else none else none else none else none else none else none else none else none else none else none else none
    ) := rfl
def lX12_keep_64 : Nat → Nat → Int32 → hs_S → Option (hs_S)
  | 0, _, _, _ => none
  | n + 1, v0, v1, g =>
    if (256 : Int32) ≤ v1 then (
      some g
    ) else (
      if hs_kd g v0 = 10 then
      if ¬ (hs_R g v0 9) = 0 then
      if ¬ (hs_R g v0 20) = 0 then
      if hs_kd g ((hs_R g v0 20) - 1) = 100 then
      if hs_in v1 (hs_ln g ((hs_R g v0 20) - 1)) = true then
      if hs_kd g ((hs_R g v0 9) - 1) = 100 then
      if hs_in v1 (hs_ln g ((hs_R g v0 9) - 1)) = true then
      hs_bv (some (hs_wI g ((hs_R g v0 9) - 1) v1.toNatClampNeg (hs_I g ((hs_R g v0 20) - 1) v1.toNatClampNeg))) fun g88 =>
      lX12_keep_64 n v0 (v1 + (1 : Int32)) g88
      else none else none else none else none else none else none else none
    )
theorem lX12_keep_64_s (n : Nat) (v0 : Nat) (v1 : Int32) (g : hs_S) : lX12_keep_64 (n + 1) v0 v1 g =
    if (256 : Int32) ≤ v1 then (
      some g
    ) else (
      if hs_kd g v0 = 10 then
      if ¬ (hs_R g v0 9) = 0 then
      if ¬ (hs_R g v0 20) = 0 then
      if hs_kd g ((hs_R g v0 20) - 1) = 100 then
      if hs_in v1 (hs_ln g ((hs_R g v0 20) - 1)) = true then
      if hs_kd g ((hs_R g v0 9) - 1) = 100 then
      if hs_in v1 (hs_ln g ((hs_R g v0 9) - 1)) = true then
      hs_bv (some (hs_wI g ((hs_R g v0 9) - 1) v1.toNatClampNeg (hs_I g ((hs_R g v0 20) - 1) v1.toNatClampNeg))) fun g88 =>
      lX12_keep_64 n v0 (v1 + (1 : Int32)) g88
      else none else none else none else none else none else none else none
    ) := rfl
def lX12_keep_91 : Nat → Nat → Int32 → hs_S → Option (hs_S)
  | 0, _, _, _ => none
  | n + 1, v0, v1, g =>
    if (16008 : Int32) ≤ v1 then (
      some g
    ) else (
      if hs_kd g v0 = 10 then
      if ¬ (hs_R g v0 10) = 0 then
      if ¬ (hs_R g v0 21) = 0 then
      if hs_kd g ((hs_R g v0 21) - 1) = 100 then
      if hs_in v1 (hs_ln g ((hs_R g v0 21) - 1)) = true then
      if hs_kd g ((hs_R g v0 10) - 1) = 100 then
      if hs_in v1 (hs_ln g ((hs_R g v0 10) - 1)) = true then
      hs_bv (some (hs_wI g ((hs_R g v0 10) - 1) v1.toNatClampNeg (hs_I g ((hs_R g v0 21) - 1) v1.toNatClampNeg))) fun g105 =>
      lX12_keep_91 n v0 (v1 + (1 : Int32)) g105
      else none else none else none else none else none else none else none
    )
theorem lX12_keep_91_s (n : Nat) (v0 : Nat) (v1 : Int32) (g : hs_S) : lX12_keep_91 (n + 1) v0 v1 g =
    if (16008 : Int32) ≤ v1 then (
      some g
    ) else (
      if hs_kd g v0 = 10 then
      if ¬ (hs_R g v0 10) = 0 then
      if ¬ (hs_R g v0 21) = 0 then
      if hs_kd g ((hs_R g v0 21) - 1) = 100 then
      if hs_in v1 (hs_ln g ((hs_R g v0 21) - 1)) = true then
      if hs_kd g ((hs_R g v0 10) - 1) = 100 then
      if hs_in v1 (hs_ln g ((hs_R g v0 10) - 1)) = true then
      hs_bv (some (hs_wI g ((hs_R g v0 10) - 1) v1.toNatClampNeg (hs_I g ((hs_R g v0 21) - 1) v1.toNatClampNeg))) fun g105 =>
      lX12_keep_91 n v0 (v1 + (1 : Int32)) g105
      else none else none else none else none else none else none else none
    ) := rfl
def fX12_keep (v0 : Nat) (g : hs_S) : Option (hs_S) :=
  hs_bv (lX12_keep_2 hs_N v0 (0 : Int32) g) fun g79 =>
  hs_bv (lX12_keep_64 hs_N v0 (0 : Int32) g79) fun g96 =>
  hs_bv (lX12_keep_91 hs_N v0 (0 : Int32) g96) fun g113 =>
  some g113
abbrev rmX12_keep : Room := { frames := 0, cells := 0, slots := 0, locals := 0 }
set_option maxHeartbeats 4000000 in
set_option maxRecDepth 100000 in
theorem wX12_keep_2 {p : Program} {l : Launch} {e : Env} {s : State} {m : MethodId} {args : Array Value} {below : List Frame} {meth : Method} {c : Code} {B : Nat} {D : va_G} {E : Nat → ClassId} (hX : hs_cx cX12_keep none 2 RX12 wcX12_keep p s m args meth c D E) {Q : State → Prop} {o : hs_S} {v0 : Nat} (hex0 : ∀ (H : Heap) (locs : List Loc) (ls : Array Slot), hs_P B D E (o) H → hs_Sx B s.heap H locs → lv_has ls 2 [(0, .ref (B + v0))] → W p l e rmX12_keep s m args below meth c H locs 0 0 Q (F0 m 62 ls [])) : ∀ (n : Nat) (v1 : Int32) (g : hs_S), lX12_keep_2 n v0 v1 g = some o → ∀ (H : Heap) (locs : List Loc) (ls : Array Slot), hs_P B D E g H → hs_Sx B s.heap H locs → lv_has ls 2 [(0, .ref (B + v0)), (1, .int v1)] → W p l e rmX12_keep s m args below meth c H locs 0 0 Q (F0 m 2 ls []) := by
  obtain ⟨hx, hb, hr, hml, hown, hts, hlocks, hK⟩ := id hX
  intro n
  induction n with
  | zero =>
    intro v1 g hf
    cases hf
  | succ n ih =>
    intro v1 g hf H locs ls hP hS hl
    replace hf := (lX12_keep_2_s n v0 v1 g).symm.trans hf
    refine lv_iload_n hx hb dX12_keep_2 rfl (lv_at hl 1 rfl) ?_
    refine lv_bipush (v := 8) hx hb dX12_keep_3 (by decide) ?_
    refine lv_icmp_ge (tgt := 62) hx hb dX12_keep_5 (by decide) (fun hc => ?_) (fun hc => ?_)
    · replace hf := hs_t hf hc
      obtain rfl := Option.some.inj hf
      exact hex0 _ _ _ hP hS (lv_sub hl [0] rfl)
    · replace hf := hs_f hf hc
      refine lv_aload_n hx hb dX12_keep_8 rfl (lv_at hl 0 rfl) ?_
      obtain ⟨h1, hf⟩ := hs_ck hf
      obtain ⟨h2, hf⟩ := hs_ck hf
      refine hs_getr (C := RX12) (T := TX12) (N := 48) hx hb hts (fun w h => List.mem_cons_of_mem _ (inlX12 w h)) hown hK.1 hP h1 (by decide) rfl 5 (by decide) (hts _ (List.mem_cons_of_mem _ wq123)) (fun _ h => h) rfl h2 dX12_keep_9 ?_
      refine lv_iload_n hx hb dX12_keep_12 rfl (lv_at hl 1 rfl) ?_
      refine lv_aload_n hx hb dX12_keep_13 rfl (lv_at hl 0 rfl) ?_
      obtain ⟨h3, hf⟩ := hs_ck hf
      refine hs_getr (C := RX12) (T := TX12) (N := 48) hx hb hts (fun w h => List.mem_cons_of_mem _ (inlX12 w h)) hown hK.1 hP h1 (by decide) rfl 15 (by decide) (hts _ (List.mem_cons_of_mem _ wq134)) (fun _ h => h) rfl h3 dX12_keep_14 ?_
      refine lv_iload_n hx hb dX12_keep_17 rfl (lv_at hl 1 rfl) ?_
      obtain ⟨h4, hf⟩ := hs_ck hf
      obtain ⟨h5, hf⟩ := hs_ck hf
      refine hs_iald hx hb hK.1 hP h4 h5 dX12_keep_18 ?_
      obtain ⟨h6, hf⟩ := hs_ck hf
      obtain ⟨h7, hf⟩ := hs_ck hf
      refine hs_iast hx hb hK.1 hP hS h6 h7 dX12_keep_19 (fun H locs hP hS => ?_)
      obtain ⟨g8, e9, hf⟩ := hs_bv_some hf
      replace e9 := Option.some.inj e9
      rw [e9] at hP
      have h10 : hs_kd g8 v0 = 10 := by rw [← e9]; exact h1
      have h11 : hs_kd g8 ((hs_R g v0 15) - 1) = 100 := by rw [← e9]; exact h4
      have h12 : hs_in v1 (hs_ln g8 ((hs_R g v0 15) - 1)) = true := by rw [← e9]; exact h5
      have h13 : hs_kd g8 ((hs_R g v0 5) - 1) = 100 := by rw [← e9]; exact h6
      have h14 : hs_in v1 (hs_ln g8 ((hs_R g v0 5) - 1)) = true := by rw [← e9]; exact h7
      refine lv_aload_n hx hb dX12_keep_20 rfl (lv_at hl 0 rfl) ?_
      obtain ⟨h15, hf⟩ := hs_ck hf
      refine hs_getr (C := RX12) (T := TX12) (N := 48) hx hb hts (fun w h => List.mem_cons_of_mem _ (inlX12 w h)) hown hK.1 hP h10 (by decide) rfl 6 (by decide) (hts _ (List.mem_cons_of_mem _ wq124)) (fun _ h => h) rfl h15 dX12_keep_21 ?_
      refine lv_iload_n hx hb dX12_keep_24 rfl (lv_at hl 1 rfl) ?_
      refine lv_aload_n hx hb dX12_keep_25 rfl (lv_at hl 0 rfl) ?_
      obtain ⟨h16, hf⟩ := hs_ck hf
      refine hs_getr (C := RX12) (T := TX12) (N := 48) hx hb hts (fun w h => List.mem_cons_of_mem _ (inlX12 w h)) hown hK.1 hP h10 (by decide) rfl 16 (by decide) (hts _ (List.mem_cons_of_mem _ wq135)) (fun _ h => h) rfl h16 dX12_keep_26 ?_
      refine lv_iload_n hx hb dX12_keep_29 rfl (lv_at hl 1 rfl) ?_
      obtain ⟨h17, hf⟩ := hs_ck hf
      obtain ⟨h18, hf⟩ := hs_ck hf
      refine hs_iald hx hb hK.1 hP h17 h18 dX12_keep_30 ?_
      obtain ⟨h19, hf⟩ := hs_ck hf
      obtain ⟨h20, hf⟩ := hs_ck hf
      refine hs_iast hx hb hK.1 hP hS h19 h20 dX12_keep_31 (fun H locs hP hS => ?_)
      obtain ⟨g21, e22, hf⟩ := hs_bv_some hf
      replace e22 := Option.some.inj e22
      rw [e22] at hP
      have h23 : hs_kd g21 v0 = 10 := by rw [← e22]; exact h10
      have h24 : hs_kd g21 ((hs_R g v0 15) - 1) = 100 := by rw [← e22]; exact h11
      have h25 : hs_in v1 (hs_ln g21 ((hs_R g v0 15) - 1)) = true := by rw [← e22]; exact h12
      have h26 : hs_kd g21 ((hs_R g v0 5) - 1) = 100 := by rw [← e22]; exact h13
      have h27 : hs_in v1 (hs_ln g21 ((hs_R g v0 5) - 1)) = true := by rw [← e22]; exact h14
      have h28 : hs_kd g21 ((hs_R g8 v0 16) - 1) = 100 := by rw [← e22]; exact h17
      have h29 : hs_in v1 (hs_ln g21 ((hs_R g8 v0 16) - 1)) = true := by rw [← e22]; exact h18
      have h30 : hs_kd g21 ((hs_R g8 v0 6) - 1) = 100 := by rw [← e22]; exact h19
      have h31 : hs_in v1 (hs_ln g21 ((hs_R g8 v0 6) - 1)) = true := by rw [← e22]; exact h20
      refine lv_aload_n hx hb dX12_keep_32 rfl (lv_at hl 0 rfl) ?_
      obtain ⟨h32, hf⟩ := hs_ck hf
      refine hs_getr (C := RX12) (T := TX12) (N := 48) hx hb hts (fun w h => List.mem_cons_of_mem _ (inlX12 w h)) hown hK.1 hP h23 (by decide) rfl 7 (by decide) (hts _ (List.mem_cons_of_mem _ wq125)) (fun _ h => h) rfl h32 dX12_keep_33 ?_
      refine lv_iload_n hx hb dX12_keep_36 rfl (lv_at hl 1 rfl) ?_
      refine lv_aload_n hx hb dX12_keep_37 rfl (lv_at hl 0 rfl) ?_
      obtain ⟨h33, hf⟩ := hs_ck hf
      refine hs_getr (C := RX12) (T := TX12) (N := 48) hx hb hts (fun w h => List.mem_cons_of_mem _ (inlX12 w h)) hown hK.1 hP h23 (by decide) rfl 17 (by decide) (hts _ (List.mem_cons_of_mem _ wq136)) (fun _ h => h) rfl h33 dX12_keep_38 ?_
      refine lv_iload_n hx hb dX12_keep_41 rfl (lv_at hl 1 rfl) ?_
      obtain ⟨h34, hf⟩ := hs_ck hf
      obtain ⟨h35, hf⟩ := hs_ck hf
      refine hs_iald hx hb hK.1 hP h34 h35 dX12_keep_42 ?_
      obtain ⟨h36, hf⟩ := hs_ck hf
      obtain ⟨h37, hf⟩ := hs_ck hf
      refine hs_iast hx hb hK.1 hP hS h36 h37 dX12_keep_43 (fun H locs hP hS => ?_)
      obtain ⟨g38, e39, hf⟩ := hs_bv_some hf
      replace e39 := Option.some.inj e39
      rw [e39] at hP
      have h40 : hs_kd g38 v0 = 10 := by rw [← e39]; exact h23
      have h41 : hs_kd g38 ((hs_R g v0 15) - 1) = 100 := by rw [← e39]; exact h24
      have h42 : hs_in v1 (hs_ln g38 ((hs_R g v0 15) - 1)) = true := by rw [← e39]; exact h25
      have h43 : hs_kd g38 ((hs_R g v0 5) - 1) = 100 := by rw [← e39]; exact h26
      have h44 : hs_in v1 (hs_ln g38 ((hs_R g v0 5) - 1)) = true := by rw [← e39]; exact h27
      have h45 : hs_kd g38 ((hs_R g8 v0 16) - 1) = 100 := by rw [← e39]; exact h28
      have h46 : hs_in v1 (hs_ln g38 ((hs_R g8 v0 16) - 1)) = true := by rw [← e39]; exact h29
      have h47 : hs_kd g38 ((hs_R g8 v0 6) - 1) = 100 := by rw [← e39]; exact h30
      have h48 : hs_in v1 (hs_ln g38 ((hs_R g8 v0 6) - 1)) = true := by rw [← e39]; exact h31
      have h49 : hs_kd g38 ((hs_R g21 v0 17) - 1) = 100 := by rw [← e39]; exact h34
      have h50 : hs_in v1 (hs_ln g38 ((hs_R g21 v0 17) - 1)) = true := by rw [← e39]; exact h35
      have h51 : hs_kd g38 ((hs_R g21 v0 7) - 1) = 100 := by rw [← e39]; exact h36
      have h52 : hs_in v1 (hs_ln g38 ((hs_R g21 v0 7) - 1)) = true := by rw [← e39]; exact h37
      refine lv_aload_n hx hb dX12_keep_44 rfl (lv_at hl 0 rfl) ?_
      obtain ⟨h53, hf⟩ := hs_ck hf
      refine hs_getr (C := RX12) (T := TX12) (N := 48) hx hb hts (fun w h => List.mem_cons_of_mem _ (inlX12 w h)) hown hK.1 hP h40 (by decide) rfl 8 (by decide) (hts _ (List.mem_cons_of_mem _ wq126)) (fun _ h => h) rfl h53 dX12_keep_45 ?_
      refine lv_iload_n hx hb dX12_keep_48 rfl (lv_at hl 1 rfl) ?_
      refine lv_aload_n hx hb dX12_keep_49 rfl (lv_at hl 0 rfl) ?_
      obtain ⟨h54, hf⟩ := hs_ck hf
      refine hs_getr (C := RX12) (T := TX12) (N := 48) hx hb hts (fun w h => List.mem_cons_of_mem _ (inlX12 w h)) hown hK.1 hP h40 (by decide) rfl 19 (by decide) (hts _ (List.mem_cons_of_mem _ wq138)) (fun _ h => h) rfl h54 dX12_keep_50 ?_
      refine lv_iload_n hx hb dX12_keep_53 rfl (lv_at hl 1 rfl) ?_
      obtain ⟨h55, hf⟩ := hs_ck hf
      obtain ⟨h56, hf⟩ := hs_ck hf
      refine hs_iald hx hb hK.1 hP h55 h56 dX12_keep_54 ?_
      obtain ⟨h57, hf⟩ := hs_ck hf
      obtain ⟨h58, hf⟩ := hs_ck hf
      refine hs_iast hx hb hK.1 hP hS h57 h58 dX12_keep_55 (fun H locs hP hS => ?_)
      obtain ⟨g59, e60, hf⟩ := hs_bv_some hf
      replace e60 := Option.some.inj e60
      rw [e60] at hP
      have h61 : hs_kd g59 v0 = 10 := by rw [← e60]; exact h40
      have h62 : hs_kd g59 ((hs_R g v0 15) - 1) = 100 := by rw [← e60]; exact h41
      have h63 : hs_in v1 (hs_ln g59 ((hs_R g v0 15) - 1)) = true := by rw [← e60]; exact h42
      have h64 : hs_kd g59 ((hs_R g v0 5) - 1) = 100 := by rw [← e60]; exact h43
      have h65 : hs_in v1 (hs_ln g59 ((hs_R g v0 5) - 1)) = true := by rw [← e60]; exact h44
      have h66 : hs_kd g59 ((hs_R g8 v0 16) - 1) = 100 := by rw [← e60]; exact h45
      have h67 : hs_in v1 (hs_ln g59 ((hs_R g8 v0 16) - 1)) = true := by rw [← e60]; exact h46
      have h68 : hs_kd g59 ((hs_R g8 v0 6) - 1) = 100 := by rw [← e60]; exact h47
      have h69 : hs_in v1 (hs_ln g59 ((hs_R g8 v0 6) - 1)) = true := by rw [← e60]; exact h48
      have h70 : hs_kd g59 ((hs_R g21 v0 17) - 1) = 100 := by rw [← e60]; exact h49
      have h71 : hs_in v1 (hs_ln g59 ((hs_R g21 v0 17) - 1)) = true := by rw [← e60]; exact h50
      have h72 : hs_kd g59 ((hs_R g21 v0 7) - 1) = 100 := by rw [← e60]; exact h51
      have h73 : hs_in v1 (hs_ln g59 ((hs_R g21 v0 7) - 1)) = true := by rw [← e60]; exact h52
      have h74 : hs_kd g59 ((hs_R g38 v0 19) - 1) = 100 := by rw [← e60]; exact h55
      have h75 : hs_in v1 (hs_ln g59 ((hs_R g38 v0 19) - 1)) = true := by rw [← e60]; exact h56
      have h76 : hs_kd g59 ((hs_R g38 v0 8) - 1) = 100 := by rw [← e60]; exact h57
      have h77 : hs_in v1 (hs_ln g59 ((hs_R g38 v0 8) - 1)) = true := by rw [← e60]; exact h58
      refine lv_iinc (v := (v1 + (1 : Int32))) (lv' := [(1, .int (v1 + (1 : Int32))), (0, .ref (B + v0))]) hx hb dX12_keep_56 hl (k := 1) rfl (by rfl) (by decide) rfl (fun ls hl => ?_)
      refine lv_goto (tgt := 2) hx hb dX12_keep_59 (by decide) ?_
      exact ih _ _ hf _ _ _ hP hS (lv_sub hl [1, 0] rfl)

set_option maxHeartbeats 4000000 in
set_option maxRecDepth 100000 in
theorem wX12_keep_64 {p : Program} {l : Launch} {e : Env} {s : State} {m : MethodId} {args : Array Value} {below : List Frame} {meth : Method} {c : Code} {B : Nat} {D : va_G} {E : Nat → ClassId} (hX : hs_cx cX12_keep none 2 RX12 wcX12_keep p s m args meth c D E) {Q : State → Prop} {o : hs_S} {v0 : Nat} (hex0 : ∀ (H : Heap) (locs : List Loc) (ls : Array Slot), hs_P B D E (o) H → hs_Sx B s.heap H locs → lv_has ls 2 [(0, .ref (B + v0))] → W p l e rmX12_keep s m args below meth c H locs 0 0 Q (F0 m 89 ls [])) : ∀ (n : Nat) (v1 : Int32) (g : hs_S), lX12_keep_64 n v0 v1 g = some o → ∀ (H : Heap) (locs : List Loc) (ls : Array Slot), hs_P B D E g H → hs_Sx B s.heap H locs → lv_has ls 2 [(0, .ref (B + v0)), (1, .int v1)] → W p l e rmX12_keep s m args below meth c H locs 0 0 Q (F0 m 64 ls []) := by
  obtain ⟨hx, hb, hr, hml, hown, hts, hlocks, hK⟩ := id hX
  intro n
  induction n with
  | zero =>
    intro v1 g hf
    cases hf
  | succ n ih =>
    intro v1 g hf H locs ls hP hS hl
    replace hf := (lX12_keep_64_s n v0 v1 g).symm.trans hf
    refine lv_iload_n hx hb dX12_keep_64 rfl (lv_at hl 1 rfl) ?_
    refine lv_sipush (v := 256) hx hb dX12_keep_65 (by decide) ?_
    refine lv_icmp_ge (tgt := 89) hx hb dX12_keep_68 (by decide) (fun hc => ?_) (fun hc => ?_)
    · replace hf := hs_t hf hc
      obtain rfl := Option.some.inj hf
      exact hex0 _ _ _ hP hS (lv_sub hl [0] rfl)
    · replace hf := hs_f hf hc
      refine lv_aload_n hx hb dX12_keep_71 rfl (lv_at hl 0 rfl) ?_
      obtain ⟨h81, hf⟩ := hs_ck hf
      obtain ⟨h82, hf⟩ := hs_ck hf
      refine hs_getr (C := RX12) (T := TX12) (N := 48) hx hb hts (fun w h => List.mem_cons_of_mem _ (inlX12 w h)) hown hK.1 hP h81 (by decide) rfl 9 (by decide) (hts _ (List.mem_cons_of_mem _ wq127)) (fun _ h => h) rfl h82 dX12_keep_72 ?_
      refine lv_iload_n hx hb dX12_keep_75 rfl (lv_at hl 1 rfl) ?_
      refine lv_aload_n hx hb dX12_keep_76 rfl (lv_at hl 0 rfl) ?_
      obtain ⟨h83, hf⟩ := hs_ck hf
      refine hs_getr (C := RX12) (T := TX12) (N := 48) hx hb hts (fun w h => List.mem_cons_of_mem _ (inlX12 w h)) hown hK.1 hP h81 (by decide) rfl 20 (by decide) (hts _ (List.mem_cons_of_mem _ wq139)) (fun _ h => h) rfl h83 dX12_keep_77 ?_
      refine lv_iload_n hx hb dX12_keep_80 rfl (lv_at hl 1 rfl) ?_
      obtain ⟨h84, hf⟩ := hs_ck hf
      obtain ⟨h85, hf⟩ := hs_ck hf
      refine hs_iald hx hb hK.1 hP h84 h85 dX12_keep_81 ?_
      obtain ⟨h86, hf⟩ := hs_ck hf
      obtain ⟨h87, hf⟩ := hs_ck hf
      refine hs_iast hx hb hK.1 hP hS h86 h87 dX12_keep_82 (fun H locs hP hS => ?_)
      obtain ⟨g88, e89, hf⟩ := hs_bv_some hf
      replace e89 := Option.some.inj e89
      rw [e89] at hP
      have h90 : hs_kd g88 v0 = 10 := by rw [← e89]; exact h81
      have h91 : hs_kd g88 ((hs_R g v0 20) - 1) = 100 := by rw [← e89]; exact h84
      have h92 : hs_in v1 (hs_ln g88 ((hs_R g v0 20) - 1)) = true := by rw [← e89]; exact h85
      have h93 : hs_kd g88 ((hs_R g v0 9) - 1) = 100 := by rw [← e89]; exact h86
      have h94 : hs_in v1 (hs_ln g88 ((hs_R g v0 9) - 1)) = true := by rw [← e89]; exact h87
      refine lv_iinc (v := (v1 + (1 : Int32))) (lv' := [(1, .int (v1 + (1 : Int32))), (0, .ref (B + v0))]) hx hb dX12_keep_83 hl (k := 1) rfl (by rfl) (by decide) rfl (fun ls hl => ?_)
      refine lv_goto (tgt := 64) hx hb dX12_keep_86 (by decide) ?_
      exact ih _ _ hf _ _ _ hP hS (lv_sub hl [1, 0] rfl)

set_option maxHeartbeats 4000000 in
set_option maxRecDepth 100000 in
theorem wX12_keep_91 {p : Program} {l : Launch} {e : Env} {s : State} {m : MethodId} {args : Array Value} {below : List Frame} {meth : Method} {c : Code} {B : Nat} {D : va_G} {E : Nat → ClassId} (hX : hs_cx cX12_keep none 2 RX12 wcX12_keep p s m args meth c D E) {Q : State → Prop} {o : hs_S} {v0 : Nat} (hex0 : ∀ (H : Heap) (locs : List Loc) (ls : Array Slot), hs_P B D E (o) H → hs_Sx B s.heap H locs → lv_has ls 2 [] → W p l e rmX12_keep s m args below meth c H locs 0 0 Q (F0 m 116 ls [])) : ∀ (n : Nat) (v1 : Int32) (g : hs_S), lX12_keep_91 n v0 v1 g = some o → ∀ (H : Heap) (locs : List Loc) (ls : Array Slot), hs_P B D E g H → hs_Sx B s.heap H locs → lv_has ls 2 [(0, .ref (B + v0)), (1, .int v1)] → W p l e rmX12_keep s m args below meth c H locs 0 0 Q (F0 m 91 ls []) := by
  obtain ⟨hx, hb, hr, hml, hown, hts, hlocks, hK⟩ := id hX
  intro n
  induction n with
  | zero =>
    intro v1 g hf
    cases hf
  | succ n ih =>
    intro v1 g hf H locs ls hP hS hl
    replace hf := (lX12_keep_91_s n v0 v1 g).symm.trans hf
    refine lv_iload_n hx hb dX12_keep_91 rfl (lv_at hl 1 rfl) ?_
    refine lv_sipush (v := 16008) hx hb dX12_keep_92 (by decide) ?_
    refine lv_icmp_ge (tgt := 116) hx hb dX12_keep_95 (by decide) (fun hc => ?_) (fun hc => ?_)
    · replace hf := hs_t hf hc
      obtain rfl := Option.some.inj hf
      exact hex0 _ _ _ hP hS (lv_sub hl [] rfl)
    · replace hf := hs_f hf hc
      refine lv_aload_n hx hb dX12_keep_98 rfl (lv_at hl 0 rfl) ?_
      obtain ⟨h98, hf⟩ := hs_ck hf
      obtain ⟨h99, hf⟩ := hs_ck hf
      refine hs_getr (C := RX12) (T := TX12) (N := 48) hx hb hts (fun w h => List.mem_cons_of_mem _ (inlX12 w h)) hown hK.1 hP h98 (by decide) rfl 10 (by decide) (hts _ (List.mem_cons_of_mem _ wq128)) (fun _ h => h) rfl h99 dX12_keep_99 ?_
      refine lv_iload_n hx hb dX12_keep_102 rfl (lv_at hl 1 rfl) ?_
      refine lv_aload_n hx hb dX12_keep_103 rfl (lv_at hl 0 rfl) ?_
      obtain ⟨h100, hf⟩ := hs_ck hf
      refine hs_getr (C := RX12) (T := TX12) (N := 48) hx hb hts (fun w h => List.mem_cons_of_mem _ (inlX12 w h)) hown hK.1 hP h98 (by decide) rfl 21 (by decide) (hts _ (List.mem_cons_of_mem _ wq140)) (fun _ h => h) rfl h100 dX12_keep_104 ?_
      refine lv_iload_n hx hb dX12_keep_107 rfl (lv_at hl 1 rfl) ?_
      obtain ⟨h101, hf⟩ := hs_ck hf
      obtain ⟨h102, hf⟩ := hs_ck hf
      refine hs_iald hx hb hK.1 hP h101 h102 dX12_keep_108 ?_
      obtain ⟨h103, hf⟩ := hs_ck hf
      obtain ⟨h104, hf⟩ := hs_ck hf
      refine hs_iast hx hb hK.1 hP hS h103 h104 dX12_keep_109 (fun H locs hP hS => ?_)
      obtain ⟨g105, e106, hf⟩ := hs_bv_some hf
      replace e106 := Option.some.inj e106
      rw [e106] at hP
      have h107 : hs_kd g105 v0 = 10 := by rw [← e106]; exact h98
      have h108 : hs_kd g105 ((hs_R g v0 21) - 1) = 100 := by rw [← e106]; exact h101
      have h109 : hs_in v1 (hs_ln g105 ((hs_R g v0 21) - 1)) = true := by rw [← e106]; exact h102
      have h110 : hs_kd g105 ((hs_R g v0 10) - 1) = 100 := by rw [← e106]; exact h103
      have h111 : hs_in v1 (hs_ln g105 ((hs_R g v0 10) - 1)) = true := by rw [← e106]; exact h104
      refine lv_iinc (v := (v1 + (1 : Int32))) (lv' := [(1, .int (v1 + (1 : Int32))), (0, .ref (B + v0))]) hx hb dX12_keep_110 hl (k := 1) rfl (by rfl) (by decide) rfl (fun ls hl => ?_)
      refine lv_goto (tgt := 91) hx hb dX12_keep_113 (by decide) ?_
      exact ih _ _ hf _ _ _ hP hS (lv_sub hl [1, 0] rfl)

set_option maxHeartbeats 4000000 in
set_option maxRecDepth 100000 in
theorem ctX12_keep (l : Launch) (B : Nat) (D : va_G) (E : Nat → ClassId) (v0 : Nat) (g : hs_S) (o : hs_S) (hf : fX12_keep v0 g = some o) : Met l yX12_keep wcX12_keep rmX12_keep (hs_Pc B D E g [.ref (B + v0)]) (hs_Qv B D E o) (0) (0) (hs_F B) := by
  refine Met.ofW (cc := cX12_keep) (maxL := 2) (ret := none) (by decide) rfl ?_
  intro p e s m args below meth c s₁ Bd hml hv
  obtain ⟨rfl, hP, hK⟩ := hv
  have hx := Bd.exec
  have hb := Bd.bytes
  have hr := Bd.returns
  have hts := atoms_spec (ws := wcX12_keep) Bd.pre
  have hown : s.vm.findClass RX12 = some m.cls := findClass_of_methodNamed Bd.named
  have hlocks := Bd.notSynchronized
  have hS : hs_Sx B s.heap s.heap [] := va_S.rf
  have hX : hs_cx cX12_keep none 2 RX12 wcX12_keep p s m (List.toArray [.ref (B + v0)]) meth c D E := ⟨hx, hb, hr, hml, hown, hts, hlocks, hK⟩
  have hl := lv_entry ([.ref (B + v0)]) (n := 2) (Nat.le_of_ble_eq_true rfl)
  rw [lg_entry_eq]
  generalize (lg_sl ([.ref (B + v0)]) ++ List.replicate (2 - (lg_sl ([.ref (B + v0)])).length) Slot.unset).toArray = ls at hl ⊢
  have hl : lv_has ls 2 [(0, .ref (B + v0))] := hl
  have hP : hs_P B D E g s.heap := hP
  unfold fX12_keep at hf
  refine lv_iconst (v := 0) hx hb dX12_keep_0 (by decide) ?_
  refine lv_istore_n (lv' := [(1, .int (0 : Int32)), (0, .ref (B + v0))]) hx hb dX12_keep_1 rfl hl (by decide) rfl (fun ls hl => ?_)
  obtain ⟨g79, h80, hf⟩ := hs_bv_some hf
  refine wX12_keep_2 hX (fun H locs ls hP hS hl => ?_) hs_N _ _ h80 _ _ _ hP hS (lv_sub hl [1, 0] rfl)
  refine lv_iconst (v := 0) hx hb dX12_keep_62 (by decide) ?_
  refine lv_istore_n (lv' := [(1, .int (0 : Int32)), (0, .ref (B + v0))]) hx hb dX12_keep_63 rfl hl (by decide) rfl (fun ls hl => ?_)
  obtain ⟨g96, h97, hf⟩ := hs_bv_some hf
  refine wX12_keep_64 hX (fun H locs ls hP hS hl => ?_) hs_N _ _ h97 _ _ _ hP hS (lv_sub hl [1, 0] rfl)
  refine lv_iconst (v := 0) hx hb dX12_keep_89 (by decide) ?_
  refine lv_istore_n (lv' := [(1, .int (0 : Int32)), (0, .ref (B + v0))]) hx hb dX12_keep_90 rfl hl (by decide) rfl (fun ls hl => ?_)
  obtain ⟨g113, h114, hf⟩ := hs_bv_some hf
  refine wX12_keep_91 hX (fun H locs ls hP hS hl => ?_) hs_N _ _ h114 _ _ _ hP hS (lv_sub hl [1, 0] rfl)
  exact hs_vret hx hb hr hlocks hK hP hS hf dX12_keep_116

theorem dX12_load_0 : decode cX12_load 0 = .ok (.aload_n 0, 1) := by decide +kernel
theorem dX12_load_1 : decode cX12_load 1 = .ok (.invokevirtual 185, 3) := by decide +kernel
theorem dX12_load_4 : decode cX12_load 4 = .ok (.istore_n 1, 1) := by decide +kernel
theorem dX12_load_5 : decode cX12_load 5 = .ok (.aload_n 0, 1) := by decide +kernel
theorem dX12_load_6 : decode cX12_load 6 = .ok (.iconst 0, 1) := by decide +kernel
theorem dX12_load_7 : decode cX12_load 7 = .ok (.putfield 124, 3) := by decide +kernel
theorem dX12_load_10 : decode cX12_load 10 = .ok (.iload_n 1, 1) := by decide +kernel
theorem dX12_load_11 : decode cX12_load 11 = .ok (.ifCond .ge 8, 3) := by decide +kernel
theorem dX12_load_14 : decode cX12_load 14 = .ok (.bipush (-9), 2) := by decide +kernel
theorem dX12_load_16 : decode cX12_load 16 = .ok (.iload_n 1, 1) := by decide +kernel
theorem dX12_load_17 : decode cX12_load 17 = .ok (.iadd, 1) := by decide +kernel
theorem dX12_load_18 : decode cX12_load 18 = .ok (.ireturn, 1) := by decide +kernel
theorem dX12_load_19 : decode cX12_load 19 = .ok (.aload_n 0, 1) := by decide +kernel
theorem dX12_load_20 : decode cX12_load 20 = .ok (.iload_n 1, 1) := by decide +kernel
theorem dX12_load_21 : decode cX12_load 21 = .ok (.putfield 188, 3) := by decide +kernel
theorem dX12_load_24 : decode cX12_load 24 = .ok (.aload_n 0, 1) := by decide +kernel
theorem dX12_load_25 : decode cX12_load 25 = .ok (.iconst 1, 1) := by decide +kernel
theorem dX12_load_26 : decode cX12_load 26 = .ok (.putfield 191, 3) := by decide +kernel
theorem dX12_load_29 : decode cX12_load 29 = .ok (.aload_n 0, 1) := by decide +kernel
theorem dX12_load_30 : decode cX12_load 30 = .ok (.iconst 0, 1) := by decide +kernel
theorem dX12_load_31 : decode cX12_load 31 = .ok (.putfield 195, 3) := by decide +kernel
theorem dX12_load_34 : decode cX12_load 34 = .ok (.aload_n 0, 1) := by decide +kernel
theorem dX12_load_35 : decode cX12_load 35 = .ok (.invokevirtual 198, 3) := by decide +kernel
theorem dX12_load_38 : decode cX12_load 38 = .ok (.iload_n 1, 1) := by decide +kernel
theorem dX12_load_39 : decode cX12_load 39 = .ok (.ireturn, 1) := by decide +kernel
abbrev wcX12_load : List Cond := .code yX12_load cX12_load 2 (some .int) :: wsL_law
def fX12_load (v0 : Nat) (g : hs_S) : Option (Int32 × hs_S) :=
  if hs_kd g v0 = 10 then
  hs_bd (fX12_read v0 g) fun r3 g2 =>
  if hs_kd g2 v0 = 10 then
  if 0 ≤ r3 then (
    hs_bv (some (hs_wI (hs_wI (hs_wI (hs_wI g2 v0 2 (0 : Int32)) v0 4 r3) v0 3 (1 : Int32)) v0 22 (0 : Int32))) fun g6 =>
    hs_bv (fX12_keep v0 g6) fun g9 =>
    some (r3, g9)
  ) else (
    some (((-9 : Int32) + r3), (hs_wI g2 v0 2 (0 : Int32)))
  )
  else none else none
abbrev rmX12_load : Room := { frames := 5, cells := 0, slots := 0, locals := 123 }
set_option maxHeartbeats 4000000 in
set_option maxRecDepth 100000 in
theorem ctX12_load (l : Launch) (B : Nat) (D : va_G) (E : Nat → ClassId) (v0 : Nat) (g : hs_S) (o : Int32 × hs_S) (hf : fX12_load v0 g = some o) : Met l yX12_load wcX12_load rmX12_load (hs_Pc B D E g [.ref (B + v0)]) (hs_Qi B D E o) (0) (0) (hs_F B) := by
  refine Met.ofW (cc := cX12_load) (maxL := 2) (ret := (some .int)) (by decide) rfl ?_
  intro p e s m args below meth c s₁ Bd hml hv
  obtain ⟨rfl, hP, hK⟩ := hv
  have hx := Bd.exec
  have hb := Bd.bytes
  have hr := Bd.returns
  have hts := atoms_spec (ws := wcX12_load) Bd.pre
  have hown : s.vm.findClass RX12 = some m.cls := findClass_of_methodNamed Bd.named
  have hlocks := Bd.notSynchronized
  have hS : hs_Sx B s.heap s.heap [] := va_S.rf
  have hX : hs_cx cX12_load (some .int) 2 RX12 wcX12_load p s m (List.toArray [.ref (B + v0)]) meth c D E := ⟨hx, hb, hr, hml, hown, hts, hlocks, hK⟩
  have hl := lv_entry ([.ref (B + v0)]) (n := 2) (Nat.le_of_ble_eq_true rfl)
  rw [lg_entry_eq]
  generalize (lg_sl ([.ref (B + v0)]) ++ List.replicate (2 - (lg_sl ([.ref (B + v0)])).length) Slot.unset).toArray = ls at hl ⊢
  have hl : lv_has ls 2 [(0, .ref (B + v0))] := hl
  have hP : hs_P B D E g s.heap := hP
  unfold fX12_load at hf
  refine lv_aload_n hx hb dX12_load_0 rfl (lv_at hl 0 rfl) ?_
  obtain ⟨h1, hf⟩ := hs_ck hf
  obtain ⟨r3, g2, h4, hf⟩ := hs_bd_some hf
  refine hs_calli (va_runV (As := []) (rest := []) ⟨hx, hb, hml, hown, hts⟩ (ctX12_read l B D E v0 g _ h4) (cwV 0 hts (hs_gV (fun _ h => List.mem_cons_of_mem _ h) wq395 wq396 wq397 wq5 wq398) rfl rfl rfl (by decide +kernel) ⟨Nat.le_of_ble_eq_true rfl, Nat.le_of_ble_eq_true rfl⟩) (hs_preV (r := (RX12, TX12, 48)) hP hK h1 (by decide) rfl) rfl rfl hl.1 rfl (lv_room (Nat.le_of_ble_eq_true rfl)) dX12_load_1 ⟨(Nat.le_of_ble_eq_true rfl), (Nat.le_of_ble_eq_true rfl)⟩) hS (fun H locs hP hS => ?_)
  refine lv_istore_n (lv' := [(1, .int r3), (0, .ref (B + v0))]) hx hb dX12_load_4 rfl hl (by decide) rfl (fun ls hl => ?_)
  refine lv_aload_n hx hb dX12_load_5 rfl (lv_at hl 1 rfl) ?_
  refine lv_iconst (v := 0) hx hb dX12_load_6 (by decide) ?_
  obtain ⟨h5, hf⟩ := hs_ck hf
  refine hs_puti (C := RX12) (T := TX12) (N := 48) hx hb hts (fun w h => List.mem_cons_of_mem _ (inlX12 w h)) tyX12 tyX12_ok nmX12 hown hK.1 hP hS h5 (by decide) rfl 2 (by decide) (hts _ (List.mem_cons_of_mem _ wq176)) (fun _ h => h) (Or.inl rfl) rfl rfl rfl dX12_load_7 (fun H locs hP hS => ?_)
  refine lv_iload_n hx hb dX12_load_10 rfl (lv_at hl 0 rfl) ?_
  refine lv_if_ge (tgt := 19) hx hb dX12_load_11 (by decide) (fun hc => ?_) (fun hc => ?_)
  · replace hf := hs_t hf hc
    refine lv_aload_n hx hb dX12_load_19 rfl (lv_at hl 1 rfl) ?_
    refine lv_iload_n hx hb dX12_load_20 rfl (lv_at hl 0 rfl) ?_
    refine hs_puti (C := RX12) (T := TX12) (N := 48) hx hb hts (fun w h => List.mem_cons_of_mem _ (inlX12 w h)) tyX12 tyX12_ok nmX12 hown hK.1 hP hS h5 (by decide) rfl 4 (by decide) (hts _ (List.mem_cons_of_mem _ wq392)) (fun _ h => h) (Or.inl rfl) rfl rfl rfl dX12_load_21 (fun H locs hP hS => ?_)
    refine lv_aload_n hx hb dX12_load_24 rfl (lv_at hl 1 rfl) ?_
    refine lv_iconst (v := 1) hx hb dX12_load_25 (by decide) ?_
    refine hs_puti (C := RX12) (T := TX12) (N := 48) hx hb hts (fun w h => List.mem_cons_of_mem _ (inlX12 w h)) tyX12 tyX12_ok nmX12 hown hK.1 hP hS h5 (by decide) rfl 3 (by decide) (hts _ (List.mem_cons_of_mem _ wq393)) (fun _ h => h) (Or.inl rfl) (hs_01_nar (rfl)) (hs_01_fit (rfl)) rfl dX12_load_26 (fun H locs hP hS => ?_)
    refine lv_aload_n hx hb dX12_load_29 rfl (lv_at hl 1 rfl) ?_
    refine lv_iconst (v := 0) hx hb dX12_load_30 (by decide) ?_
    refine hs_puti (C := RX12) (T := TX12) (N := 48) hx hb hts (fun w h => List.mem_cons_of_mem _ (inlX12 w h)) tyX12 tyX12_ok nmX12 hown hK.1 hP hS h5 (by decide) rfl 22 (by decide) (hts _ (List.mem_cons_of_mem _ wq394)) (fun _ h => h) (Or.inl rfl) (hs_01_nar (rfl)) (hs_01_fit (rfl)) rfl dX12_load_31 (fun H locs hP hS => ?_)
    obtain ⟨g6, e7, hf⟩ := hs_bv_some hf
    replace e7 := Option.some.inj e7
    rw [e7] at hP
    have h8 : hs_kd g6 v0 = 10 := by rw [← e7]; exact h5
    refine lv_aload_n hx hb dX12_load_34 rfl (lv_at hl 1 rfl) ?_
    obtain ⟨g9, h11, hf⟩ := hs_bv_some hf
    refine hs_callv (va_runV (As := []) (rest := []) ⟨hx, hb, hml, hown, hts⟩ (ctX12_keep l B D E v0 g6 _ h11) (cwV 0 hts (hs_gV (fun _ h => List.mem_cons_of_mem _ h) wq462 wq463 wq464 wq5 wq465) rfl rfl rfl (by decide +kernel) ⟨Nat.le_of_ble_eq_true rfl, Nat.le_of_ble_eq_true rfl⟩) (hs_preV (r := (RX12, TX12, 48)) hP hK h8 (by decide) rfl) rfl rfl hl.1 rfl (lv_room (Nat.le_of_ble_eq_true rfl)) dX12_load_35 ⟨(Nat.le_of_ble_eq_true rfl), (Nat.le_of_ble_eq_true rfl)⟩) hS (fun H locs hP hS => ?_)
    refine lv_iload_n hx hb dX12_load_38 rfl (lv_at hl 0 rfl) ?_
    exact hs_iret hx hb hr hlocks rfl hK hP hS hf dX12_load_39
  · replace hf := hs_f hf hc
    refine lv_bipush (v := -9) hx hb dX12_load_14 (by decide) ?_
    refine lv_iload_n hx hb dX12_load_16 rfl (lv_at hl 0 rfl) ?_
    refine lv_iadd hx hb dX12_load_17 ?_
    exact hs_iret hx hb hr hlocks rfl hK hP hS hf dX12_load_18

theorem dX12_price_0 : decode cX12_price 0 = .ok (.iload_n 1, 1) := by decide +kernel
theorem dX12_price_1 : decode cX12_price 1 = .ok (.ifCond .lt 28, 3) := by decide +kernel
theorem dX12_price_4 : decode cX12_price 4 = .ok (.iload_n 1, 1) := by decide +kernel
theorem dX12_price_5 : decode cX12_price 5 = .ok (.sipush 255, 3) := by decide +kernel
theorem dX12_price_8 : decode cX12_price 8 = .ok (.if_icmp .gt 21, 3) := by decide +kernel
theorem dX12_price_11 : decode cX12_price 11 = .ok (.iload_n 1, 1) := by decide +kernel
theorem dX12_price_12 : decode cX12_price 12 = .ok (.invokestatic 169, 3) := by decide +kernel
theorem dX12_price_15 : decode cX12_price 15 = .ok (.ifCond .eq 14, 3) := by decide +kernel
theorem dX12_price_18 : decode cX12_price 18 = .ok (.iload_n 2, 1) := by decide +kernel
theorem dX12_price_19 : decode cX12_price 19 = .ok (.ifCond .lt 10, 3) := by decide +kernel
theorem dX12_price_22 : decode cX12_price 22 = .ok (.iload_n 2, 1) := by decide +kernel
theorem dX12_price_23 : decode cX12_price 23 = .ok (.sipush 1000, 3) := by decide +kernel
theorem dX12_price_26 : decode cX12_price 26 = .ok (.if_icmp .le 6, 3) := by decide +kernel
theorem dX12_price_29 : decode cX12_price 29 = .ok (.bipush (-3), 2) := by decide +kernel
theorem dX12_price_31 : decode cX12_price 31 = .ok (.ireturn, 1) := by decide +kernel
theorem dX12_price_32 : decode cX12_price 32 = .ok (.aload_n 0, 1) := by decide +kernel
theorem dX12_price_33 : decode cX12_price 33 = .ok (.getfield 93, 3) := by decide +kernel
theorem dX12_price_36 : decode cX12_price 36 = .ok (.iload_n 1, 1) := by decide +kernel
theorem dX12_price_37 : decode cX12_price 37 = .ok (.iaload, 1) := by decide +kernel
theorem dX12_price_38 : decode cX12_price 38 = .ok (.istore_n 3, 1) := by decide +kernel
theorem dX12_price_39 : decode cX12_price 39 = .ok (.aload_n 0, 1) := by decide +kernel
theorem dX12_price_40 : decode cX12_price 40 = .ok (.getfield 93, 3) := by decide +kernel
theorem dX12_price_43 : decode cX12_price 43 = .ok (.iload_n 1, 1) := by decide +kernel
theorem dX12_price_44 : decode cX12_price 44 = .ok (.iload_n 2, 1) := by decide +kernel
theorem dX12_price_45 : decode cX12_price 45 = .ok (.iastore, 1) := by decide +kernel
theorem dX12_price_46 : decode cX12_price 46 = .ok (.iload_n 3, 1) := by decide +kernel
theorem dX12_price_47 : decode cX12_price 47 = .ok (.ireturn, 1) := by decide +kernel
abbrev wcX12_price : List Cond := .code yX12_price cX12_price 4 (some .int) :: wsL_law
def fX12_price (v0 : Nat) (v1 : Int32) (v2 : Int32) (g : hs_S) : Option (Int32 × hs_S) :=
  if v1 < 0 then (
    some ((-3 : Int32), g)
  ) else (
    if (255 : Int32) < v1 then (
      some ((-3 : Int32), g)
    ) else (
      hs_bd (fX12_isKind v1 g) fun r2 g1 =>
      if r2 = 0 then (
        some ((-3 : Int32), g1)
      ) else (
        if v2 < 0 then (
          some ((-3 : Int32), g1)
        ) else (
          if v2 ≤ (1000 : Int32) then (
            if hs_kd g1 v0 = 10 then
            if ¬ (hs_R g1 v0 32) = 0 then
            if hs_kd g1 ((hs_R g1 v0 32) - 1) = 100 then
            if hs_in v1 (hs_ln g1 ((hs_R g1 v0 32) - 1)) = true then
            some ((hs_I g1 ((hs_R g1 v0 32) - 1) v1.toNatClampNeg), (hs_wI g1 ((hs_R g1 v0 32) - 1) v1.toNatClampNeg v2))
            else none else none else none else none
          ) else (
            some ((-3 : Int32), g1)
          )
        )
      )
    )
  )
abbrev rmX12_price : Room := { frames := 2, cells := 0, slots := 0, locals := 40 }
set_option maxHeartbeats 4000000 in
set_option maxRecDepth 100000 in
theorem ctX12_price (l : Launch) (B : Nat) (D : va_G) (E : Nat → ClassId) (v0 : Nat) (v1 : Int32) (v2 : Int32) (g : hs_S) (o : Int32 × hs_S) (hf : fX12_price v0 v1 v2 g = some o) : Met l yX12_price wcX12_price rmX12_price (hs_Pc B D E g [.ref (B + v0), .int v1, .int v2]) (hs_Qi B D E o) (0) (0) (hs_F B) := by
  refine Met.ofW (cc := cX12_price) (maxL := 4) (ret := (some .int)) (by decide) rfl ?_
  intro p e s m args below meth c s₁ Bd hml hv
  obtain ⟨rfl, hP, hK⟩ := hv
  have hx := Bd.exec
  have hb := Bd.bytes
  have hr := Bd.returns
  have hts := atoms_spec (ws := wcX12_price) Bd.pre
  have hown : s.vm.findClass RX12 = some m.cls := findClass_of_methodNamed Bd.named
  have hlocks := Bd.notSynchronized
  have hS : hs_Sx B s.heap s.heap [] := va_S.rf
  have hX : hs_cx cX12_price (some .int) 4 RX12 wcX12_price p s m (List.toArray [.ref (B + v0), .int v1, .int v2]) meth c D E := ⟨hx, hb, hr, hml, hown, hts, hlocks, hK⟩
  have hl := lv_entry ([.ref (B + v0), .int v1, .int v2]) (n := 4) (Nat.le_of_ble_eq_true rfl)
  rw [lg_entry_eq]
  generalize (lg_sl ([.ref (B + v0), .int v1, .int v2]) ++ List.replicate (4 - (lg_sl ([.ref (B + v0), .int v1, .int v2])).length) Slot.unset).toArray = ls at hl ⊢
  have hl : lv_has ls 4 [(0, .ref (B + v0)), (1, .int v1), (2, .int v2)] := hl
  have hP : hs_P B D E g s.heap := hP
  unfold fX12_price at hf
  refine lv_iload_n hx hb dX12_price_0 rfl (lv_at hl 1 rfl) ?_
  refine lv_if_lt (tgt := 29) hx hb dX12_price_1 (by decide) (fun hc => ?_) (fun hc => ?_)
  · replace hf := hs_t hf hc
    refine lv_bipush (v := -3) hx hb dX12_price_29 (by decide) ?_
    exact hs_iret hx hb hr hlocks rfl hK hP hS hf dX12_price_31
  · replace hf := hs_f hf hc
    refine lv_iload_n hx hb dX12_price_4 rfl (lv_at hl 1 rfl) ?_
    refine lv_sipush (v := 255) hx hb dX12_price_5 (by decide) ?_
    refine lv_icmp_gt (tgt := 29) hx hb dX12_price_8 (by decide) (fun hc => ?_) (fun hc => ?_)
    · replace hf := hs_t hf hc
      refine lv_bipush (v := -3) hx hb dX12_price_29 (by decide) ?_
      exact hs_iret hx hb hr hlocks rfl hK hP hS hf dX12_price_31
    · replace hf := hs_f hf hc
      refine lv_iload_n hx hb dX12_price_11 rfl (lv_at hl 1 rfl) ?_
      obtain ⟨r2, g1, h3, hf⟩ := hs_bd_some hf
      refine hs_calli (va_runS (As := [.int v1]) (rest := []) ⟨hx, hb, hml, hown, hts⟩ (ctX12_isKind l B D E v1 g _ h3) (va_cwS 1 hts (hs_gS (fun _ h => List.mem_cons_of_mem _ h) wq420 wq421 wq5 wq422) rfl rfl rfl (by decide +kernel) ⟨Nat.le_of_ble_eq_true rfl, Nat.le_of_ble_eq_true rfl⟩) (hs_pre hP hK) rfl rfl hl.1 rfl (lv_room (Nat.le_of_ble_eq_true rfl)) dX12_price_12 ⟨(Nat.le_of_ble_eq_true rfl), (Nat.le_of_ble_eq_true rfl)⟩) hS (fun H locs hP hS => ?_)
      refine lv_if_eq (tgt := 29) hx hb dX12_price_15 (by decide) (fun hc => ?_) (fun hc => ?_)
      · replace hf := hs_t hf hc
        refine lv_bipush (v := -3) hx hb dX12_price_29 (by decide) ?_
        exact hs_iret hx hb hr hlocks rfl hK hP hS hf dX12_price_31
      · replace hf := hs_f hf hc
        refine lv_iload_n hx hb dX12_price_18 rfl (lv_at hl 2 rfl) ?_
        refine lv_if_lt (tgt := 29) hx hb dX12_price_19 (by decide) (fun hc => ?_) (fun hc => ?_)
        · replace hf := hs_t hf hc
          refine lv_bipush (v := -3) hx hb dX12_price_29 (by decide) ?_
          exact hs_iret hx hb hr hlocks rfl hK hP hS hf dX12_price_31
        · replace hf := hs_f hf hc
          refine lv_iload_n hx hb dX12_price_22 rfl (lv_at hl 2 rfl) ?_
          refine lv_sipush (v := 1000) hx hb dX12_price_23 (by decide) ?_
          refine lv_icmp_le (tgt := 32) hx hb dX12_price_26 (by decide) (fun hc => ?_) (fun hc => ?_)
          · replace hf := hs_t hf hc
            refine lv_aload_n hx hb dX12_price_32 rfl (lv_at hl 0 rfl) ?_
            obtain ⟨h4, hf⟩ := hs_ck hf
            obtain ⟨h5, hf⟩ := hs_ck hf
            refine hs_getr (C := RX12) (T := TX12) (N := 48) hx hb hts (fun w h => List.mem_cons_of_mem _ (inlX12 w h)) hown hK.1 hP h4 (by decide) rfl 32 (by decide) (hts _ (List.mem_cons_of_mem _ wq149)) (fun _ h => h) rfl h5 dX12_price_33 ?_
            refine lv_iload_n hx hb dX12_price_36 rfl (lv_at hl 1 rfl) ?_
            obtain ⟨h6, hf⟩ := hs_ck hf
            obtain ⟨h7, hf⟩ := hs_ck hf
            refine hs_iald hx hb hK.1 hP h6 h7 dX12_price_37 ?_
            refine lv_istore_n (lv' := [(3, .int (hs_I g1 ((hs_R g1 v0 32) - 1) v1.toNatClampNeg)), (0, .ref (B + v0)), (1, .int v1), (2, .int v2)]) hx hb dX12_price_38 rfl hl (by decide) rfl (fun ls hl => ?_)
            refine lv_aload_n hx hb dX12_price_39 rfl (lv_at hl 1 rfl) ?_
            refine hs_getr (C := RX12) (T := TX12) (N := 48) hx hb hts (fun w h => List.mem_cons_of_mem _ (inlX12 w h)) hown hK.1 hP h4 (by decide) rfl 32 (by decide) (hts _ (List.mem_cons_of_mem _ wq149)) (fun _ h => h) rfl h5 dX12_price_40 ?_
            refine lv_iload_n hx hb dX12_price_43 rfl (lv_at hl 2 rfl) ?_
            refine lv_iload_n hx hb dX12_price_44 rfl (lv_at hl 3 rfl) ?_
            refine hs_iast hx hb hK.1 hP hS h6 h7 dX12_price_45 (fun H locs hP hS => ?_)
            refine lv_iload_n hx hb dX12_price_46 rfl (lv_at hl 0 rfl) ?_
            exact hs_iret hx hb hr hlocks rfl hK hP hS hf dX12_price_47
          · replace hf := hs_f hf hc
            refine lv_bipush (v := -3) hx hb dX12_price_29 (by decide) ?_
            exact hs_iret hx hb hr hlocks rfl hK hP hS hf dX12_price_31

theorem dX12_kindAt_0 : decode cX12_kindAt 0 = .ok (.aload_n 0, 1) := by decide +kernel
theorem dX12_kindAt_1 : decode cX12_kindAt 1 = .ok (.getfield 32, 3) := by decide +kernel
theorem dX12_kindAt_4 : decode cX12_kindAt 4 = .ok (.sipush 2001, 3) := by decide +kernel
theorem dX12_kindAt_7 : decode cX12_kindAt 7 = .ok (.iload_n 1, 1) := by decide +kernel
theorem dX12_kindAt_8 : decode cX12_kindAt 8 = .ok (.imul, 1) := by decide +kernel
theorem dX12_kindAt_9 : decode cX12_kindAt 9 = .ok (.iload_n 2, 1) := by decide +kernel
theorem dX12_kindAt_10 : decode cX12_kindAt 10 = .ok (.iadd, 1) := by decide +kernel
theorem dX12_kindAt_11 : decode cX12_kindAt 11 = .ok (.iaload, 1) := by decide +kernel
theorem dX12_kindAt_12 : decode cX12_kindAt 12 = .ok (.ireturn, 1) := by decide +kernel
abbrev wcX12_kindAt : List Cond := .code yX12_kindAt cX12_kindAt 3 (some .int) :: wsL_law
def fX12_kindAt (v0 : Nat) (v1 : Int32) (v2 : Int32) (g : hs_S) : Option (Int32 × hs_S) :=
  if hs_kd g v0 = 10 then
  if ¬ (hs_R g v0 10) = 0 then
  if hs_kd g ((hs_R g v0 10) - 1) = 100 then
  if hs_in (((2001 : Int32) * v1) + v2) (hs_ln g ((hs_R g v0 10) - 1)) = true then
  some ((hs_I g ((hs_R g v0 10) - 1) (((2001 : Int32) * v1) + v2).toNatClampNeg), g)
  else none else none else none else none
abbrev rmX12_kindAt : Room := { frames := 0, cells := 0, slots := 0, locals := 0 }
set_option maxHeartbeats 4000000 in
set_option maxRecDepth 100000 in
theorem ctX12_kindAt (l : Launch) (B : Nat) (D : va_G) (E : Nat → ClassId) (v0 : Nat) (v1 : Int32) (v2 : Int32) (g : hs_S) (o : Int32 × hs_S) (hf : fX12_kindAt v0 v1 v2 g = some o) : Met l yX12_kindAt wcX12_kindAt rmX12_kindAt (hs_Pc B D E g [.ref (B + v0), .int v1, .int v2]) (hs_Qi B D E o) (0) (0) (hs_F B) := by
  refine Met.ofW (cc := cX12_kindAt) (maxL := 3) (ret := (some .int)) (by decide) rfl ?_
  intro p e s m args below meth c s₁ Bd hml hv
  obtain ⟨rfl, hP, hK⟩ := hv
  have hx := Bd.exec
  have hb := Bd.bytes
  have hr := Bd.returns
  have hts := atoms_spec (ws := wcX12_kindAt) Bd.pre
  have hown : s.vm.findClass RX12 = some m.cls := findClass_of_methodNamed Bd.named
  have hlocks := Bd.notSynchronized
  have hS : hs_Sx B s.heap s.heap [] := va_S.rf
  have hX : hs_cx cX12_kindAt (some .int) 3 RX12 wcX12_kindAt p s m (List.toArray [.ref (B + v0), .int v1, .int v2]) meth c D E := ⟨hx, hb, hr, hml, hown, hts, hlocks, hK⟩
  have hl := lv_entry ([.ref (B + v0), .int v1, .int v2]) (n := 3) (Nat.le_of_ble_eq_true rfl)
  rw [lg_entry_eq]
  generalize (lg_sl ([.ref (B + v0), .int v1, .int v2]) ++ List.replicate (3 - (lg_sl ([.ref (B + v0), .int v1, .int v2])).length) Slot.unset).toArray = ls at hl ⊢
  have hl : lv_has ls 3 [(0, .ref (B + v0)), (1, .int v1), (2, .int v2)] := hl
  have hP : hs_P B D E g s.heap := hP
  unfold fX12_kindAt at hf
  refine lv_aload_n hx hb dX12_kindAt_0 rfl (lv_at hl 0 rfl) ?_
  obtain ⟨h1, hf⟩ := hs_ck hf
  obtain ⟨h2, hf⟩ := hs_ck hf
  refine hs_getr (C := RX12) (T := TX12) (N := 48) hx hb hts (fun w h => List.mem_cons_of_mem _ (inlX12 w h)) hown hK.1 hP h1 (by decide) rfl 10 (by decide) (hts _ (List.mem_cons_of_mem _ wq128)) (fun _ h => h) rfl h2 dX12_kindAt_1 ?_
  refine lv_sipush (v := 2001) hx hb dX12_kindAt_4 (by decide) ?_
  refine lv_iload_n hx hb dX12_kindAt_7 rfl (lv_at hl 1 rfl) ?_
  refine lv_imul hx hb dX12_kindAt_8 ?_
  refine lv_iload_n hx hb dX12_kindAt_9 rfl (lv_at hl 2 rfl) ?_
  refine lv_iadd hx hb dX12_kindAt_10 ?_
  obtain ⟨h3, hf⟩ := hs_ck hf
  obtain ⟨h4, hf⟩ := hs_ck hf
  refine hs_iald hx hb hK.1 hP h3 h4 dX12_kindAt_11 ?_
  exact hs_iret hx hb hr hlocks rfl hK hP hS hf dX12_kindAt_12

theorem dX12_leads_0 : decode cX12_leads 0 = .ok (.sipush 2001, 3) := by decide +kernel
theorem dX12_leads_3 : decode cX12_leads 3 = .ok (.iload_n 1, 1) := by decide +kernel
theorem dX12_leads_4 : decode cX12_leads 4 = .ok (.imul, 1) := by decide +kernel
theorem dX12_leads_5 : decode cX12_leads 5 = .ok (.iload_n 2, 1) := by decide +kernel
theorem dX12_leads_6 : decode cX12_leads 6 = .ok (.iadd, 1) := by decide +kernel
theorem dX12_leads_7 : decode cX12_leads 7 = .ok (.istore_n 3, 1) := by decide +kernel
theorem dX12_leads_8 : decode cX12_leads 8 = .ok (.aload_n 0, 1) := by decide +kernel
theorem dX12_leads_9 : decode cX12_leads 9 = .ok (.getfield 32, 3) := by decide +kernel
theorem dX12_leads_12 : decode cX12_leads 12 = .ok (.iload_n 3, 1) := by decide +kernel
theorem dX12_leads_13 : decode cX12_leads 13 = .ok (.iaload, 1) := by decide +kernel
theorem dX12_leads_14 : decode cX12_leads 14 = .ok (.iload_n 2, 1) := by decide +kernel
theorem dX12_leads_15 : decode cX12_leads 15 = .ok (.aload_n 0, 1) := by decide +kernel
theorem dX12_leads_16 : decode cX12_leads 16 = .ok (.getfield 32, 3) := by decide +kernel
theorem dX12_leads_19 : decode cX12_leads 19 = .ok (.iload_n 3, 1) := by decide +kernel
theorem dX12_leads_20 : decode cX12_leads 20 = .ok (.iconst 1, 1) := by decide +kernel
theorem dX12_leads_21 : decode cX12_leads 21 = .ok (.iadd, 1) := by decide +kernel
theorem dX12_leads_22 : decode cX12_leads 22 = .ok (.iaload, 1) := by decide +kernel
theorem dX12_leads_23 : decode cX12_leads 23 = .ok (.aload_n 0, 1) := by decide +kernel
theorem dX12_leads_24 : decode cX12_leads 24 = .ok (.getfield 32, 3) := by decide +kernel
theorem dX12_leads_27 : decode cX12_leads 27 = .ok (.iload_n 3, 1) := by decide +kernel
theorem dX12_leads_28 : decode cX12_leads 28 = .ok (.iconst 2, 1) := by decide +kernel
theorem dX12_leads_29 : decode cX12_leads 29 = .ok (.iadd, 1) := by decide +kernel
theorem dX12_leads_30 : decode cX12_leads 30 = .ok (.iaload, 1) := by decide +kernel
theorem dX12_leads_31 : decode cX12_leads 31 = .ok (.invokestatic 165, 3) := by decide +kernel
theorem dX12_leads_34 : decode cX12_leads 34 = .ok (.ireturn, 1) := by decide +kernel
abbrev wcX12_leads : List Cond := .code yX12_leads cX12_leads 4 (some .int) :: wsL_law
def fX12_leads (v0 : Nat) (v1 : Int32) (v2 : Int32) (g : hs_S) : Option (Int32 × hs_S) :=
  if hs_kd g v0 = 10 then
  if ¬ (hs_R g v0 10) = 0 then
  if hs_kd g ((hs_R g v0 10) - 1) = 100 then
  if hs_in (((2001 : Int32) * v1) + v2) (hs_ln g ((hs_R g v0 10) - 1)) = true then
  if hs_in ((((2001 : Int32) * v1) + v2) + (1 : Int32)) (hs_ln g ((hs_R g v0 10) - 1)) = true then
  if hs_in ((((2001 : Int32) * v1) + v2) + (2 : Int32)) (hs_ln g ((hs_R g v0 10) - 1)) = true then
  hs_bd (fX12_target (hs_I g ((hs_R g v0 10) - 1) (((2001 : Int32) * v1) + v2).toNatClampNeg) v2 (hs_I g ((hs_R g v0 10) - 1) ((((2001 : Int32) * v1) + v2) + (1 : Int32)).toNatClampNeg) (hs_I g ((hs_R g v0 10) - 1) ((((2001 : Int32) * v1) + v2) + (2 : Int32)).toNatClampNeg) g) fun r8 g7 =>
  some (r8, g7)
  else none else none else none else none else none else none
abbrev rmX12_leads : Room := { frames := 2, cells := 0, slots := 0, locals := 43 }
set_option maxHeartbeats 4000000 in
set_option maxRecDepth 100000 in
theorem ctX12_leads (l : Launch) (B : Nat) (D : va_G) (E : Nat → ClassId) (v0 : Nat) (v1 : Int32) (v2 : Int32) (g : hs_S) (o : Int32 × hs_S) (hf : fX12_leads v0 v1 v2 g = some o) : Met l yX12_leads wcX12_leads rmX12_leads (hs_Pc B D E g [.ref (B + v0), .int v1, .int v2]) (hs_Qi B D E o) (0) (0) (hs_F B) := by
  refine Met.ofW (cc := cX12_leads) (maxL := 4) (ret := (some .int)) (by decide) rfl ?_
  intro p e s m args below meth c s₁ Bd hml hv
  obtain ⟨rfl, hP, hK⟩ := hv
  have hx := Bd.exec
  have hb := Bd.bytes
  have hr := Bd.returns
  have hts := atoms_spec (ws := wcX12_leads) Bd.pre
  have hown : s.vm.findClass RX12 = some m.cls := findClass_of_methodNamed Bd.named
  have hlocks := Bd.notSynchronized
  have hS : hs_Sx B s.heap s.heap [] := va_S.rf
  have hX : hs_cx cX12_leads (some .int) 4 RX12 wcX12_leads p s m (List.toArray [.ref (B + v0), .int v1, .int v2]) meth c D E := ⟨hx, hb, hr, hml, hown, hts, hlocks, hK⟩
  have hl := lv_entry ([.ref (B + v0), .int v1, .int v2]) (n := 4) (Nat.le_of_ble_eq_true rfl)
  rw [lg_entry_eq]
  generalize (lg_sl ([.ref (B + v0), .int v1, .int v2]) ++ List.replicate (4 - (lg_sl ([.ref (B + v0), .int v1, .int v2])).length) Slot.unset).toArray = ls at hl ⊢
  have hl : lv_has ls 4 [(0, .ref (B + v0)), (1, .int v1), (2, .int v2)] := hl
  have hP : hs_P B D E g s.heap := hP
  unfold fX12_leads at hf
  refine lv_sipush (v := 2001) hx hb dX12_leads_0 (by decide) ?_
  refine lv_iload_n hx hb dX12_leads_3 rfl (lv_at hl 1 rfl) ?_
  refine lv_imul hx hb dX12_leads_4 ?_
  refine lv_iload_n hx hb dX12_leads_5 rfl (lv_at hl 2 rfl) ?_
  refine lv_iadd hx hb dX12_leads_6 ?_
  refine lv_istore_n (lv' := [(3, .int (((2001 : Int32) * v1) + v2)), (0, .ref (B + v0)), (1, .int v1), (2, .int v2)]) hx hb dX12_leads_7 rfl hl (by decide) rfl (fun ls hl => ?_)
  refine lv_aload_n hx hb dX12_leads_8 rfl (lv_at hl 1 rfl) ?_
  obtain ⟨h1, hf⟩ := hs_ck hf
  obtain ⟨h2, hf⟩ := hs_ck hf
  refine hs_getr (C := RX12) (T := TX12) (N := 48) hx hb hts (fun w h => List.mem_cons_of_mem _ (inlX12 w h)) hown hK.1 hP h1 (by decide) rfl 10 (by decide) (hts _ (List.mem_cons_of_mem _ wq128)) (fun _ h => h) rfl h2 dX12_leads_9 ?_
  refine lv_iload_n hx hb dX12_leads_12 rfl (lv_at hl 0 rfl) ?_
  obtain ⟨h3, hf⟩ := hs_ck hf
  obtain ⟨h4, hf⟩ := hs_ck hf
  refine hs_iald hx hb hK.1 hP h3 h4 dX12_leads_13 ?_
  refine lv_iload_n hx hb dX12_leads_14 rfl (lv_at hl 3 rfl) ?_
  refine lv_aload_n hx hb dX12_leads_15 rfl (lv_at hl 1 rfl) ?_
  refine hs_getr (C := RX12) (T := TX12) (N := 48) hx hb hts (fun w h => List.mem_cons_of_mem _ (inlX12 w h)) hown hK.1 hP h1 (by decide) rfl 10 (by decide) (hts _ (List.mem_cons_of_mem _ wq128)) (fun _ h => h) rfl h2 dX12_leads_16 ?_
  refine lv_iload_n hx hb dX12_leads_19 rfl (lv_at hl 0 rfl) ?_
  refine lv_iconst (v := 1) hx hb dX12_leads_20 (by decide) ?_
  refine lv_iadd hx hb dX12_leads_21 ?_
  obtain ⟨h5, hf⟩ := hs_ck hf
  refine hs_iald hx hb hK.1 hP h3 h5 dX12_leads_22 ?_
  refine lv_aload_n hx hb dX12_leads_23 rfl (lv_at hl 1 rfl) ?_
  refine hs_getr (C := RX12) (T := TX12) (N := 48) hx hb hts (fun w h => List.mem_cons_of_mem _ (inlX12 w h)) hown hK.1 hP h1 (by decide) rfl 10 (by decide) (hts _ (List.mem_cons_of_mem _ wq128)) (fun _ h => h) rfl h2 dX12_leads_24 ?_
  refine lv_iload_n hx hb dX12_leads_27 rfl (lv_at hl 0 rfl) ?_
  refine lv_iconst (v := 2) hx hb dX12_leads_28 (by decide) ?_
  refine lv_iadd hx hb dX12_leads_29 ?_
  obtain ⟨h6, hf⟩ := hs_ck hf
  refine hs_iald hx hb hK.1 hP h3 h6 dX12_leads_30 ?_
  obtain ⟨r8, g7, h9, hf⟩ := hs_bd_some hf
  refine hs_calli (va_runS (As := [.int (hs_I g ((hs_R g v0 10) - 1) (((2001 : Int32) * v1) + v2).toNatClampNeg), .int v2, .int (hs_I g ((hs_R g v0 10) - 1) ((((2001 : Int32) * v1) + v2) + (1 : Int32)).toNatClampNeg), .int (hs_I g ((hs_R g v0 10) - 1) ((((2001 : Int32) * v1) + v2) + (2 : Int32)).toNatClampNeg)]) (rest := []) ⟨hx, hb, hml, hown, hts⟩ (ctX12_target l B D E (hs_I g ((hs_R g v0 10) - 1) (((2001 : Int32) * v1) + v2).toNatClampNeg) v2 (hs_I g ((hs_R g v0 10) - 1) ((((2001 : Int32) * v1) + v2) + (1 : Int32)).toNatClampNeg) (hs_I g ((hs_R g v0 10) - 1) ((((2001 : Int32) * v1) + v2) + (2 : Int32)).toNatClampNeg) g _ h9) (va_cwS 4 hts (hs_gS (fun _ h => List.mem_cons_of_mem _ h) wq433 wq434 wq5 wq435) rfl rfl rfl (by decide +kernel) ⟨Nat.le_of_ble_eq_true rfl, Nat.le_of_ble_eq_true rfl⟩) (hs_pre hP hK) rfl rfl hl.1 rfl (lv_room (Nat.le_of_ble_eq_true rfl)) dX12_leads_31 ⟨(Nat.le_of_ble_eq_true rfl), (Nat.le_of_ble_eq_true rfl)⟩) hS (fun H locs hP hS => ?_)
  exact hs_iret hx hb hr hlocks rfl hK hP hS hf dX12_leads_34

theorem dX12_mark_0 : decode cX12_mark 0 = .ok (.iconst 0, 1) := by decide +kernel
theorem dX12_mark_1 : decode cX12_mark 1 = .ok (.istore_n 2, 1) := by decide +kernel
theorem dX12_mark_2 : decode cX12_mark 2 = .ok (.iload_n 2, 1) := by decide +kernel
theorem dX12_mark_3 : decode cX12_mark 3 = .ok (.aload_n 0, 1) := by decide +kernel
theorem dX12_mark_4 : decode cX12_mark 4 = .ok (.getfield 23, 3) := by decide +kernel
theorem dX12_mark_7 : decode cX12_mark 7 = .ok (.iload_n 1, 1) := by decide +kernel
theorem dX12_mark_8 : decode cX12_mark 8 = .ok (.iaload, 1) := by decide +kernel
theorem dX12_mark_9 : decode cX12_mark 9 = .ok (.if_icmp .gt 16, 3) := by decide +kernel
theorem dX12_mark_12 : decode cX12_mark 12 = .ok (.aload_n 0, 1) := by decide +kernel
theorem dX12_mark_13 : decode cX12_mark 13 = .ok (.getfield 39, 3) := by decide +kernel
theorem dX12_mark_16 : decode cX12_mark 16 = .ok (.iload_n 2, 1) := by decide +kernel
theorem dX12_mark_17 : decode cX12_mark 17 = .ok (.iconst 0, 1) := by decide +kernel
theorem dX12_mark_18 : decode cX12_mark 18 = .ok (.bastore, 1) := by decide +kernel
theorem dX12_mark_19 : decode cX12_mark 19 = .ok (.iinc 2 1, 3) := by decide +kernel
theorem dX12_mark_22 : decode cX12_mark 22 = .ok (.goto (-20), 3) := by decide +kernel
theorem dX12_mark_25 : decode cX12_mark 25 = .ok (.aload_n 0, 1) := by decide +kernel
theorem dX12_mark_26 : decode cX12_mark 26 = .ok (.getfield 39, 3) := by decide +kernel
theorem dX12_mark_29 : decode cX12_mark 29 = .ok (.iconst 0, 1) := by decide +kernel
theorem dX12_mark_30 : decode cX12_mark 30 = .ok (.iconst 1, 1) := by decide +kernel
theorem dX12_mark_31 : decode cX12_mark 31 = .ok (.bastore, 1) := by decide +kernel
theorem dX12_mark_32 : decode cX12_mark 32 = .ok (.iconst 0, 1) := by decide +kernel
theorem dX12_mark_33 : decode cX12_mark 33 = .ok (.istore_n 2, 1) := by decide +kernel
theorem dX12_mark_34 : decode cX12_mark 34 = .ok (.iload_n 2, 1) := by decide +kernel
theorem dX12_mark_35 : decode cX12_mark 35 = .ok (.aload_n 0, 1) := by decide +kernel
theorem dX12_mark_36 : decode cX12_mark 36 = .ok (.getfield 26, 3) := by decide +kernel
theorem dX12_mark_39 : decode cX12_mark 39 = .ok (.iload_n 1, 1) := by decide +kernel
theorem dX12_mark_40 : decode cX12_mark 40 = .ok (.iaload, 1) := by decide +kernel
theorem dX12_mark_41 : decode cX12_mark 41 = .ok (.if_icmp .ge 30, 3) := by decide +kernel
theorem dX12_mark_44 : decode cX12_mark 44 = .ok (.aload_n 0, 1) := by decide +kernel
theorem dX12_mark_45 : decode cX12_mark 45 = .ok (.getfield 39, 3) := by decide +kernel
theorem dX12_mark_48 : decode cX12_mark 48 = .ok (.aload_n 0, 1) := by decide +kernel
theorem dX12_mark_49 : decode cX12_mark 49 = .ok (.getfield 29, 3) := by decide +kernel
theorem dX12_mark_52 : decode cX12_mark 52 = .ok (.bipush 32, 2) := by decide +kernel
theorem dX12_mark_54 : decode cX12_mark 54 = .ok (.iload_n 1, 1) := by decide +kernel
theorem dX12_mark_55 : decode cX12_mark 55 = .ok (.imul, 1) := by decide +kernel
theorem dX12_mark_56 : decode cX12_mark 56 = .ok (.iconst 4, 1) := by decide +kernel
theorem dX12_mark_57 : decode cX12_mark 57 = .ok (.iload_n 2, 1) := by decide +kernel
theorem dX12_mark_58 : decode cX12_mark 58 = .ok (.imul, 1) := by decide +kernel
theorem dX12_mark_59 : decode cX12_mark 59 = .ok (.iadd, 1) := by decide +kernel
theorem dX12_mark_60 : decode cX12_mark 60 = .ok (.iconst 2, 1) := by decide +kernel
theorem dX12_mark_61 : decode cX12_mark 61 = .ok (.iadd, 1) := by decide +kernel
theorem dX12_mark_62 : decode cX12_mark 62 = .ok (.iaload, 1) := by decide +kernel
theorem dX12_mark_63 : decode cX12_mark 63 = .ok (.iconst 1, 1) := by decide +kernel
theorem dX12_mark_64 : decode cX12_mark 64 = .ok (.bastore, 1) := by decide +kernel
theorem dX12_mark_65 : decode cX12_mark 65 = .ok (.iinc 2 1, 3) := by decide +kernel
theorem dX12_mark_68 : decode cX12_mark 68 = .ok (.goto (-34), 3) := by decide +kernel
theorem dX12_mark_71 : decode cX12_mark 71 = .ok (.iconst 0, 1) := by decide +kernel
theorem dX12_mark_72 : decode cX12_mark 72 = .ok (.istore_n 2, 1) := by decide +kernel
theorem dX12_mark_73 : decode cX12_mark 73 = .ok (.iload_n 2, 1) := by decide +kernel
theorem dX12_mark_74 : decode cX12_mark 74 = .ok (.aload_n 0, 1) := by decide +kernel
theorem dX12_mark_75 : decode cX12_mark 75 = .ok (.getfield 23, 3) := by decide +kernel
theorem dX12_mark_78 : decode cX12_mark 78 = .ok (.iload_n 1, 1) := by decide +kernel
theorem dX12_mark_79 : decode cX12_mark 79 = .ok (.iaload, 1) := by decide +kernel
theorem dX12_mark_80 : decode cX12_mark 80 = .ok (.if_icmp .ge 72, 3) := by decide +kernel
theorem dX12_mark_83 : decode cX12_mark 83 = .ok (.aload_n 0, 1) := by decide +kernel
theorem dX12_mark_84 : decode cX12_mark 84 = .ok (.iload_n 1, 1) := by decide +kernel
theorem dX12_mark_85 : decode cX12_mark 85 = .ok (.iload_n 2, 1) := by decide +kernel
theorem dX12_mark_86 : decode cX12_mark 86 = .ok (.invokevirtual 201, 3) := by decide +kernel
theorem dX12_mark_89 : decode cX12_mark 89 = .ok (.istore_n 3, 1) := by decide +kernel
theorem dX12_mark_90 : decode cX12_mark 90 = .ok (.iload_n 2, 1) := by decide +kernel
theorem dX12_mark_91 : decode cX12_mark 91 = .ok (.iload_n 3, 1) := by decide +kernel
theorem dX12_mark_92 : decode cX12_mark 92 = .ok (.invokestatic 120, 3) := by decide +kernel
theorem dX12_mark_95 : decode cX12_mark 95 = .ok (.iadd, 1) := by decide +kernel
theorem dX12_mark_96 : decode cX12_mark 96 = .ok (.istore 4, 2) := by decide +kernel
theorem dX12_mark_98 : decode cX12_mark 98 = .ok (.iload_n 3, 1) := by decide +kernel
theorem dX12_mark_99 : decode cX12_mark 99 = .ok (.invokestatic 161, 3) := by decide +kernel
theorem dX12_mark_102 : decode cX12_mark 102 = .ok (.ifCond .eq 15, 3) := by decide +kernel
theorem dX12_mark_105 : decode cX12_mark 105 = .ok (.aload_n 0, 1) := by decide +kernel
theorem dX12_mark_106 : decode cX12_mark 106 = .ok (.getfield 39, 3) := by decide +kernel
theorem dX12_mark_109 : decode cX12_mark 109 = .ok (.aload_n 0, 1) := by decide +kernel
theorem dX12_mark_110 : decode cX12_mark 110 = .ok (.iload_n 1, 1) := by decide +kernel
theorem dX12_mark_111 : decode cX12_mark 111 = .ok (.iload_n 2, 1) := by decide +kernel
theorem dX12_mark_112 : decode cX12_mark 112 = .ok (.invokevirtual 204, 3) := by decide +kernel
theorem dX12_mark_115 : decode cX12_mark 115 = .ok (.iconst 1, 1) := by decide +kernel
theorem dX12_mark_116 : decode cX12_mark 116 = .ok (.bastore, 1) := by decide +kernel
theorem dX12_mark_117 : decode cX12_mark 117 = .ok (.iload_n 3, 1) := by decide +kernel
theorem dX12_mark_118 : decode cX12_mark 118 = .ok (.invokestatic 161, 3) := by decide +kernel
theorem dX12_mark_121 : decode cX12_mark 121 = .ok (.ifCond .ne 17, 3) := by decide +kernel
theorem dX12_mark_124 : decode cX12_mark 124 = .ok (.iload_n 3, 1) := by decide +kernel
theorem dX12_mark_125 : decode cX12_mark 125 = .ok (.sipush 172, 3) := by decide +kernel
theorem dX12_mark_128 : decode cX12_mark 128 = .ok (.if_icmp .eq 10, 3) := by decide +kernel
theorem dX12_mark_131 : decode cX12_mark 131 = .ok (.iload_n 3, 1) := by decide +kernel
theorem dX12_mark_132 : decode cX12_mark 132 = .ok (.sipush 191, 3) := by decide +kernel
theorem dX12_mark_135 : decode cX12_mark 135 = .ok (.if_icmp .ne 11, 3) := by decide +kernel
theorem dX12_mark_138 : decode cX12_mark 138 = .ok (.aload_n 0, 1) := by decide +kernel
theorem dX12_mark_139 : decode cX12_mark 139 = .ok (.getfield 39, 3) := by decide +kernel
theorem dX12_mark_142 : decode cX12_mark 142 = .ok (.iload 4, 2) := by decide +kernel
theorem dX12_mark_144 : decode cX12_mark 144 = .ok (.iconst 1, 1) := by decide +kernel
theorem dX12_mark_145 : decode cX12_mark 145 = .ok (.bastore, 1) := by decide +kernel
theorem dX12_mark_146 : decode cX12_mark 146 = .ok (.iload 4, 2) := by decide +kernel
theorem dX12_mark_148 : decode cX12_mark 148 = .ok (.istore_n 2, 1) := by decide +kernel
theorem dX12_mark_149 : decode cX12_mark 149 = .ok (.goto (-76), 3) := by decide +kernel
theorem dX12_mark_152 : decode cX12_mark 152 = .ok (.return_, 1) := by decide +kernel
abbrev wcX12_mark : List Cond := .code yX12_mark cX12_mark 5 none :: wsL_law
def lX12_mark_2 : Nat → Nat → Int32 → Int32 → hs_S → Option (hs_S)
  | 0, _, _, _, _ => none
  | n + 1, v0, v1, v2, g =>
    if hs_kd g v0 = 10 then
    if ¬ (hs_R g v0 7) = 0 then
    if hs_kd g ((hs_R g v0 7) - 1) = 100 then
    if hs_in v1 (hs_ln g ((hs_R g v0 7) - 1)) = true then
    if (hs_I g ((hs_R g v0 7) - 1) v1.toNatClampNeg) < v2 then (
      some g
    ) else (
      if ¬ (hs_R g v0 12) = 0 then
      if hs_kd g ((hs_R g v0 12) - 1) = 101 then
      if hs_in v2 (hs_ln g ((hs_R g v0 12) - 1)) = true then
      lX12_mark_2 n v0 v1 (v2 + (1 : Int32)) (hs_wI g ((hs_R g v0 12) - 1) v2.toNatClampNeg (0 : Int32))
      else none else none else none
    )
    else none else none else none else none
theorem lX12_mark_2_s (n : Nat) (v0 : Nat) (v1 : Int32) (v2 : Int32) (g : hs_S) : lX12_mark_2 (n + 1) v0 v1 v2 g =
    if hs_kd g v0 = 10 then
    if ¬ (hs_R g v0 7) = 0 then
    if hs_kd g ((hs_R g v0 7) - 1) = 100 then
    if hs_in v1 (hs_ln g ((hs_R g v0 7) - 1)) = true then
    if (hs_I g ((hs_R g v0 7) - 1) v1.toNatClampNeg) < v2 then (
      some g
    ) else (
      if ¬ (hs_R g v0 12) = 0 then
      if hs_kd g ((hs_R g v0 12) - 1) = 101 then
      if hs_in v2 (hs_ln g ((hs_R g v0 12) - 1)) = true then
      lX12_mark_2 n v0 v1 (v2 + (1 : Int32)) (hs_wI g ((hs_R g v0 12) - 1) v2.toNatClampNeg (0 : Int32))
      else none else none else none
    )
    else none else none else none else none := rfl
def lX12_mark_34 : Nat → Nat → Int32 → Int32 → hs_S → Option (hs_S)
  | 0, _, _, _, _ => none
  | n + 1, v0, v1, v2, g =>
    if hs_kd g v0 = 10 then
    if ¬ (hs_R g v0 8) = 0 then
    if hs_kd g ((hs_R g v0 8) - 1) = 100 then
    if hs_in v1 (hs_ln g ((hs_R g v0 8) - 1)) = true then
    if (hs_I g ((hs_R g v0 8) - 1) v1.toNatClampNeg) ≤ v2 then (
      some g
    ) else (
      if ¬ (hs_R g v0 12) = 0 then
      if ¬ (hs_R g v0 9) = 0 then
      if hs_kd g ((hs_R g v0 9) - 1) = 100 then
      if hs_in ((((32 : Int32) * v1) + ((4 : Int32) * v2)) + (2 : Int32)) (hs_ln g ((hs_R g v0 9) - 1)) = true then
      if hs_kd g ((hs_R g v0 12) - 1) = 101 then
      if hs_in (hs_I g ((hs_R g v0 9) - 1) ((((32 : Int32) * v1) + ((4 : Int32) * v2)) + (2 : Int32)).toNatClampNeg) (hs_ln g ((hs_R g v0 12) - 1)) = true then
      hs_bv (some (hs_wI g ((hs_R g v0 12) - 1) (hs_I g ((hs_R g v0 9) - 1) ((((32 : Int32) * v1) + ((4 : Int32) * v2)) + (2 : Int32)).toNatClampNeg).toNatClampNeg (1 : Int32))) fun g25 =>
      lX12_mark_34 n v0 v1 (v2 + (1 : Int32)) g25
      else none else none else none else none else none else none
    )
    else none else none else none else none
theorem lX12_mark_34_s (n : Nat) (v0 : Nat) (v1 : Int32) (v2 : Int32) (g : hs_S) : lX12_mark_34 (n + 1) v0 v1 v2 g =
    if hs_kd g v0 = 10 then
    if ¬ (hs_R g v0 8) = 0 then
    if hs_kd g ((hs_R g v0 8) - 1) = 100 then
    if hs_in v1 (hs_ln g ((hs_R g v0 8) - 1)) = true then
    if (hs_I g ((hs_R g v0 8) - 1) v1.toNatClampNeg) ≤ v2 then (
      some g
    ) else (
      if ¬ (hs_R g v0 12) = 0 then
      if ¬ (hs_R g v0 9) = 0 then
      if hs_kd g ((hs_R g v0 9) - 1) = 100 then
      if hs_in ((((32 : Int32) * v1) + ((4 : Int32) * v2)) + (2 : Int32)) (hs_ln g ((hs_R g v0 9) - 1)) = true then
      if hs_kd g ((hs_R g v0 12) - 1) = 101 then
      if hs_in (hs_I g ((hs_R g v0 9) - 1) ((((32 : Int32) * v1) + ((4 : Int32) * v2)) + (2 : Int32)).toNatClampNeg) (hs_ln g ((hs_R g v0 12) - 1)) = true then
      hs_bv (some (hs_wI g ((hs_R g v0 12) - 1) (hs_I g ((hs_R g v0 9) - 1) ((((32 : Int32) * v1) + ((4 : Int32) * v2)) + (2 : Int32)).toNatClampNeg).toNatClampNeg (1 : Int32))) fun g25 =>
      lX12_mark_34 n v0 v1 (v2 + (1 : Int32)) g25
      else none else none else none else none else none else none
    )
    else none else none else none else none := rfl
def jX12_mark_146 (rec : Int32 → hs_S → Option (hs_S)) (v0 : Nat) (v1 : Int32) (v4 : Int32) (g : hs_S) : Option (hs_S) :=
  rec v4 g
def jX12_mark_138 (rec : Int32 → hs_S → Option (hs_S)) (v0 : Nat) (v1 : Int32) (v4 : Int32) (g : hs_S) : Option (hs_S) :=
  if hs_kd g v0 = 10 then
  if ¬ (hs_R g v0 12) = 0 then
  if hs_kd g ((hs_R g v0 12) - 1) = 101 then
  if hs_in v4 (hs_ln g ((hs_R g v0 12) - 1)) = true then
  jX12_mark_146 rec v0 v1 v4 (hs_wI g ((hs_R g v0 12) - 1) v4.toNatClampNeg (1 : Int32))
  else none else none else none else none
def jX12_mark_117 (rec : Int32 → hs_S → Option (hs_S)) (v0 : Nat) (v1 : Int32) (v3 : Int32) (v4 : Int32) (g : hs_S) : Option (hs_S) :=
  hs_bd (fX12_isJump v3 g) fun r51 g50 =>
  if r51 = 0 then (
    if v3 = (172 : Int32) then (
      jX12_mark_138 rec v0 v1 v4 g50
    ) else (
      if v3 = (191 : Int32) then (
        jX12_mark_138 rec v0 v1 v4 g50
      ) else (
        jX12_mark_146 rec v0 v1 v4 g50
      )
    )
  ) else (
    jX12_mark_138 rec v0 v1 v4 g50
  )
def lX12_mark_73 : Nat → Nat → Int32 → Int32 → hs_S → Option (hs_S)
  | 0, _, _, _, _ => none
  | n + 1, v0, v1, v2, g =>
    if hs_kd g v0 = 10 then
    if ¬ (hs_R g v0 7) = 0 then
    if hs_kd g ((hs_R g v0 7) - 1) = 100 then
    if hs_in v1 (hs_ln g ((hs_R g v0 7) - 1)) = true then
    if (hs_I g ((hs_R g v0 7) - 1) v1.toNatClampNeg) ≤ v2 then (
      some g
    ) else (
      hs_bd (fX12_kindAt v0 v1 v2 g) fun r42 g41 =>
      hs_bd (fX12_size r42 g41) fun r45 g44 =>
      hs_bd (fX12_isJump r42 g44) fun r48 g47 =>
      if r48 = 0 then (
        jX12_mark_117 (fun y0 g => lX12_mark_73 n v0 v1 y0 g) v0 v1 r42 (v2 + r45) g47
      ) else (
        if hs_kd g47 v0 = 10 then
        if ¬ (hs_R g47 v0 12) = 0 then
        hs_bd (fX12_leads v0 v1 v2 g47) fun r60 g59 =>
        if hs_kd g59 ((hs_R g47 v0 12) - 1) = 101 then
        if hs_in r60 (hs_ln g59 ((hs_R g47 v0 12) - 1)) = true then
        jX12_mark_117 (fun y0 g => lX12_mark_73 n v0 v1 y0 g) v0 v1 r42 (v2 + r45) (hs_wI g59 ((hs_R g47 v0 12) - 1) r60.toNatClampNeg (1 : Int32))
        else none else none else none else none
      )
    )
    else none else none else none else none
theorem lX12_mark_73_s (n : Nat) (v0 : Nat) (v1 : Int32) (v2 : Int32) (g : hs_S) : lX12_mark_73 (n + 1) v0 v1 v2 g =
    if hs_kd g v0 = 10 then
    if ¬ (hs_R g v0 7) = 0 then
    if hs_kd g ((hs_R g v0 7) - 1) = 100 then
    if hs_in v1 (hs_ln g ((hs_R g v0 7) - 1)) = true then
    if (hs_I g ((hs_R g v0 7) - 1) v1.toNatClampNeg) ≤ v2 then (
      some g
    ) else (
      hs_bd (fX12_kindAt v0 v1 v2 g) fun r42 g41 =>
      hs_bd (fX12_size r42 g41) fun r45 g44 =>
      hs_bd (fX12_isJump r42 g44) fun r48 g47 =>
      if r48 = 0 then (
        jX12_mark_117 (fun y0 g => lX12_mark_73 n v0 v1 y0 g) v0 v1 r42 (v2 + r45) g47
      ) else (
        if hs_kd g47 v0 = 10 then
        if ¬ (hs_R g47 v0 12) = 0 then
        hs_bd (fX12_leads v0 v1 v2 g47) fun r60 g59 =>
        if hs_kd g59 ((hs_R g47 v0 12) - 1) = 101 then
        if hs_in r60 (hs_ln g59 ((hs_R g47 v0 12) - 1)) = true then
        jX12_mark_117 (fun y0 g => lX12_mark_73 n v0 v1 y0 g) v0 v1 r42 (v2 + r45) (hs_wI g59 ((hs_R g47 v0 12) - 1) r60.toNatClampNeg (1 : Int32))
        else none else none else none else none
      )
    )
    else none else none else none else none := rfl
def fX12_mark (v0 : Nat) (v1 : Int32) (g : hs_S) : Option (hs_S) :=
  hs_bv (lX12_mark_2 hs_N v0 v1 (0 : Int32) g) fun g9 =>
  if hs_kd g9 v0 = 10 then
  if ¬ (hs_R g9 v0 12) = 0 then
  if hs_kd g9 ((hs_R g9 v0 12) - 1) = 101 then
  if hs_in (0 : Int32) (hs_ln g9 ((hs_R g9 v0 12) - 1)) = true then
  hs_bv (lX12_mark_34 hs_N v0 v1 (0 : Int32) (hs_wI g9 ((hs_R g9 v0 12) - 1) (0 : Int32).toNatClampNeg (1 : Int32))) fun g35 =>
  hs_bv (lX12_mark_73 hs_N v0 v1 (0 : Int32) g35) fun g65 =>
  some g65
  else none else none else none else none
abbrev rmX12_mark : Room := { frames := 3, cells := 0, slots := 0, locals := 66 }
set_option maxHeartbeats 4000000 in
set_option maxRecDepth 100000 in
theorem wX12_mark_2 {p : Program} {l : Launch} {e : Env} {s : State} {m : MethodId} {args : Array Value} {below : List Frame} {meth : Method} {c : Code} {B : Nat} {D : va_G} {E : Nat → ClassId} (hX : hs_cx cX12_mark none 5 RX12 wcX12_mark p s m args meth c D E) {Q : State → Prop} {o : hs_S} {v0 : Nat} {v1 : Int32} (hex0 : ∀ (H : Heap) (locs : List Loc) (ls : Array Slot), hs_P B D E (o) H → hs_Sx B s.heap H locs → lv_has ls 5 [(0, .ref (B + v0)), (1, .int v1)] → W p l e rmX12_mark s m args below meth c H locs 0 0 Q (F0 m 25 ls [])) : ∀ (n : Nat) (v2 : Int32) (g : hs_S), lX12_mark_2 n v0 v1 v2 g = some o → ∀ (H : Heap) (locs : List Loc) (ls : Array Slot), hs_P B D E g H → hs_Sx B s.heap H locs → lv_has ls 5 [(0, .ref (B + v0)), (1, .int v1), (2, .int v2)] → W p l e rmX12_mark s m args below meth c H locs 0 0 Q (F0 m 2 ls []) := by
  obtain ⟨hx, hb, hr, hml, hown, hts, hlocks, hK⟩ := id hX
  intro n
  induction n with
  | zero =>
    intro v2 g hf
    cases hf
  | succ n ih =>
    intro v2 g hf H locs ls hP hS hl
    replace hf := (lX12_mark_2_s n v0 v1 v2 g).symm.trans hf
    refine lv_iload_n hx hb dX12_mark_2 rfl (lv_at hl 2 rfl) ?_
    refine lv_aload_n hx hb dX12_mark_3 rfl (lv_at hl 0 rfl) ?_
    obtain ⟨h1, hf⟩ := hs_ck hf
    obtain ⟨h2, hf⟩ := hs_ck hf
    refine hs_getr (C := RX12) (T := TX12) (N := 48) hx hb hts (fun w h => List.mem_cons_of_mem _ (inlX12 w h)) hown hK.1 hP h1 (by decide) rfl 7 (by decide) (hts _ (List.mem_cons_of_mem _ wq125)) (fun _ h => h) rfl h2 dX12_mark_4 ?_
    refine lv_iload_n hx hb dX12_mark_7 rfl (lv_at hl 1 rfl) ?_
    obtain ⟨h3, hf⟩ := hs_ck hf
    obtain ⟨h4, hf⟩ := hs_ck hf
    refine hs_iald hx hb hK.1 hP h3 h4 dX12_mark_8 ?_
    refine lv_icmp_gt (tgt := 25) hx hb dX12_mark_9 (by decide) (fun hc => ?_) (fun hc => ?_)
    · replace hf := hs_t hf hc
      obtain rfl := Option.some.inj hf
      exact hex0 _ _ _ hP hS (lv_sub hl [0, 1] rfl)
    · replace hf := hs_f hf hc
      refine lv_aload_n hx hb dX12_mark_12 rfl (lv_at hl 0 rfl) ?_
      obtain ⟨h5, hf⟩ := hs_ck hf
      refine hs_getr (C := RX12) (T := TX12) (N := 48) hx hb hts (fun w h => List.mem_cons_of_mem _ (inlX12 w h)) hown hK.1 hP h1 (by decide) rfl 12 (by decide) (hts _ (List.mem_cons_of_mem _ wq131)) (fun _ h => h) rfl h5 dX12_mark_13 ?_
      refine lv_iload_n hx hb dX12_mark_16 rfl (lv_at hl 2 rfl) ?_
      refine lv_iconst (v := 0) hx hb dX12_mark_17 (by decide) ?_
      obtain ⟨h6, hf⟩ := hs_ck hf
      obtain ⟨h7, hf⟩ := hs_ck hf
      refine hs_zast hx hb hK.1 hP hS h6 h7 (rfl) dX12_mark_18 (fun H locs hP hS => ?_)
      refine lv_iinc (v := (v2 + (1 : Int32))) (lv' := [(2, .int (v2 + (1 : Int32))), (0, .ref (B + v0)), (1, .int v1)]) hx hb dX12_mark_19 hl (k := 2) rfl (by rfl) (by decide) rfl (fun ls hl => ?_)
      refine lv_goto (tgt := 2) hx hb dX12_mark_22 (by decide) ?_
      exact ih _ _ hf _ _ _ hP hS (lv_sub hl [1, 2, 0] rfl)

set_option maxHeartbeats 4000000 in
set_option maxRecDepth 100000 in
theorem wX12_mark_34 {p : Program} {l : Launch} {e : Env} {s : State} {m : MethodId} {args : Array Value} {below : List Frame} {meth : Method} {c : Code} {B : Nat} {D : va_G} {E : Nat → ClassId} (hX : hs_cx cX12_mark none 5 RX12 wcX12_mark p s m args meth c D E) {Q : State → Prop} {o : hs_S} {v0 : Nat} {v1 : Int32} (hex0 : ∀ (H : Heap) (locs : List Loc) (ls : Array Slot), hs_P B D E (o) H → hs_Sx B s.heap H locs → lv_has ls 5 [(0, .ref (B + v0)), (1, .int v1)] → W p l e rmX12_mark s m args below meth c H locs 0 0 Q (F0 m 71 ls [])) : ∀ (n : Nat) (v2 : Int32) (g : hs_S), lX12_mark_34 n v0 v1 v2 g = some o → ∀ (H : Heap) (locs : List Loc) (ls : Array Slot), hs_P B D E g H → hs_Sx B s.heap H locs → lv_has ls 5 [(0, .ref (B + v0)), (1, .int v1), (2, .int v2)] → W p l e rmX12_mark s m args below meth c H locs 0 0 Q (F0 m 34 ls []) := by
  obtain ⟨hx, hb, hr, hml, hown, hts, hlocks, hK⟩ := id hX
  intro n
  induction n with
  | zero =>
    intro v2 g hf
    cases hf
  | succ n ih =>
    intro v2 g hf H locs ls hP hS hl
    replace hf := (lX12_mark_34_s n v0 v1 v2 g).symm.trans hf
    refine lv_iload_n hx hb dX12_mark_34 rfl (lv_at hl 2 rfl) ?_
    refine lv_aload_n hx hb dX12_mark_35 rfl (lv_at hl 0 rfl) ?_
    obtain ⟨h15, hf⟩ := hs_ck hf
    obtain ⟨h16, hf⟩ := hs_ck hf
    refine hs_getr (C := RX12) (T := TX12) (N := 48) hx hb hts (fun w h => List.mem_cons_of_mem _ (inlX12 w h)) hown hK.1 hP h15 (by decide) rfl 8 (by decide) (hts _ (List.mem_cons_of_mem _ wq126)) (fun _ h => h) rfl h16 dX12_mark_36 ?_
    refine lv_iload_n hx hb dX12_mark_39 rfl (lv_at hl 1 rfl) ?_
    obtain ⟨h17, hf⟩ := hs_ck hf
    obtain ⟨h18, hf⟩ := hs_ck hf
    refine hs_iald hx hb hK.1 hP h17 h18 dX12_mark_40 ?_
    refine lv_icmp_ge (tgt := 71) hx hb dX12_mark_41 (by decide) (fun hc => ?_) (fun hc => ?_)
    · replace hf := hs_t hf hc
      obtain rfl := Option.some.inj hf
      exact hex0 _ _ _ hP hS (lv_sub hl [0, 1] rfl)
    · replace hf := hs_f hf hc
      refine lv_aload_n hx hb dX12_mark_44 rfl (lv_at hl 0 rfl) ?_
      obtain ⟨h19, hf⟩ := hs_ck hf
      refine hs_getr (C := RX12) (T := TX12) (N := 48) hx hb hts (fun w h => List.mem_cons_of_mem _ (inlX12 w h)) hown hK.1 hP h15 (by decide) rfl 12 (by decide) (hts _ (List.mem_cons_of_mem _ wq131)) (fun _ h => h) rfl h19 dX12_mark_45 ?_
      refine lv_aload_n hx hb dX12_mark_48 rfl (lv_at hl 0 rfl) ?_
      obtain ⟨h20, hf⟩ := hs_ck hf
      refine hs_getr (C := RX12) (T := TX12) (N := 48) hx hb hts (fun w h => List.mem_cons_of_mem _ (inlX12 w h)) hown hK.1 hP h15 (by decide) rfl 9 (by decide) (hts _ (List.mem_cons_of_mem _ wq127)) (fun _ h => h) rfl h20 dX12_mark_49 ?_
      refine lv_bipush (v := 32) hx hb dX12_mark_52 (by decide) ?_
      refine lv_iload_n hx hb dX12_mark_54 rfl (lv_at hl 1 rfl) ?_
      refine lv_imul hx hb dX12_mark_55 ?_
      refine lv_iconst (v := 4) hx hb dX12_mark_56 (by decide) ?_
      refine lv_iload_n hx hb dX12_mark_57 rfl (lv_at hl 2 rfl) ?_
      refine lv_imul hx hb dX12_mark_58 ?_
      refine lv_iadd hx hb dX12_mark_59 ?_
      refine lv_iconst (v := 2) hx hb dX12_mark_60 (by decide) ?_
      refine lv_iadd hx hb dX12_mark_61 ?_
      obtain ⟨h21, hf⟩ := hs_ck hf
      obtain ⟨h22, hf⟩ := hs_ck hf
      refine hs_iald hx hb hK.1 hP h21 h22 dX12_mark_62 ?_
      refine lv_iconst (v := 1) hx hb dX12_mark_63 (by decide) ?_
      obtain ⟨h23, hf⟩ := hs_ck hf
      obtain ⟨h24, hf⟩ := hs_ck hf
      refine hs_zast hx hb hK.1 hP hS h23 h24 (rfl) dX12_mark_64 (fun H locs hP hS => ?_)
      obtain ⟨g25, e26, hf⟩ := hs_bv_some hf
      replace e26 := Option.some.inj e26
      rw [e26] at hP
      have h27 : hs_kd g25 v0 = 10 := by rw [← e26]; exact h15
      have h28 : hs_kd g25 ((hs_R g v0 8) - 1) = 100 := by rw [← e26]; exact h17
      have h29 : hs_in v1 (hs_ln g25 ((hs_R g v0 8) - 1)) = true := by rw [← e26]; exact h18
      have h30 : hs_kd g25 ((hs_R g v0 9) - 1) = 100 := by rw [← e26]; exact h21
      have h31 : hs_in ((((32 : Int32) * v1) + ((4 : Int32) * v2)) + (2 : Int32)) (hs_ln g25 ((hs_R g v0 9) - 1)) = true := by rw [← e26]; exact h22
      have h32 : hs_kd g25 ((hs_R g v0 12) - 1) = 101 := by rw [← e26]; exact h23
      have h33 : hs_in (hs_I g ((hs_R g v0 9) - 1) ((((32 : Int32) * v1) + ((4 : Int32) * v2)) + (2 : Int32)).toNatClampNeg) (hs_ln g25 ((hs_R g v0 12) - 1)) = true := by rw [← e26]; exact h24
      refine lv_iinc (v := (v2 + (1 : Int32))) (lv' := [(2, .int (v2 + (1 : Int32))), (0, .ref (B + v0)), (1, .int v1)]) hx hb dX12_mark_65 hl (k := 2) rfl (by rfl) (by decide) rfl (fun ls hl => ?_)
      refine lv_goto (tgt := 34) hx hb dX12_mark_68 (by decide) ?_
      exact ih _ _ hf _ _ _ hP hS (lv_sub hl [1, 2, 0] rfl)

set_option maxHeartbeats 4000000 in
set_option maxRecDepth 100000 in
theorem wX12_mark_j146 {p : Program} {l : Launch} {e : Env} {s : State} {m : MethodId} {args : Array Value} {below : List Frame} {meth : Method} {c : Code} {B : Nat} {D : va_G} {E : Nat → ClassId} (hX : hs_cx cX12_mark none 5 RX12 wcX12_mark p s m args meth c D E) {Q : State → Prop} {o : hs_S} {rec : Int32 → hs_S → Option (hs_S)} {v0 : Nat} {v1 : Int32} {v4 : Int32}  (hrec : ∀ (y0 : Int32) (g : hs_S) (H : Heap) (locs : List Loc) (ls : Array Slot), rec y0 g = some o → hs_P B D E g H → hs_Sx B s.heap H locs → lv_has ls 5 [(0, .ref (B + v0)), (1, .int v1), (2, .int y0)] → W p l e rmX12_mark s m args below meth c H locs 0 0 Q (F0 m 73 ls [])) (hex0 : ∀ (H : Heap) (locs : List Loc) (ls : Array Slot), hs_P B D E (o) H → hs_Sx B s.heap H locs → lv_has ls 5 [] → W p l e rmX12_mark s m args below meth c H locs 0 0 Q (F0 m 152 ls [])) {g : hs_S} {H : Heap} {locs : List Loc} {ls : Array Slot} (hf : jX12_mark_146 rec v0 v1 v4 g = some o) (hP : hs_P B D E g H) (hS : hs_Sx B s.heap H locs) (hl : lv_has ls 5 [(0, .ref (B + v0)), (1, .int v1), (4, .int v4)]) : W p l e rmX12_mark s m args below meth c H locs 0 0 Q (F0 m 146 ls []) := by
  obtain ⟨hx, hb, hr, hml, hown, hts, hlocks, hK⟩ := id hX
  unfold jX12_mark_146 at hf
  refine lv_iload hx hb dX12_mark_146 (lv_at hl 2 rfl) ?_
  refine lv_istore_n (lv' := [(2, .int v4), (0, .ref (B + v0)), (1, .int v1), (4, .int v4)]) hx hb dX12_mark_148 rfl hl (by decide) rfl (fun ls hl => ?_)
  refine lv_goto (tgt := 73) hx hb dX12_mark_149 (by decide) ?_
  exact hrec _ _ _ _ _ hf hP hS (lv_sub hl [1, 2, 0] rfl)

set_option maxHeartbeats 4000000 in
set_option maxRecDepth 100000 in
theorem wX12_mark_j138 {p : Program} {l : Launch} {e : Env} {s : State} {m : MethodId} {args : Array Value} {below : List Frame} {meth : Method} {c : Code} {B : Nat} {D : va_G} {E : Nat → ClassId} (hX : hs_cx cX12_mark none 5 RX12 wcX12_mark p s m args meth c D E) {Q : State → Prop} {o : hs_S} {rec : Int32 → hs_S → Option (hs_S)} {v0 : Nat} {v1 : Int32} {v4 : Int32}  (hrec : ∀ (y0 : Int32) (g : hs_S) (H : Heap) (locs : List Loc) (ls : Array Slot), rec y0 g = some o → hs_P B D E g H → hs_Sx B s.heap H locs → lv_has ls 5 [(0, .ref (B + v0)), (1, .int v1), (2, .int y0)] → W p l e rmX12_mark s m args below meth c H locs 0 0 Q (F0 m 73 ls [])) (hex0 : ∀ (H : Heap) (locs : List Loc) (ls : Array Slot), hs_P B D E (o) H → hs_Sx B s.heap H locs → lv_has ls 5 [] → W p l e rmX12_mark s m args below meth c H locs 0 0 Q (F0 m 152 ls [])) {g : hs_S} {H : Heap} {locs : List Loc} {ls : Array Slot} (hf : jX12_mark_138 rec v0 v1 v4 g = some o) (hP : hs_P B D E g H) (hS : hs_Sx B s.heap H locs) (hl : lv_has ls 5 [(0, .ref (B + v0)), (1, .int v1), (4, .int v4)]) : W p l e rmX12_mark s m args below meth c H locs 0 0 Q (F0 m 138 ls []) := by
  obtain ⟨hx, hb, hr, hml, hown, hts, hlocks, hK⟩ := id hX
  unfold jX12_mark_138 at hf
  refine lv_aload_n hx hb dX12_mark_138 rfl (lv_at hl 0 rfl) ?_
  obtain ⟨h53, hf⟩ := hs_ck hf
  obtain ⟨h54, hf⟩ := hs_ck hf
  refine hs_getr (C := RX12) (T := TX12) (N := 48) hx hb hts (fun w h => List.mem_cons_of_mem _ (inlX12 w h)) hown hK.1 hP h53 (by decide) rfl 12 (by decide) (hts _ (List.mem_cons_of_mem _ wq131)) (fun _ h => h) rfl h54 dX12_mark_139 ?_
  refine lv_iload hx hb dX12_mark_142 (lv_at hl 2 rfl) ?_
  refine lv_iconst (v := 1) hx hb dX12_mark_144 (by decide) ?_
  obtain ⟨h55, hf⟩ := hs_ck hf
  obtain ⟨h56, hf⟩ := hs_ck hf
  refine hs_zast hx hb hK.1 hP hS h55 h56 (rfl) dX12_mark_145 (fun H locs hP hS => ?_)
  exact wX12_mark_j146 hX hrec hex0 hf hP hS (lv_sub hl [0, 1, 2] rfl)

set_option maxHeartbeats 4000000 in
set_option maxRecDepth 100000 in
theorem wX12_mark_j117 {p : Program} {l : Launch} {e : Env} {s : State} {m : MethodId} {args : Array Value} {below : List Frame} {meth : Method} {c : Code} {B : Nat} {D : va_G} {E : Nat → ClassId} (hX : hs_cx cX12_mark none 5 RX12 wcX12_mark p s m args meth c D E) {Q : State → Prop} {o : hs_S} {rec : Int32 → hs_S → Option (hs_S)} {v0 : Nat} {v1 : Int32} {v3 : Int32} {v4 : Int32}  (hrec : ∀ (y0 : Int32) (g : hs_S) (H : Heap) (locs : List Loc) (ls : Array Slot), rec y0 g = some o → hs_P B D E g H → hs_Sx B s.heap H locs → lv_has ls 5 [(0, .ref (B + v0)), (1, .int v1), (2, .int y0)] → W p l e rmX12_mark s m args below meth c H locs 0 0 Q (F0 m 73 ls [])) (hex0 : ∀ (H : Heap) (locs : List Loc) (ls : Array Slot), hs_P B D E (o) H → hs_Sx B s.heap H locs → lv_has ls 5 [] → W p l e rmX12_mark s m args below meth c H locs 0 0 Q (F0 m 152 ls [])) {g : hs_S} {H : Heap} {locs : List Loc} {ls : Array Slot} (hf : jX12_mark_117 rec v0 v1 v3 v4 g = some o) (hP : hs_P B D E g H) (hS : hs_Sx B s.heap H locs) (hl : lv_has ls 5 [(0, .ref (B + v0)), (1, .int v1), (3, .int v3), (4, .int v4)]) : W p l e rmX12_mark s m args below meth c H locs 0 0 Q (F0 m 117 ls []) := by
  obtain ⟨hx, hb, hr, hml, hown, hts, hlocks, hK⟩ := id hX
  unfold jX12_mark_117 at hf
  refine lv_iload_n hx hb dX12_mark_117 rfl (lv_at hl 2 rfl) ?_
  obtain ⟨r51, g50, h52, hf⟩ := hs_bd_some hf
  refine hs_calli (va_runS (As := [.int v3]) (rest := []) ⟨hx, hb, hml, hown, hts⟩ (ctX12_isJump l B D E v3 g _ h52) (va_cwS 1 hts (hs_gS (fun _ h => List.mem_cons_of_mem _ h) wq430 wq431 wq5 wq432) rfl rfl rfl (by decide +kernel) ⟨Nat.le_of_ble_eq_true rfl, Nat.le_of_ble_eq_true rfl⟩) (hs_pre hP hK) rfl rfl hl.1 rfl (lv_room (Nat.le_of_ble_eq_true rfl)) dX12_mark_118 ⟨(Nat.le_of_ble_eq_true rfl), (Nat.le_of_ble_eq_true rfl)⟩) hS (fun H locs hP hS => ?_)
  refine lv_if_ne (tgt := 138) hx hb dX12_mark_121 (by decide) (fun hc => ?_) (fun hc => ?_)
  · replace hf := hs_f hf hc
    exact wX12_mark_j138 hX hrec hex0 hf hP hS (lv_sub hl [0, 1, 3] rfl)
  · replace hf := hs_t hf hc
    refine lv_iload_n hx hb dX12_mark_124 rfl (lv_at hl 2 rfl) ?_
    refine lv_sipush (v := 172) hx hb dX12_mark_125 (by decide) ?_
    refine lv_icmp_eq (tgt := 138) hx hb dX12_mark_128 (by decide) (fun hc => ?_) (fun hc => ?_)
    · replace hf := hs_t hf hc
      exact wX12_mark_j138 hX hrec hex0 hf hP hS (lv_sub hl [0, 1, 3] rfl)
    · replace hf := hs_f hf hc
      refine lv_iload_n hx hb dX12_mark_131 rfl (lv_at hl 2 rfl) ?_
      refine lv_sipush (v := 191) hx hb dX12_mark_132 (by decide) ?_
      refine lv_icmp_ne (tgt := 146) hx hb dX12_mark_135 (by decide) (fun hc => ?_) (fun hc => ?_)
      · replace hf := hs_f hf hc
        exact wX12_mark_j146 hX hrec hex0 hf hP hS (lv_sub hl [0, 1, 3] rfl)
      · replace hf := hs_t hf hc
        exact wX12_mark_j138 hX hrec hex0 hf hP hS (lv_sub hl [0, 1, 3] rfl)

set_option maxHeartbeats 4000000 in
set_option maxRecDepth 100000 in
theorem wX12_mark_73 {p : Program} {l : Launch} {e : Env} {s : State} {m : MethodId} {args : Array Value} {below : List Frame} {meth : Method} {c : Code} {B : Nat} {D : va_G} {E : Nat → ClassId} (hX : hs_cx cX12_mark none 5 RX12 wcX12_mark p s m args meth c D E) {Q : State → Prop} {o : hs_S} {v0 : Nat} {v1 : Int32} (hex0 : ∀ (H : Heap) (locs : List Loc) (ls : Array Slot), hs_P B D E (o) H → hs_Sx B s.heap H locs → lv_has ls 5 [] → W p l e rmX12_mark s m args below meth c H locs 0 0 Q (F0 m 152 ls [])) : ∀ (n : Nat) (v2 : Int32) (g : hs_S), lX12_mark_73 n v0 v1 v2 g = some o → ∀ (H : Heap) (locs : List Loc) (ls : Array Slot), hs_P B D E g H → hs_Sx B s.heap H locs → lv_has ls 5 [(0, .ref (B + v0)), (1, .int v1), (2, .int v2)] → W p l e rmX12_mark s m args below meth c H locs 0 0 Q (F0 m 73 ls []) := by
  obtain ⟨hx, hb, hr, hml, hown, hts, hlocks, hK⟩ := id hX
  intro n
  induction n with
  | zero =>
    intro v2 g hf
    cases hf
  | succ n ih =>
    intro v2 g hf H locs ls hP hS hl
    replace hf := (lX12_mark_73_s n v0 v1 v2 g).symm.trans hf
    refine lv_iload_n hx hb dX12_mark_73 rfl (lv_at hl 2 rfl) ?_
    refine lv_aload_n hx hb dX12_mark_74 rfl (lv_at hl 0 rfl) ?_
    obtain ⟨h37, hf⟩ := hs_ck hf
    obtain ⟨h38, hf⟩ := hs_ck hf
    refine hs_getr (C := RX12) (T := TX12) (N := 48) hx hb hts (fun w h => List.mem_cons_of_mem _ (inlX12 w h)) hown hK.1 hP h37 (by decide) rfl 7 (by decide) (hts _ (List.mem_cons_of_mem _ wq125)) (fun _ h => h) rfl h38 dX12_mark_75 ?_
    refine lv_iload_n hx hb dX12_mark_78 rfl (lv_at hl 1 rfl) ?_
    obtain ⟨h39, hf⟩ := hs_ck hf
    obtain ⟨h40, hf⟩ := hs_ck hf
    refine hs_iald hx hb hK.1 hP h39 h40 dX12_mark_79 ?_
    refine lv_icmp_ge (tgt := 152) hx hb dX12_mark_80 (by decide) (fun hc => ?_) (fun hc => ?_)
    · replace hf := hs_t hf hc
      obtain rfl := Option.some.inj hf
      exact hex0 _ _ _ hP hS (lv_sub hl [] rfl)
    · replace hf := hs_f hf hc
      refine lv_aload_n hx hb dX12_mark_83 rfl (lv_at hl 0 rfl) ?_
      refine lv_iload_n hx hb dX12_mark_84 rfl (lv_at hl 1 rfl) ?_
      refine lv_iload_n hx hb dX12_mark_85 rfl (lv_at hl 2 rfl) ?_
      obtain ⟨r42, g41, h43, hf⟩ := hs_bd_some hf
      refine hs_calli (va_runV (As := [.int v1, .int v2]) (rest := []) ⟨hx, hb, hml, hown, hts⟩ (ctX12_kindAt l B D E v0 v1 v2 g _ h43) (cwV 2 hts (hs_gV (fun _ h => List.mem_cons_of_mem _ h) wq604 wq605 wq606 wq5 wq607) rfl rfl rfl (by decide +kernel) ⟨Nat.le_of_ble_eq_true rfl, Nat.le_of_ble_eq_true rfl⟩) (hs_preV (r := (RX12, TX12, 48)) hP hK h37 (by decide) rfl) rfl rfl hl.1 rfl (lv_room (Nat.le_of_ble_eq_true rfl)) dX12_mark_86 ⟨(Nat.le_of_ble_eq_true rfl), (Nat.le_of_ble_eq_true rfl)⟩) hS (fun H locs hP hS => ?_)
      refine lv_istore_n (lv' := [(3, .int r42), (0, .ref (B + v0)), (1, .int v1), (2, .int v2)]) hx hb dX12_mark_89 rfl hl (by decide) rfl (fun ls hl => ?_)
      refine lv_iload_n hx hb dX12_mark_90 rfl (lv_at hl 3 rfl) ?_
      refine lv_iload_n hx hb dX12_mark_91 rfl (lv_at hl 0 rfl) ?_
      obtain ⟨r45, g44, h46, hf⟩ := hs_bd_some hf
      refine hs_calli (va_runS (As := [.int r42]) (rest := [.int v2]) ⟨hx, hb, hml, hown, hts⟩ (ctX12_size l B D E r42 g41 _ h46) (va_cwS 1 hts (hs_gS (fun _ h => List.mem_cons_of_mem _ h) wq423 wq424 wq5 wq425) rfl rfl rfl (by decide +kernel) ⟨Nat.le_of_ble_eq_true rfl, Nat.le_of_ble_eq_true rfl⟩) (hs_pre hP hK) rfl rfl hl.1 rfl (lv_room (Nat.le_of_ble_eq_true rfl)) dX12_mark_92 ⟨(Nat.le_of_ble_eq_true rfl), (Nat.le_of_ble_eq_true rfl)⟩) hS (fun H locs hP hS => ?_)
      refine lv_iadd hx hb dX12_mark_95 ?_
      refine lv_istore (lv' := [(4, .int (v2 + r45)), (3, .int r42), (0, .ref (B + v0)), (1, .int v1), (2, .int v2)]) hx hb dX12_mark_96 hl (by decide) rfl (fun ls hl => ?_)
      refine lv_iload_n hx hb dX12_mark_98 rfl (lv_at hl 1 rfl) ?_
      obtain ⟨r48, g47, h49, hf⟩ := hs_bd_some hf
      refine hs_calli (va_runS (As := [.int r42]) (rest := []) ⟨hx, hb, hml, hown, hts⟩ (ctX12_isJump l B D E r42 g44 _ h49) (va_cwS 1 hts (hs_gS (fun _ h => List.mem_cons_of_mem _ h) wq430 wq431 wq5 wq432) rfl rfl rfl (by decide +kernel) ⟨Nat.le_of_ble_eq_true rfl, Nat.le_of_ble_eq_true rfl⟩) (hs_pre hP hK) rfl rfl hl.1 rfl (lv_room (Nat.le_of_ble_eq_true rfl)) dX12_mark_99 ⟨(Nat.le_of_ble_eq_true rfl), (Nat.le_of_ble_eq_true rfl)⟩) hS (fun H locs hP hS => ?_)
      refine lv_if_eq (tgt := 117) hx hb dX12_mark_102 (by decide) (fun hc => ?_) (fun hc => ?_)
      · replace hf := hs_t hf hc
        exact wX12_mark_j117 hX (fun z0 g H locs ls hf hP hS hl => ih z0 g hf H locs ls hP hS hl) hex0 hf hP hS (lv_sub hl [2, 3, 1, 0] rfl)
      · replace hf := hs_f hf hc
        refine lv_aload_n hx hb dX12_mark_105 rfl (lv_at hl 2 rfl) ?_
        obtain ⟨h57, hf⟩ := hs_ck hf
        obtain ⟨h58, hf⟩ := hs_ck hf
        refine hs_getr (C := RX12) (T := TX12) (N := 48) hx hb hts (fun w h => List.mem_cons_of_mem _ (inlX12 w h)) hown hK.1 hP h57 (by decide) rfl 12 (by decide) (hts _ (List.mem_cons_of_mem _ wq131)) (fun _ h => h) rfl h58 dX12_mark_106 ?_
        refine lv_aload_n hx hb dX12_mark_109 rfl (lv_at hl 2 rfl) ?_
        refine lv_iload_n hx hb dX12_mark_110 rfl (lv_at hl 3 rfl) ?_
        refine lv_iload_n hx hb dX12_mark_111 rfl (lv_at hl 4 rfl) ?_
        obtain ⟨r60, g59, h61, hf⟩ := hs_bd_some hf
        refine hs_calli (va_runV (As := [.int v1, .int v2]) (rest := [.ref (B + ((hs_R g47 v0 12) - 1))]) ⟨hx, hb, hml, hown, hts⟩ (ctX12_leads l B D E v0 v1 v2 g47 _ h61) (cwV 2 hts (hs_gV (fun _ h => List.mem_cons_of_mem _ h) wq608 wq609 wq610 wq5 wq611) rfl rfl rfl (by decide +kernel) ⟨Nat.le_of_ble_eq_true rfl, Nat.le_of_ble_eq_true rfl⟩) (hs_preV (r := (RX12, TX12, 48)) hP hK h57 (by decide) rfl) rfl rfl hl.1 rfl (lv_room (Nat.le_of_ble_eq_true rfl)) dX12_mark_112 ⟨(Nat.le_of_ble_eq_true rfl), (Nat.le_of_ble_eq_true rfl)⟩) hS (fun H locs hP hS => ?_)
        refine lv_iconst (v := 1) hx hb dX12_mark_115 (by decide) ?_
        obtain ⟨h62, hf⟩ := hs_ck hf
        obtain ⟨h63, hf⟩ := hs_ck hf
        refine hs_zast hx hb hK.1 hP hS h62 h63 (rfl) dX12_mark_116 (fun H locs hP hS => ?_)
        exact wX12_mark_j117 hX (fun z0 g H locs ls hf hP hS hl => ih z0 g hf H locs ls hP hS hl) hex0 hf hP hS (lv_sub hl [2, 3, 1, 0] rfl)

set_option maxHeartbeats 4000000 in
set_option maxRecDepth 100000 in
theorem ctX12_mark (l : Launch) (B : Nat) (D : va_G) (E : Nat → ClassId) (v0 : Nat) (v1 : Int32) (g : hs_S) (o : hs_S) (hf : fX12_mark v0 v1 g = some o) : Met l yX12_mark wcX12_mark rmX12_mark (hs_Pc B D E g [.ref (B + v0), .int v1]) (hs_Qv B D E o) (0) (0) (hs_F B) := by
  refine Met.ofW (cc := cX12_mark) (maxL := 5) (ret := none) (by decide) rfl ?_
  intro p e s m args below meth c s₁ Bd hml hv
  obtain ⟨rfl, hP, hK⟩ := hv
  have hx := Bd.exec
  have hb := Bd.bytes
  have hr := Bd.returns
  have hts := atoms_spec (ws := wcX12_mark) Bd.pre
  have hown : s.vm.findClass RX12 = some m.cls := findClass_of_methodNamed Bd.named
  have hlocks := Bd.notSynchronized
  have hS : hs_Sx B s.heap s.heap [] := va_S.rf
  have hX : hs_cx cX12_mark none 5 RX12 wcX12_mark p s m (List.toArray [.ref (B + v0), .int v1]) meth c D E := ⟨hx, hb, hr, hml, hown, hts, hlocks, hK⟩
  have hl := lv_entry ([.ref (B + v0), .int v1]) (n := 5) (Nat.le_of_ble_eq_true rfl)
  rw [lg_entry_eq]
  generalize (lg_sl ([.ref (B + v0), .int v1]) ++ List.replicate (5 - (lg_sl ([.ref (B + v0), .int v1])).length) Slot.unset).toArray = ls at hl ⊢
  have hl : lv_has ls 5 [(0, .ref (B + v0)), (1, .int v1)] := hl
  have hP : hs_P B D E g s.heap := hP
  unfold fX12_mark at hf
  refine lv_iconst (v := 0) hx hb dX12_mark_0 (by decide) ?_
  refine lv_istore_n (lv' := [(2, .int (0 : Int32)), (0, .ref (B + v0)), (1, .int v1)]) hx hb dX12_mark_1 rfl hl (by decide) rfl (fun ls hl => ?_)
  obtain ⟨g9, h10, hf⟩ := hs_bv_some hf
  refine wX12_mark_2 hX (fun H locs ls hP hS hl => ?_) hs_N _ _ h10 _ _ _ hP hS (lv_sub hl [1, 2, 0] rfl)
  refine lv_aload_n hx hb dX12_mark_25 rfl (lv_at hl 0 rfl) ?_
  obtain ⟨h11, hf⟩ := hs_ck hf
  obtain ⟨h12, hf⟩ := hs_ck hf
  refine hs_getr (C := RX12) (T := TX12) (N := 48) hx hb hts (fun w h => List.mem_cons_of_mem _ (inlX12 w h)) hown hK.1 hP h11 (by decide) rfl 12 (by decide) (hts _ (List.mem_cons_of_mem _ wq131)) (fun _ h => h) rfl h12 dX12_mark_26 ?_
  refine lv_iconst (v := 0) hx hb dX12_mark_29 (by decide) ?_
  refine lv_iconst (v := 1) hx hb dX12_mark_30 (by decide) ?_
  obtain ⟨h13, hf⟩ := hs_ck hf
  obtain ⟨h14, hf⟩ := hs_ck hf
  refine hs_zast hx hb hK.1 hP hS h13 h14 (rfl) dX12_mark_31 (fun H locs hP hS => ?_)
  refine lv_iconst (v := 0) hx hb dX12_mark_32 (by decide) ?_
  refine lv_istore_n (lv' := [(2, .int (0 : Int32)), (0, .ref (B + v0)), (1, .int v1)]) hx hb dX12_mark_33 rfl hl (by decide) rfl (fun ls hl => ?_)
  obtain ⟨g35, h36, hf⟩ := hs_bv_some hf
  refine wX12_mark_34 hX (fun H locs ls hP hS hl => ?_) hs_N _ _ h36 _ _ _ hP hS (lv_sub hl [1, 2, 0] rfl)
  refine lv_iconst (v := 0) hx hb dX12_mark_71 (by decide) ?_
  refine lv_istore_n (lv' := [(2, .int (0 : Int32)), (0, .ref (B + v0)), (1, .int v1)]) hx hb dX12_mark_72 rfl hl (by decide) rfl (fun ls hl => ?_)
  obtain ⟨g65, h66, hf⟩ := hs_bv_some hf
  refine wX12_mark_73 hX (fun H locs ls hP hS hl => ?_) hs_N _ _ h66 _ _ _ hP hS (lv_sub hl [1, 2, 0] rfl)
  exact hs_vret hx hb hr hlocks hK hP hS hf dX12_mark_152

theorem dX12_sum_0 : decode cX12_sum 0 = .ok (.iconst 0, 1) := by decide +kernel
theorem dX12_sum_1 : decode cX12_sum 1 = .ok (.istore_n 3, 1) := by decide +kernel
theorem dX12_sum_2 : decode cX12_sum 2 = .ok (.iload_n 2, 1) := by decide +kernel
theorem dX12_sum_3 : decode cX12_sum 3 = .ok (.istore 4, 2) := by decide +kernel
theorem dX12_sum_5 : decode cX12_sum 5 = .ok (.iload_n 3, 1) := by decide +kernel
theorem dX12_sum_6 : decode cX12_sum 6 = .ok (.aload_n 0, 1) := by decide +kernel
theorem dX12_sum_7 : decode cX12_sum 7 = .ok (.getfield 93, 3) := by decide +kernel
theorem dX12_sum_10 : decode cX12_sum 10 = .ok (.aload_n 0, 1) := by decide +kernel
theorem dX12_sum_11 : decode cX12_sum 11 = .ok (.iload_n 1, 1) := by decide +kernel
theorem dX12_sum_12 : decode cX12_sum 12 = .ok (.iload 4, 2) := by decide +kernel
theorem dX12_sum_14 : decode cX12_sum 14 = .ok (.invokevirtual 201, 3) := by decide +kernel
theorem dX12_sum_17 : decode cX12_sum 17 = .ok (.iaload, 1) := by decide +kernel
theorem dX12_sum_18 : decode cX12_sum 18 = .ok (.iadd, 1) := by decide +kernel
theorem dX12_sum_19 : decode cX12_sum 19 = .ok (.istore_n 3, 1) := by decide +kernel
theorem dX12_sum_20 : decode cX12_sum 20 = .ok (.iload 4, 2) := by decide +kernel
theorem dX12_sum_22 : decode cX12_sum 22 = .ok (.aload_n 0, 1) := by decide +kernel
theorem dX12_sum_23 : decode cX12_sum 23 = .ok (.iload_n 1, 1) := by decide +kernel
theorem dX12_sum_24 : decode cX12_sum 24 = .ok (.iload 4, 2) := by decide +kernel
theorem dX12_sum_26 : decode cX12_sum 26 = .ok (.invokevirtual 201, 3) := by decide +kernel
theorem dX12_sum_29 : decode cX12_sum 29 = .ok (.invokestatic 120, 3) := by decide +kernel
theorem dX12_sum_32 : decode cX12_sum 32 = .ok (.iadd, 1) := by decide +kernel
theorem dX12_sum_33 : decode cX12_sum 33 = .ok (.istore 4, 2) := by decide +kernel
theorem dX12_sum_35 : decode cX12_sum 35 = .ok (.iload 4, 2) := by decide +kernel
theorem dX12_sum_37 : decode cX12_sum 37 = .ok (.aload_n 0, 1) := by decide +kernel
theorem dX12_sum_38 : decode cX12_sum 38 = .ok (.getfield 23, 3) := by decide +kernel
theorem dX12_sum_41 : decode cX12_sum 41 = .ok (.iload_n 1, 1) := by decide +kernel
theorem dX12_sum_42 : decode cX12_sum 42 = .ok (.iaload, 1) := by decide +kernel
theorem dX12_sum_43 : decode cX12_sum 43 = .ok (.if_icmp .ge 13, 3) := by decide +kernel
theorem dX12_sum_46 : decode cX12_sum 46 = .ok (.aload_n 0, 1) := by decide +kernel
theorem dX12_sum_47 : decode cX12_sum 47 = .ok (.getfield 39, 3) := by decide +kernel
theorem dX12_sum_50 : decode cX12_sum 50 = .ok (.iload 4, 2) := by decide +kernel
theorem dX12_sum_52 : decode cX12_sum 52 = .ok (.baload, 1) := by decide +kernel
theorem dX12_sum_53 : decode cX12_sum 53 = .ok (.ifCond .eq (-48), 3) := by decide +kernel
theorem dX12_sum_56 : decode cX12_sum 56 = .ok (.iload_n 3, 1) := by decide +kernel
theorem dX12_sum_57 : decode cX12_sum 57 = .ok (.ireturn, 1) := by decide +kernel
abbrev wcX12_sum : List Cond := .code yX12_sum cX12_sum 5 (some .int) :: wsL_law
def lX12_sum_5 : Nat → Nat → Int32 → Int32 → Int32 → hs_S → Option (Int32 × hs_S)
  | 0, _, _, _, _, _ => none
  | n + 1, v0, v1, v3, v4, g =>
    if hs_kd g v0 = 10 then
    if ¬ (hs_R g v0 32) = 0 then
    hs_bd (fX12_kindAt v0 v1 v4 g) fun r4 g3 =>
    if hs_kd g3 ((hs_R g v0 32) - 1) = 100 then
    if hs_in r4 (hs_ln g3 ((hs_R g v0 32) - 1)) = true then
    if hs_kd g3 v0 = 10 then
    hs_bd (fX12_kindAt v0 v1 v4 g3) fun r10 g9 =>
    hs_bd (fX12_size r10 g9) fun r13 g12 =>
    if hs_kd g12 v0 = 10 then
    if ¬ (hs_R g12 v0 7) = 0 then
    if hs_kd g12 ((hs_R g12 v0 7) - 1) = 100 then
    if hs_in v1 (hs_ln g12 ((hs_R g12 v0 7) - 1)) = true then
    if (hs_I g12 ((hs_R g12 v0 7) - 1) v1.toNatClampNeg) ≤ (v4 + r13) then (
      some ((v3 + (hs_I g3 ((hs_R g v0 32) - 1) r4.toNatClampNeg)), g12)
    ) else (
      if ¬ (hs_R g12 v0 12) = 0 then
      if hs_kd g12 ((hs_R g12 v0 12) - 1) = 101 then
      if hs_in (v4 + r13) (hs_ln g12 ((hs_R g12 v0 12) - 1)) = true then
      if (hs_I g12 ((hs_R g12 v0 12) - 1) (v4 + r13).toNatClampNeg) = 0 then (
        lX12_sum_5 n v0 v1 (v3 + (hs_I g3 ((hs_R g v0 32) - 1) r4.toNatClampNeg)) (v4 + r13) g12
      ) else (
        some ((v3 + (hs_I g3 ((hs_R g v0 32) - 1) r4.toNatClampNeg)), g12)
      )
      else none else none else none
    )
    else none else none else none else none else none else none else none else none else none
theorem lX12_sum_5_s (n : Nat) (v0 : Nat) (v1 : Int32) (v3 : Int32) (v4 : Int32) (g : hs_S) : lX12_sum_5 (n + 1) v0 v1 v3 v4 g =
    if hs_kd g v0 = 10 then
    if ¬ (hs_R g v0 32) = 0 then
    hs_bd (fX12_kindAt v0 v1 v4 g) fun r4 g3 =>
    if hs_kd g3 ((hs_R g v0 32) - 1) = 100 then
    if hs_in r4 (hs_ln g3 ((hs_R g v0 32) - 1)) = true then
    if hs_kd g3 v0 = 10 then
    hs_bd (fX12_kindAt v0 v1 v4 g3) fun r10 g9 =>
    hs_bd (fX12_size r10 g9) fun r13 g12 =>
    if hs_kd g12 v0 = 10 then
    if ¬ (hs_R g12 v0 7) = 0 then
    if hs_kd g12 ((hs_R g12 v0 7) - 1) = 100 then
    if hs_in v1 (hs_ln g12 ((hs_R g12 v0 7) - 1)) = true then
    if (hs_I g12 ((hs_R g12 v0 7) - 1) v1.toNatClampNeg) ≤ (v4 + r13) then (
      some ((v3 + (hs_I g3 ((hs_R g v0 32) - 1) r4.toNatClampNeg)), g12)
    ) else (
      if ¬ (hs_R g12 v0 12) = 0 then
      if hs_kd g12 ((hs_R g12 v0 12) - 1) = 101 then
      if hs_in (v4 + r13) (hs_ln g12 ((hs_R g12 v0 12) - 1)) = true then
      if (hs_I g12 ((hs_R g12 v0 12) - 1) (v4 + r13).toNatClampNeg) = 0 then (
        lX12_sum_5 n v0 v1 (v3 + (hs_I g3 ((hs_R g v0 32) - 1) r4.toNatClampNeg)) (v4 + r13) g12
      ) else (
        some ((v3 + (hs_I g3 ((hs_R g v0 32) - 1) r4.toNatClampNeg)), g12)
      )
      else none else none else none
    )
    else none else none else none else none else none else none else none else none else none := rfl
def fX12_sum (v0 : Nat) (v1 : Int32) (v2 : Int32) (g : hs_S) : Option (Int32 × hs_S) :=
  hs_bd (lX12_sum_5 hs_N v0 v1 (0 : Int32) v2 g) fun x22 g24 =>
  some (x22, g24)
abbrev rmX12_sum : Room := { frames := 1, cells := 0, slots := 0, locals := 22 }
set_option maxHeartbeats 4000000 in
set_option maxRecDepth 100000 in
theorem wX12_sum_5 {p : Program} {l : Launch} {e : Env} {s : State} {m : MethodId} {args : Array Value} {below : List Frame} {meth : Method} {c : Code} {B : Nat} {D : va_G} {E : Nat → ClassId} (hX : hs_cx cX12_sum (some .int) 5 RX12 wcX12_sum p s m args meth c D E) {Q : State → Prop} {o : Int32 × hs_S} {v0 : Nat} {v1 : Int32} (hex0 : ∀ (H : Heap) (locs : List Loc) (ls : Array Slot), hs_P B D E (o.2) H → hs_Sx B s.heap H locs → lv_has ls 5 [(3, .int (o.1))] → W p l e rmX12_sum s m args below meth c H locs 0 0 Q (F0 m 56 ls [])) : ∀ (n : Nat) (v3 : Int32) (v4 : Int32) (g : hs_S), lX12_sum_5 n v0 v1 v3 v4 g = some o → ∀ (H : Heap) (locs : List Loc) (ls : Array Slot), hs_P B D E g H → hs_Sx B s.heap H locs → lv_has ls 5 [(0, .ref (B + v0)), (1, .int v1), (3, .int v3), (4, .int v4)] → W p l e rmX12_sum s m args below meth c H locs 0 0 Q (F0 m 5 ls []) := by
  obtain ⟨hx, hb, hr, hml, hown, hts, hlocks, hK⟩ := id hX
  intro n
  induction n with
  | zero =>
    intro v3 v4 g hf
    cases hf
  | succ n ih =>
    intro v3 v4 g hf H locs ls hP hS hl
    replace hf := (lX12_sum_5_s n v0 v1 v3 v4 g).symm.trans hf
    refine lv_iload_n hx hb dX12_sum_5 rfl (lv_at hl 2 rfl) ?_
    refine lv_aload_n hx hb dX12_sum_6 rfl (lv_at hl 0 rfl) ?_
    obtain ⟨h1, hf⟩ := hs_ck hf
    obtain ⟨h2, hf⟩ := hs_ck hf
    refine hs_getr (C := RX12) (T := TX12) (N := 48) hx hb hts (fun w h => List.mem_cons_of_mem _ (inlX12 w h)) hown hK.1 hP h1 (by decide) rfl 32 (by decide) (hts _ (List.mem_cons_of_mem _ wq149)) (fun _ h => h) rfl h2 dX12_sum_7 ?_
    refine lv_aload_n hx hb dX12_sum_10 rfl (lv_at hl 0 rfl) ?_
    refine lv_iload_n hx hb dX12_sum_11 rfl (lv_at hl 1 rfl) ?_
    refine lv_iload hx hb dX12_sum_12 (lv_at hl 3 rfl) ?_
    obtain ⟨r4, g3, h5, hf⟩ := hs_bd_some hf
    refine hs_calli (va_runV (As := [.int v1, .int v4]) (rest := [.ref (B + ((hs_R g v0 32) - 1)), .int v3]) ⟨hx, hb, hml, hown, hts⟩ (ctX12_kindAt l B D E v0 v1 v4 g _ h5) (cwV 2 hts (hs_gV (fun _ h => List.mem_cons_of_mem _ h) wq604 wq605 wq606 wq5 wq607) rfl rfl rfl (by decide +kernel) ⟨Nat.le_of_ble_eq_true rfl, Nat.le_of_ble_eq_true rfl⟩) (hs_preV (r := (RX12, TX12, 48)) hP hK h1 (by decide) rfl) rfl rfl hl.1 rfl (lv_room (Nat.le_of_ble_eq_true rfl)) dX12_sum_14 ⟨(Nat.le_of_ble_eq_true rfl), (Nat.le_of_ble_eq_true rfl)⟩) hS (fun H locs hP hS => ?_)
    obtain ⟨h6, hf⟩ := hs_ck hf
    obtain ⟨h7, hf⟩ := hs_ck hf
    refine hs_iald hx hb hK.1 hP h6 h7 dX12_sum_17 ?_
    refine lv_iadd hx hb dX12_sum_18 ?_
    refine lv_istore_n (lv' := [(3, .int (v3 + (hs_I g3 ((hs_R g v0 32) - 1) r4.toNatClampNeg))), (0, .ref (B + v0)), (1, .int v1), (4, .int v4)]) hx hb dX12_sum_19 rfl hl (by decide) rfl (fun ls hl => ?_)
    refine lv_iload hx hb dX12_sum_20 (lv_at hl 3 rfl) ?_
    refine lv_aload_n hx hb dX12_sum_22 rfl (lv_at hl 1 rfl) ?_
    refine lv_iload_n hx hb dX12_sum_23 rfl (lv_at hl 2 rfl) ?_
    refine lv_iload hx hb dX12_sum_24 (lv_at hl 3 rfl) ?_
    obtain ⟨h8, hf⟩ := hs_ck hf
    obtain ⟨r10, g9, h11, hf⟩ := hs_bd_some hf
    refine hs_calli (va_runV (As := [.int v1, .int v4]) (rest := [.int v4]) ⟨hx, hb, hml, hown, hts⟩ (ctX12_kindAt l B D E v0 v1 v4 g3 _ h11) (cwV 2 hts (hs_gV (fun _ h => List.mem_cons_of_mem _ h) wq604 wq605 wq606 wq5 wq607) rfl rfl rfl (by decide +kernel) ⟨Nat.le_of_ble_eq_true rfl, Nat.le_of_ble_eq_true rfl⟩) (hs_preV (r := (RX12, TX12, 48)) hP hK h8 (by decide) rfl) rfl rfl hl.1 rfl (lv_room (Nat.le_of_ble_eq_true rfl)) dX12_sum_26 ⟨(Nat.le_of_ble_eq_true rfl), (Nat.le_of_ble_eq_true rfl)⟩) hS (fun H locs hP hS => ?_)
    obtain ⟨r13, g12, h14, hf⟩ := hs_bd_some hf
    refine hs_calli (va_runS (As := [.int r10]) (rest := [.int v4]) ⟨hx, hb, hml, hown, hts⟩ (ctX12_size l B D E r10 g9 _ h14) (va_cwS 1 hts (hs_gS (fun _ h => List.mem_cons_of_mem _ h) wq423 wq424 wq5 wq425) rfl rfl rfl (by decide +kernel) ⟨Nat.le_of_ble_eq_true rfl, Nat.le_of_ble_eq_true rfl⟩) (hs_pre hP hK) rfl rfl hl.1 rfl (lv_room (Nat.le_of_ble_eq_true rfl)) dX12_sum_29 ⟨(Nat.le_of_ble_eq_true rfl), (Nat.le_of_ble_eq_true rfl)⟩) hS (fun H locs hP hS => ?_)
    refine lv_iadd hx hb dX12_sum_32 ?_
    refine lv_istore (lv' := [(4, .int (v4 + r13)), (3, .int (v3 + (hs_I g3 ((hs_R g v0 32) - 1) r4.toNatClampNeg))), (0, .ref (B + v0)), (1, .int v1)]) hx hb dX12_sum_33 hl (by decide) rfl (fun ls hl => ?_)
    refine lv_iload hx hb dX12_sum_35 (lv_at hl 0 rfl) ?_
    refine lv_aload_n hx hb dX12_sum_37 rfl (lv_at hl 2 rfl) ?_
    obtain ⟨h15, hf⟩ := hs_ck hf
    obtain ⟨h16, hf⟩ := hs_ck hf
    refine hs_getr (C := RX12) (T := TX12) (N := 48) hx hb hts (fun w h => List.mem_cons_of_mem _ (inlX12 w h)) hown hK.1 hP h15 (by decide) rfl 7 (by decide) (hts _ (List.mem_cons_of_mem _ wq125)) (fun _ h => h) rfl h16 dX12_sum_38 ?_
    refine lv_iload_n hx hb dX12_sum_41 rfl (lv_at hl 3 rfl) ?_
    obtain ⟨h17, hf⟩ := hs_ck hf
    obtain ⟨h18, hf⟩ := hs_ck hf
    refine hs_iald hx hb hK.1 hP h17 h18 dX12_sum_42 ?_
    refine lv_icmp_ge (tgt := 56) hx hb dX12_sum_43 (by decide) (fun hc => ?_) (fun hc => ?_)
    · replace hf := hs_t hf hc
      obtain rfl := Option.some.inj hf
      exact hex0 _ _ _ hP hS (lv_sub hl [1] rfl)
    · replace hf := hs_f hf hc
      refine lv_aload_n hx hb dX12_sum_46 rfl (lv_at hl 2 rfl) ?_
      obtain ⟨h19, hf⟩ := hs_ck hf
      refine hs_getr (C := RX12) (T := TX12) (N := 48) hx hb hts (fun w h => List.mem_cons_of_mem _ (inlX12 w h)) hown hK.1 hP h15 (by decide) rfl 12 (by decide) (hts _ (List.mem_cons_of_mem _ wq131)) (fun _ h => h) rfl h19 dX12_sum_47 ?_
      refine lv_iload hx hb dX12_sum_50 (lv_at hl 0 rfl) ?_
      obtain ⟨h20, hf⟩ := hs_ck hf
      obtain ⟨h21, hf⟩ := hs_ck hf
      refine hs_zald hx hb hK.1 hP h20 h21 dX12_sum_52 ?_
      refine lv_if_eq (tgt := 5) hx hb dX12_sum_53 (by decide) (fun hc => ?_) (fun hc => ?_)
      · replace hf := hs_t hf hc
        exact ih _ _ _ hf _ _ _ hP hS (lv_sub hl [2, 3, 1, 0] rfl)
      · replace hf := hs_f hf hc
        obtain rfl := Option.some.inj hf
        exact hex0 _ _ _ hP hS (lv_sub hl [1] rfl)

set_option maxHeartbeats 4000000 in
set_option maxRecDepth 100000 in
theorem ctX12_sum (l : Launch) (B : Nat) (D : va_G) (E : Nat → ClassId) (v0 : Nat) (v1 : Int32) (v2 : Int32) (g : hs_S) (o : Int32 × hs_S) (hf : fX12_sum v0 v1 v2 g = some o) : Met l yX12_sum wcX12_sum rmX12_sum (hs_Pc B D E g [.ref (B + v0), .int v1, .int v2]) (hs_Qi B D E o) (0) (0) (hs_F B) := by
  refine Met.ofW (cc := cX12_sum) (maxL := 5) (ret := (some .int)) (by decide) rfl ?_
  intro p e s m args below meth c s₁ Bd hml hv
  obtain ⟨rfl, hP, hK⟩ := hv
  have hx := Bd.exec
  have hb := Bd.bytes
  have hr := Bd.returns
  have hts := atoms_spec (ws := wcX12_sum) Bd.pre
  have hown : s.vm.findClass RX12 = some m.cls := findClass_of_methodNamed Bd.named
  have hlocks := Bd.notSynchronized
  have hS : hs_Sx B s.heap s.heap [] := va_S.rf
  have hX : hs_cx cX12_sum (some .int) 5 RX12 wcX12_sum p s m (List.toArray [.ref (B + v0), .int v1, .int v2]) meth c D E := ⟨hx, hb, hr, hml, hown, hts, hlocks, hK⟩
  have hl := lv_entry ([.ref (B + v0), .int v1, .int v2]) (n := 5) (Nat.le_of_ble_eq_true rfl)
  rw [lg_entry_eq]
  generalize (lg_sl ([.ref (B + v0), .int v1, .int v2]) ++ List.replicate (5 - (lg_sl ([.ref (B + v0), .int v1, .int v2])).length) Slot.unset).toArray = ls at hl ⊢
  have hl : lv_has ls 5 [(0, .ref (B + v0)), (1, .int v1), (2, .int v2)] := hl
  have hP : hs_P B D E g s.heap := hP
  unfold fX12_sum at hf
  refine lv_iconst (v := 0) hx hb dX12_sum_0 (by decide) ?_
  refine lv_istore_n (lv' := [(3, .int (0 : Int32)), (0, .ref (B + v0)), (1, .int v1), (2, .int v2)]) hx hb dX12_sum_1 rfl hl (by decide) rfl (fun ls hl => ?_)
  refine lv_iload_n hx hb dX12_sum_2 rfl (lv_at hl 3 rfl) ?_
  refine lv_istore (lv' := [(4, .int v2), (3, .int (0 : Int32)), (0, .ref (B + v0)), (1, .int v1), (2, .int v2)]) hx hb dX12_sum_3 hl (by decide) rfl (fun ls hl => ?_)
  obtain ⟨x22, g24, h25, hf⟩ := hs_bd_some hf
  refine wX12_sum_5 hX (fun H locs ls hP hS hl => ?_) hs_N _ _ _ h25 _ _ _ hP hS (lv_sub hl [2, 3, 1, 0] rfl)
  refine lv_iload_n hx hb dX12_sum_56 rfl (lv_at hl 0 rfl) ?_
  exact hs_iret hx hb hr hlocks rfl hK hP hS hf dX12_sum_57

theorem dX12_paidAt_0 : decode cX12_paidAt 0 = .ok (.iload_n 3, 1) := by decide +kernel
theorem dX12_paidAt_1 : decode cX12_paidAt 1 = .ok (.ifCond .eq 25, 3) := by decide +kernel
theorem dX12_paidAt_4 : decode cX12_paidAt 4 = .ok (.aload_n 0, 1) := by decide +kernel
theorem dX12_paidAt_5 : decode cX12_paidAt 5 = .ok (.getfield 39, 3) := by decide +kernel
theorem dX12_paidAt_8 : decode cX12_paidAt 8 = .ok (.iload_n 2, 1) := by decide +kernel
theorem dX12_paidAt_9 : decode cX12_paidAt 9 = .ok (.baload, 1) := by decide +kernel
theorem dX12_paidAt_10 : decode cX12_paidAt 10 = .ok (.ifCond .eq 16, 3) := by decide +kernel
theorem dX12_paidAt_13 : decode cX12_paidAt 13 = .ok (.aload_n 0, 1) := by decide +kernel
theorem dX12_paidAt_14 : decode cX12_paidAt 14 = .ok (.iload_n 1, 1) := by decide +kernel
theorem dX12_paidAt_15 : decode cX12_paidAt 15 = .ok (.iload_n 2, 1) := by decide +kernel
theorem dX12_paidAt_16 : decode cX12_paidAt 16 = .ok (.invokevirtual 214, 3) := by decide +kernel
theorem dX12_paidAt_19 : decode cX12_paidAt 19 = .ok (.ifCond .le 7, 3) := by decide +kernel
theorem dX12_paidAt_22 : decode cX12_paidAt 22 = .ok (.iconst 5, 1) := by decide +kernel
theorem dX12_paidAt_23 : decode cX12_paidAt 23 = .ok (.goto 4, 3) := by decide +kernel
theorem dX12_paidAt_26 : decode cX12_paidAt 26 = .ok (.iconst 0, 1) := by decide +kernel
theorem dX12_paidAt_27 : decode cX12_paidAt 27 = .ok (.ireturn, 1) := by decide +kernel
abbrev wcX12_paidAt : List Cond := .code yX12_paidAt cX12_paidAt 4 (some .int) :: wsL_law
def fX12_paidAt (v0 : Nat) (v1 : Int32) (v2 : Int32) (v3 : Int32) (g : hs_S) : Option (Int32 × hs_S) :=
  if v3 = 0 then (
    some ((0 : Int32), g)
  ) else (
    if hs_kd g v0 = 10 then
    if ¬ (hs_R g v0 12) = 0 then
    if hs_kd g ((hs_R g v0 12) - 1) = 101 then
    if hs_in v2 (hs_ln g ((hs_R g v0 12) - 1)) = true then
    if (hs_I g ((hs_R g v0 12) - 1) v2.toNatClampNeg) = 0 then (
      some ((0 : Int32), g)
    ) else (
      hs_bd (fX12_sum v0 v1 v2 g) fun r6 g5 =>
      if r6 ≤ 0 then (
        some ((0 : Int32), g5)
      ) else (
        some ((5 : Int32), g5)
      )
    )
    else none else none else none else none
  )
abbrev rmX12_paidAt : Room := { frames := 2, cells := 0, slots := 0, locals := 46 }
set_option maxHeartbeats 4000000 in
set_option maxRecDepth 100000 in
theorem ctX12_paidAt (l : Launch) (B : Nat) (D : va_G) (E : Nat → ClassId) (v0 : Nat) (v1 : Int32) (v2 : Int32) (v3 : Int32) (g : hs_S) (o : Int32 × hs_S) (hf : fX12_paidAt v0 v1 v2 v3 g = some o) : Met l yX12_paidAt wcX12_paidAt rmX12_paidAt (hs_Pc B D E g [.ref (B + v0), .int v1, .int v2, .int v3]) (hs_Qi B D E o) (0) (0) (hs_F B) := by
  refine Met.ofW (cc := cX12_paidAt) (maxL := 4) (ret := (some .int)) (by decide) rfl ?_
  intro p e s m args below meth c s₁ Bd hml hv
  obtain ⟨rfl, hP, hK⟩ := hv
  have hx := Bd.exec
  have hb := Bd.bytes
  have hr := Bd.returns
  have hts := atoms_spec (ws := wcX12_paidAt) Bd.pre
  have hown : s.vm.findClass RX12 = some m.cls := findClass_of_methodNamed Bd.named
  have hlocks := Bd.notSynchronized
  have hS : hs_Sx B s.heap s.heap [] := va_S.rf
  have hX : hs_cx cX12_paidAt (some .int) 4 RX12 wcX12_paidAt p s m (List.toArray [.ref (B + v0), .int v1, .int v2, .int v3]) meth c D E := ⟨hx, hb, hr, hml, hown, hts, hlocks, hK⟩
  have hl := lv_entry ([.ref (B + v0), .int v1, .int v2, .int v3]) (n := 4) (Nat.le_of_ble_eq_true rfl)
  rw [lg_entry_eq]
  generalize (lg_sl ([.ref (B + v0), .int v1, .int v2, .int v3]) ++ List.replicate (4 - (lg_sl ([.ref (B + v0), .int v1, .int v2, .int v3])).length) Slot.unset).toArray = ls at hl ⊢
  have hl : lv_has ls 4 [(0, .ref (B + v0)), (1, .int v1), (2, .int v2), (3, .int v3)] := hl
  have hP : hs_P B D E g s.heap := hP
  unfold fX12_paidAt at hf
  refine lv_iload_n hx hb dX12_paidAt_0 rfl (lv_at hl 3 rfl) ?_
  refine lv_if_eq (tgt := 26) hx hb dX12_paidAt_1 (by decide) (fun hc => ?_) (fun hc => ?_)
  · replace hf := hs_t hf hc
    refine lv_iconst (v := 0) hx hb dX12_paidAt_26 (by decide) ?_
    exact hs_iret hx hb hr hlocks rfl hK hP hS hf dX12_paidAt_27
  · replace hf := hs_f hf hc
    refine lv_aload_n hx hb dX12_paidAt_4 rfl (lv_at hl 0 rfl) ?_
    obtain ⟨h1, hf⟩ := hs_ck hf
    obtain ⟨h2, hf⟩ := hs_ck hf
    refine hs_getr (C := RX12) (T := TX12) (N := 48) hx hb hts (fun w h => List.mem_cons_of_mem _ (inlX12 w h)) hown hK.1 hP h1 (by decide) rfl 12 (by decide) (hts _ (List.mem_cons_of_mem _ wq131)) (fun _ h => h) rfl h2 dX12_paidAt_5 ?_
    refine lv_iload_n hx hb dX12_paidAt_8 rfl (lv_at hl 2 rfl) ?_
    obtain ⟨h3, hf⟩ := hs_ck hf
    obtain ⟨h4, hf⟩ := hs_ck hf
    refine hs_zald hx hb hK.1 hP h3 h4 dX12_paidAt_9 ?_
    refine lv_if_eq (tgt := 26) hx hb dX12_paidAt_10 (by decide) (fun hc => ?_) (fun hc => ?_)
    · replace hf := hs_t hf hc
      refine lv_iconst (v := 0) hx hb dX12_paidAt_26 (by decide) ?_
      exact hs_iret hx hb hr hlocks rfl hK hP hS hf dX12_paidAt_27
    · replace hf := hs_f hf hc
      refine lv_aload_n hx hb dX12_paidAt_13 rfl (lv_at hl 0 rfl) ?_
      refine lv_iload_n hx hb dX12_paidAt_14 rfl (lv_at hl 1 rfl) ?_
      refine lv_iload_n hx hb dX12_paidAt_15 rfl (lv_at hl 2 rfl) ?_
      obtain ⟨r6, g5, h7, hf⟩ := hs_bd_some hf
      refine hs_calli (va_runV (As := [.int v1, .int v2]) (rest := []) ⟨hx, hb, hml, hown, hts⟩ (ctX12_sum l B D E v0 v1 v2 g _ h7) (cwV 2 hts (hs_gV (fun _ h => List.mem_cons_of_mem _ h) wq616 wq617 wq618 wq5 wq619) rfl rfl rfl (by decide +kernel) ⟨Nat.le_of_ble_eq_true rfl, Nat.le_of_ble_eq_true rfl⟩) (hs_preV (r := (RX12, TX12, 48)) hP hK h1 (by decide) rfl) rfl rfl hl.1 rfl (lv_room (Nat.le_of_ble_eq_true rfl)) dX12_paidAt_16 ⟨(Nat.le_of_ble_eq_true rfl), (Nat.le_of_ble_eq_true rfl)⟩) hS (fun H locs hP hS => ?_)
      refine lv_if_le (tgt := 26) hx hb dX12_paidAt_19 (by decide) (fun hc => ?_) (fun hc => ?_)
      · replace hf := hs_t hf hc
        refine lv_iconst (v := 0) hx hb dX12_paidAt_26 (by decide) ?_
        exact hs_iret hx hb hr hlocks rfl hK hP hS hf dX12_paidAt_27
      · replace hf := hs_f hf hc
        refine lv_iconst (v := 5) hx hb dX12_paidAt_22 (by decide) ?_
        refine lv_goto (tgt := 27) hx hb dX12_paidAt_23 (by decide) ?_
        exact hs_iret hx hb hr hlocks rfl hK hP hS hf dX12_paidAt_27

theorem dX12_fits_0 : decode cX12_fits 0 = .ok (.iload_n 0, 1) := by decide +kernel
theorem dX12_fits_1 : decode cX12_fits 1 = .ok (.bipush (-128), 2) := by decide +kernel
theorem dX12_fits_3 : decode cX12_fits 3 = .ok (.if_icmp .lt 13, 3) := by decide +kernel
theorem dX12_fits_6 : decode cX12_fits 6 = .ok (.iload_n 0, 1) := by decide +kernel
theorem dX12_fits_7 : decode cX12_fits 7 = .ok (.bipush 127, 2) := by decide +kernel
theorem dX12_fits_9 : decode cX12_fits 9 = .ok (.if_icmp .gt 7, 3) := by decide +kernel
theorem dX12_fits_12 : decode cX12_fits 12 = .ok (.iconst 1, 1) := by decide +kernel
theorem dX12_fits_13 : decode cX12_fits 13 = .ok (.goto 4, 3) := by decide +kernel
theorem dX12_fits_16 : decode cX12_fits 16 = .ok (.iconst 0, 1) := by decide +kernel
theorem dX12_fits_17 : decode cX12_fits 17 = .ok (.ireturn, 1) := by decide +kernel
abbrev wcX12_fits : List Cond := .code yX12_fits cX12_fits 1 (some .boolean) :: wsL_law
def fX12_fits (v0 : Int32) (g : hs_S) : Option (Int32 × hs_S) :=
  if v0 < (-128 : Int32) then (
    some ((0 : Int32), g)
  ) else (
    if (127 : Int32) < v0 then (
      some ((0 : Int32), g)
    ) else (
      some ((1 : Int32), g)
    )
  )
abbrev rmX12_fits : Room := { frames := 0, cells := 0, slots := 0, locals := 0 }
set_option maxHeartbeats 4000000 in
set_option maxRecDepth 100000 in
theorem ctX12_fits (l : Launch) (B : Nat) (D : va_G) (E : Nat → ClassId) (v0 : Int32) (g : hs_S) (o : Int32 × hs_S) (hf : fX12_fits v0 g = some o) : Met l yX12_fits wcX12_fits rmX12_fits (hs_Pc B D E g [.int v0]) (hs_Qi B D E o) (0) (0) (hs_F B) := by
  refine Met.ofW (cc := cX12_fits) (maxL := 1) (ret := (some .boolean)) (by decide) rfl ?_
  intro p e s m args below meth c s₁ Bd hml hv
  obtain ⟨rfl, hP, hK⟩ := hv
  have hx := Bd.exec
  have hb := Bd.bytes
  have hr := Bd.returns
  have hts := atoms_spec (ws := wcX12_fits) Bd.pre
  have hown : s.vm.findClass RX12 = some m.cls := findClass_of_methodNamed Bd.named
  have hlocks := Bd.notSynchronized
  have hS : hs_Sx B s.heap s.heap [] := va_S.rf
  have hX : hs_cx cX12_fits (some .boolean) 1 RX12 wcX12_fits p s m (List.toArray [.int v0]) meth c D E := ⟨hx, hb, hr, hml, hown, hts, hlocks, hK⟩
  have hl := lv_entry ([.int v0]) (n := 1) (Nat.le_of_ble_eq_true rfl)
  rw [lg_entry_eq]
  generalize (lg_sl ([.int v0]) ++ List.replicate (1 - (lg_sl ([.int v0])).length) Slot.unset).toArray = ls at hl ⊢
  have hl : lv_has ls 1 [(0, .int v0)] := hl
  have hP : hs_P B D E g s.heap := hP
  unfold fX12_fits at hf
  refine lv_iload_n hx hb dX12_fits_0 rfl (lv_at hl 0 rfl) ?_
  refine lv_bipush (v := -128) hx hb dX12_fits_1 (by decide) ?_
  refine lv_icmp_lt (tgt := 16) hx hb dX12_fits_3 (by decide) (fun hc => ?_) (fun hc => ?_)
  · replace hf := hs_t hf hc
    refine lv_iconst (v := 0) hx hb dX12_fits_16 (by decide) ?_
    exact hs_iret hx hb hr hlocks (hs_01_nar (rfl)) hK hP hS hf dX12_fits_17
  · replace hf := hs_f hf hc
    refine lv_iload_n hx hb dX12_fits_6 rfl (lv_at hl 0 rfl) ?_
    refine lv_bipush (v := 127) hx hb dX12_fits_7 (by decide) ?_
    refine lv_icmp_gt (tgt := 16) hx hb dX12_fits_9 (by decide) (fun hc => ?_) (fun hc => ?_)
    · replace hf := hs_t hf hc
      refine lv_iconst (v := 0) hx hb dX12_fits_16 (by decide) ?_
      exact hs_iret hx hb hr hlocks (hs_01_nar (rfl)) hK hP hS hf dX12_fits_17
    · replace hf := hs_f hf hc
      refine lv_iconst (v := 1) hx hb dX12_fits_12 (by decide) ?_
      refine lv_goto (tgt := 17) hx hb dX12_fits_13 (by decide) ?_
      exact hs_iret hx hb hr hlocks (hs_01_nar (rfl)) hK hP hS hf dX12_fits_17

