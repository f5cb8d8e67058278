theorem dX5_write_0 : decode cX5_write 0 = .ok (.aload_n 3, 1) := by decide +kernel
theorem dX5_write_1 : decode cX5_write 1 = .ok (.invokevirtual 52, 3) := by decide +kernel
theorem dX5_write_4 : decode cX5_write 4 = .ok (.aload_n 3, 1) := by decide +kernel
theorem dX5_write_5 : decode cX5_write 5 = .ok (.aload_n 1, 1) := by decide +kernel
theorem dX5_write_6 : decode cX5_write 6 = .ok (.getfield 55, 3) := by decide +kernel
theorem dX5_write_9 : decode cX5_write 9 = .ok (.putfield 55, 3) := by decide +kernel
theorem dX5_write_12 : decode cX5_write 12 = .ok (.aload_n 3, 1) := by decide +kernel
theorem dX5_write_13 : decode cX5_write 13 = .ok (.aload_n 1, 1) := by decide +kernel
theorem dX5_write_14 : decode cX5_write 14 = .ok (.getfield 58, 3) := by decide +kernel
theorem dX5_write_17 : decode cX5_write 17 = .ok (.putfield 58, 3) := by decide +kernel
theorem dX5_write_20 : decode cX5_write 20 = .ok (.aload_n 3, 1) := by decide +kernel
theorem dX5_write_21 : decode cX5_write 21 = .ok (.aload_n 1, 1) := by decide +kernel
theorem dX5_write_22 : decode cX5_write 22 = .ok (.getfield 61, 3) := by decide +kernel
theorem dX5_write_25 : decode cX5_write 25 = .ok (.putfield 61, 3) := by decide +kernel
theorem dX5_write_28 : decode cX5_write 28 = .ok (.aload_n 3, 1) := by decide +kernel
theorem dX5_write_29 : decode cX5_write 29 = .ok (.aload_n 2, 1) := by decide +kernel
theorem dX5_write_30 : decode cX5_write 30 = .ok (.getfield 64, 3) := by decide +kernel
theorem dX5_write_33 : decode cX5_write 33 = .ok (.putfield 69, 3) := by decide +kernel
theorem dX5_write_36 : decode cX5_write 36 = .ok (.iconst 0, 1) := by decide +kernel
theorem dX5_write_37 : decode cX5_write 37 = .ok (.istore 4, 2) := by decide +kernel
theorem dX5_write_39 : decode cX5_write 39 = .ok (.iload 4, 2) := by decide +kernel
theorem dX5_write_41 : decode cX5_write 41 = .ok (.aload_n 1, 1) := by decide +kernel
theorem dX5_write_42 : decode cX5_write 42 = .ok (.getfield 42, 3) := by decide +kernel
theorem dX5_write_45 : decode cX5_write 45 = .ok (.if_icmp .ge 27, 3) := by decide +kernel
theorem dX5_write_48 : decode cX5_write 48 = .ok (.aload_n 1, 1) := by decide +kernel
theorem dX5_write_49 : decode cX5_write 49 = .ok (.iload 4, 2) := by decide +kernel
theorem dX5_write_51 : decode cX5_write 51 = .ok (.invokevirtual 72, 3) := by decide +kernel
theorem dX5_write_54 : decode cX5_write 54 = .ok (.ifCond .eq 12, 3) := by decide +kernel
theorem dX5_write_57 : decode cX5_write 57 = .ok (.aload_n 0, 1) := by decide +kernel
theorem dX5_write_58 : decode cX5_write 58 = .ok (.aload_n 1, 1) := by decide +kernel
theorem dX5_write_59 : decode cX5_write 59 = .ok (.iload 4, 2) := by decide +kernel
theorem dX5_write_61 : decode cX5_write 61 = .ok (.aload_n 2, 1) := by decide +kernel
theorem dX5_write_62 : decode cX5_write 62 = .ok (.aload_n 3, 1) := by decide +kernel
theorem dX5_write_63 : decode cX5_write 63 = .ok (.invokevirtual 76, 3) := by decide +kernel
theorem dX5_write_66 : decode cX5_write 66 = .ok (.iinc 4 1, 3) := by decide +kernel
theorem dX5_write_69 : decode cX5_write 69 = .ok (.goto (-30), 3) := by decide +kernel
theorem dX5_write_72 : decode cX5_write 72 = .ok (.aload_n 3, 1) := by decide +kernel
theorem dX5_write_73 : decode cX5_write 73 = .ok (.aload_n 2, 1) := by decide +kernel
theorem dX5_write_74 : decode cX5_write 74 = .ok (.getfield 64, 3) := by decide +kernel
theorem dX5_write_77 : decode cX5_write 77 = .ok (.aload_n 3, 1) := by decide +kernel
theorem dX5_write_78 : decode cX5_write 78 = .ok (.getfield 69, 3) := by decide +kernel
theorem dX5_write_81 : decode cX5_write 81 = .ok (.isub, 1) := by decide +kernel
theorem dX5_write_82 : decode cX5_write 82 = .ok (.putfield 42, 3) := by decide +kernel
theorem dX5_write_85 : decode cX5_write 85 = .ok (.aload_n 0, 1) := by decide +kernel
theorem dX5_write_86 : decode cX5_write 86 = .ok (.aload_n 1, 1) := by decide +kernel
theorem dX5_write_87 : decode cX5_write 87 = .ok (.aload_n 3, 1) := by decide +kernel
theorem dX5_write_88 : decode cX5_write 88 = .ok (.invokevirtual 80, 3) := by decide +kernel
theorem dX5_write_91 : decode cX5_write 91 = .ok (.return_, 1) := by decide +kernel
abbrev wcX5_write : List Cond := .code yX5_write cX5_write 5 none :: wsL_law
def jX5_write_66 (rec : Int32 → hs_S → Option (hs_S)) (v0 : Nat) (v1 : Nat) (v2 : Nat) (v3 : Nat) (v4 : Int32) (g : hs_S) : Option (hs_S) :=
  rec (v4 + (1 : Int32)) g
def lX5_write_39 : Nat → Nat → Nat → Nat → Nat → Int32 → hs_S → Option (hs_S)
  | 0, _, _, _, _, _, _ => none
  | n + 1, v0, v1, v2, v3, v4, g =>
    if hs_kd g v1 = 6 then
    if (hs_I g v1 3) ≤ v4 then (
      some g
    ) else (
      hs_bd (fX7_begins v1 v4 g) fun r14 g13 =>
      if r14 = 0 then (
        jX5_write_66 (fun y0 g => lX5_write_39 n v0 v1 v2 v3 y0 g) v0 v1 v2 v3 v4 g13
      ) else (
        if hs_kd g13 v0 = 4 then
        hs_bv (fX5_writeInstruction v0 v1 v4 v2 v3 g13) fun g17 =>
        jX5_write_66 (fun y0 g => lX5_write_39 n v0 v1 v2 v3 y0 g) v0 v1 v2 v3 v4 g17
        else none
      )
    )
    else none
theorem lX5_write_39_s (n : Nat) (v0 : Nat) (v1 : Nat) (v2 : Nat) (v3 : Nat) (v4 : Int32) (g : hs_S) : lX5_write_39 (n + 1) v0 v1 v2 v3 v4 g =
    if hs_kd g v1 = 6 then
    if (hs_I g v1 3) ≤ v4 then (
      some g
    ) else (
      hs_bd (fX7_begins v1 v4 g) fun r14 g13 =>
      if r14 = 0 then (
        jX5_write_66 (fun y0 g => lX5_write_39 n v0 v1 v2 v3 y0 g) v0 v1 v2 v3 v4 g13
      ) else (
        if hs_kd g13 v0 = 4 then
        hs_bv (fX5_writeInstruction v0 v1 v4 v2 v3 g13) fun g17 =>
        jX5_write_66 (fun y0 g => lX5_write_39 n v0 v1 v2 v3 y0 g) v0 v1 v2 v3 v4 g17
        else none
      )
    )
    else none := rfl
def fX5_write (v0 : Nat) (v1 : Nat) (v2 : Nat) (v3 : Nat) (g : hs_S) : Option (hs_S) :=
  if hs_kd g v3 = 6 then
  hs_bv (fX7_empty v3 g) fun g2 =>
  if hs_kd g2 v1 = 6 then
  if hs_kd g2 v3 = 6 then
  hs_bv (some (hs_wI (hs_wI (hs_wI g2 v3 4 (hs_I g2 v1 4)) v3 5 (hs_I (hs_wI g2 v3 4 (hs_I g2 v1 4)) v1 5)) v3 7 (hs_I (hs_wI (hs_wI g2 v3 4 (hs_I g2 v1 4)) v3 5 (hs_I (hs_wI g2 v3 4 (hs_I g2 v1 4)) v1 5)) v1 7))) fun g7 =>
  if hs_kd g7 v2 = 0 then
  hs_bv (lX5_write_39 hs_N v0 v1 v2 v3 (0 : Int32) (hs_wI g7 v3 2 (hs_I g7 v2 3))) fun g21 =>
  if hs_kd g21 v2 = 0 then
  if hs_kd g21 v3 = 6 then
  if hs_kd (hs_wI g21 v3 3 ((hs_I g21 v2 3) - (hs_I g21 v3 2))) v0 = 4 then
  hs_bv (fX5_moveHandlers v0 v1 v3 (hs_wI g21 v3 3 ((hs_I g21 v2 3) - (hs_I g21 v3 2)))) fun g26 =>
  some g26
  else none else none else none else none else none else none else none
abbrev rmX5_write : Room := { frames := 5, cells := 0, slots := 0, locals := 117 }
set_option maxHeartbeats 4000000 in
set_option maxRecDepth 100000 in
theorem wX5_write_j66 {p : Program} {l : Launch} {e : Env} {s : State} {m : MethodId} {args : Array Value} {below : List Frame} {meth : Method} {c : Code} {B : Nat} {D : va_G} {E : Nat → ClassId} (hX : hs_cx cX5_write none 5 RX5 wcX5_write p s m args meth c D E) {Q : State → Prop} {o : hs_S} {rec : Int32 → hs_S → Option (hs_S)} {v0 : Nat} {v1 : Nat} {v2 : Nat} {v3 : Nat} {v4 : Int32}  (hrec : ∀ (y0 : Int32) (g : hs_S) (H : Heap) (locs : List Loc) (ls : Array Slot), rec y0 g = some o → hs_P B D E g H → hs_Sx B s.heap H locs → lv_has ls 5 [(0, .ref (B + v0)), (1, .ref (B + v1)), (2, .ref (B + v2)), (3, .ref (B + v3)), (4, .int y0)] → W p l e rmX5_write s m args below meth c H locs 0 0 Q (F0 m 39 ls [])) (hex0 : ∀ (H : Heap) (locs : List Loc) (ls : Array Slot), hs_P B D E (o) H → hs_Sx B s.heap H locs → lv_has ls 5 [(0, .ref (B + v0)), (1, .ref (B + v1)), (2, .ref (B + v2)), (3, .ref (B + v3))] → W p l e rmX5_write s m args below meth c H locs 0 0 Q (F0 m 72 ls [])) {g : hs_S} {H : Heap} {locs : List Loc} {ls : Array Slot} (hf : jX5_write_66 rec v0 v1 v2 v3 v4 g = some o) (hP : hs_P B D E g H) (hS : hs_Sx B s.heap H locs) (hl : lv_has ls 5 [(0, .ref (B + v0)), (1, .ref (B + v1)), (2, .ref (B + v2)), (3, .ref (B + v3)), (4, .int v4)]) : W p l e rmX5_write s m args below meth c H locs 0 0 Q (F0 m 66 ls []) := by
  obtain ⟨hx, hb, hr, hml, hown, hts, hlocks, hK⟩ := id hX
  unfold jX5_write_66 at hf
  refine lv_iinc (v := (v4 + (1 : Int32))) (lv' := [(4, .int (v4 + (1 : Int32))), (0, .ref (B + v0)), (1, .ref (B + v1)), (2, .ref (B + v2)), (3, .ref (B + v3))]) hx hb dX5_write_66 hl (k := 4) rfl (by rfl) (by decide) rfl (fun ls hl => ?_)
  refine lv_goto (tgt := 39) hx hb dX5_write_69 (by decide) ?_
  exact hrec _ _ _ _ _ hf hP hS (lv_sub hl [1, 2, 3, 4, 0] rfl)

set_option maxHeartbeats 4000000 in
set_option maxRecDepth 100000 in
theorem wX5_write_39 {p : Program} {l : Launch} {e : Env} {s : State} {m : MethodId} {args : Array Value} {below : List Frame} {meth : Method} {c : Code} {B : Nat} {D : va_G} {E : Nat → ClassId} (hX : hs_cx cX5_write none 5 RX5 wcX5_write p s m args meth c D E) {Q : State → Prop} {o : hs_S} {v0 : Nat} {v1 : Nat} {v2 : Nat} {v3 : Nat} (hex0 : ∀ (H : Heap) (locs : List Loc) (ls : Array Slot), hs_P B D E (o) H → hs_Sx B s.heap H locs → lv_has ls 5 [(0, .ref (B + v0)), (1, .ref (B + v1)), (2, .ref (B + v2)), (3, .ref (B + v3))] → W p l e rmX5_write s m args below meth c H locs 0 0 Q (F0 m 72 ls [])) : ∀ (n : Nat) (v4 : Int32) (g : hs_S), lX5_write_39 n v0 v1 v2 v3 v4 g = some o → ∀ (H : Heap) (locs : List Loc) (ls : Array Slot), hs_P B D E g H → hs_Sx B s.heap H locs → lv_has ls 5 [(0, .ref (B + v0)), (1, .ref (B + v1)), (2, .ref (B + v2)), (3, .ref (B + v3)), (4, .int v4)] → W p l e rmX5_write s m args below meth c H locs 0 0 Q (F0 m 39 ls []) := by
  obtain ⟨hx, hb, hr, hml, hown, hts, hlocks, hK⟩ := id hX
  intro n
  induction n with
  | zero =>
    intro v4 g hf
    cases hf
  | succ n ih =>
    intro v4 g hf H locs ls hP hS hl
    replace hf := (lX5_write_39_s n v0 v1 v2 v3 v4 g).symm.trans hf
    refine lv_iload hx hb dX5_write_39 (lv_at hl 4 rfl) ?_
    refine lv_aload_n hx hb dX5_write_41 rfl (lv_at hl 1 rfl) ?_
    obtain ⟨h12, hf⟩ := hs_ck hf
    refine hs_geti (C := RX7) (T := TX7) (N := 11) hx hb hts (fun w h => List.mem_cons_of_mem _ (inlX7 w h)) hown hK.1 hP h12 (by decide) rfl 3 (by decide) (hts _ (List.mem_cons_of_mem _ wq494)) (fun _ h => h) rfl dX5_write_42 ?_
    refine lv_icmp_ge (tgt := 72) hx hb dX5_write_45 (by decide) (fun hc => ?_) (fun hc => ?_)
    · replace hf := hs_t hf hc
      obtain rfl := Option.some.inj hf
      exact hex0 _ _ _ hP hS (lv_sub hl [0, 1, 2, 3] rfl)
    · replace hf := hs_f hf hc
      refine lv_aload_n hx hb dX5_write_48 rfl (lv_at hl 1 rfl) ?_
      refine lv_iload hx hb dX5_write_49 (lv_at hl 4 rfl) ?_
      obtain ⟨r14, g13, h15, hf⟩ := hs_bd_some hf
      refine hs_calli (va_runV (As := [.int v4]) (rest := []) ⟨hx, hb, hml, hown, hts⟩ (ctX7_begins l B D E v1 v4 g _ h15) (cwV 1 hts (hs_gV (fun _ h => List.mem_cons_of_mem _ h) wq512 wq289 wq290 wq43 wq291) rfl rfl rfl (by decide +kernel) ⟨Nat.le_of_ble_eq_true rfl, Nat.le_of_ble_eq_true rfl⟩) (hs_preV (r := (RX7, TX7, 11)) hP hK h12 (by decide) rfl) rfl rfl hl.1 rfl (lv_room (Nat.le_of_ble_eq_true rfl)) dX5_write_51 ⟨(Nat.le_of_ble_eq_true rfl), (Nat.le_of_ble_eq_true rfl)⟩) hS (fun H locs hP hS => ?_)
      refine lv_if_eq (tgt := 66) hx hb dX5_write_54 (by decide) (fun hc => ?_) (fun hc => ?_)
      · replace hf := hs_t hf hc
        exact wX5_write_j66 hX (fun z0 g H locs ls hf hP hS hl => ih z0 g hf H locs ls hP hS hl) hex0 hf hP hS (lv_sub hl [0, 1, 2, 3, 4] rfl)
      · replace hf := hs_f hf hc
        refine lv_aload_n hx hb dX5_write_57 rfl (lv_at hl 0 rfl) ?_
        refine lv_aload_n hx hb dX5_write_58 rfl (lv_at hl 1 rfl) ?_
        refine lv_iload hx hb dX5_write_59 (lv_at hl 4 rfl) ?_
        refine lv_aload_n hx hb dX5_write_61 rfl (lv_at hl 2 rfl) ?_
        refine lv_aload_n hx hb dX5_write_62 rfl (lv_at hl 3 rfl) ?_
        obtain ⟨h16, hf⟩ := hs_ck hf
        obtain ⟨g17, h19, hf⟩ := hs_bv_some hf
        refine hs_callv (va_runV (As := [.ref (B + v1), .int v4, .ref (B + v2), .ref (B + v3)]) (rest := []) ⟨hx, hb, hml, hown, hts⟩ (ctX5_writeInstruction l B D E v0 v1 v4 v2 v3 g13 _ h19) (cwV 4 hts (hs_gV (fun _ h => List.mem_cons_of_mem _ h) wq558 wq559 wq560 wq30 wq561) rfl rfl rfl (by decide +kernel) ⟨Nat.le_of_ble_eq_true rfl, Nat.le_of_ble_eq_true rfl⟩) (hs_preV (r := (RX5, TX5, 5)) hP hK h16 (by decide) rfl) rfl rfl hl.1 rfl (lv_room (Nat.le_of_ble_eq_true rfl)) dX5_write_63 ⟨(Nat.le_of_ble_eq_true rfl), (Nat.le_of_ble_eq_true rfl)⟩) hS (fun H locs hP hS => ?_)
        exact wX5_write_j66 hX (fun z0 g H locs ls hf hP hS hl => ih z0 g hf H locs ls hP hS hl) hex0 hf hP hS (lv_sub hl [0, 1, 2, 3, 4] rfl)

set_option maxHeartbeats 4000000 in
set_option maxRecDepth 100000 in
theorem ctX5_write (l : Launch) (B : Nat) (D : va_G) (E : Nat → ClassId) (v0 : Nat) (v1 : Nat) (v2 : Nat) (v3 : Nat) (g : hs_S) (o : hs_S) (hf : fX5_write v0 v1 v2 v3 g = some o) : Met l yX5_write wcX5_write rmX5_write (hs_Pc B D E g [.ref (B + v0), .ref (B + v1), .ref (B + v2), .ref (B + v3)]) (hs_Qv B D E o) (0) (0) (hs_F B) := by
  refine Met.ofW (cc := cX5_write) (maxL := 5) (ret := none) (by decide) rfl ?_
  intro p e s m args below meth c s₁ Bd hml hv
  obtain ⟨rfl, hP, hK⟩ := hv
  have hx := Bd.exec
  have hb := Bd.bytes
  have hr := Bd.returns
  have hts := atoms_spec (ws := wcX5_write) Bd.pre
  have hown : s.vm.findClass RX5 = some m.cls := findClass_of_methodNamed Bd.named
  have hlocks := Bd.notSynchronized
  have hS : hs_Sx B s.heap s.heap [] := va_S.rf
  have hX : hs_cx cX5_write none 5 RX5 wcX5_write p s m (List.toArray [.ref (B + v0), .ref (B + v1), .ref (B + v2), .ref (B + v3)]) meth c D E := ⟨hx, hb, hr, hml, hown, hts, hlocks, hK⟩
  have hl := lv_entry ([.ref (B + v0), .ref (B + v1), .ref (B + v2), .ref (B + v3)]) (n := 5) (Nat.le_of_ble_eq_true rfl)
  rw [lg_entry_eq]
  generalize (lg_sl ([.ref (B + v0), .ref (B + v1), .ref (B + v2), .ref (B + v3)]) ++ List.replicate (5 - (lg_sl ([.ref (B + v0), .ref (B + v1), .ref (B + v2), .ref (B + v3)])).length) Slot.unset).toArray = ls at hl ⊢
  have hl : lv_has ls 5 [(0, .ref (B + v0)), (1, .ref (B + v1)), (2, .ref (B + v2)), (3, .ref (B + v3))] := hl
  have hP : hs_P B D E g s.heap := hP
  unfold fX5_write at hf
  refine lv_aload_n hx hb dX5_write_0 rfl (lv_at hl 3 rfl) ?_
  obtain ⟨h1, hf⟩ := hs_ck hf
  obtain ⟨g2, h4, hf⟩ := hs_bv_some hf
  refine hs_callv (va_runV (As := []) (rest := []) ⟨hx, hb, hml, hown, hts⟩ (ctX7_empty l B D E v3 g _ h4) (cwV 0 hts (hs_gV (fun _ h => List.mem_cons_of_mem _ h) wq557 wq201 wq202 wq43 wq203) rfl rfl rfl (by decide +kernel) ⟨Nat.le_of_ble_eq_true rfl, Nat.le_of_ble_eq_true rfl⟩) (hs_preV (r := (RX7, TX7, 11)) hP hK h1 (by decide) rfl) rfl rfl hl.1 rfl (lv_room (Nat.le_of_ble_eq_true rfl)) dX5_write_1 ⟨(Nat.le_of_ble_eq_true rfl), (Nat.le_of_ble_eq_true rfl)⟩) hS (fun H locs hP hS => ?_)
  refine lv_aload_n hx hb dX5_write_4 rfl (lv_at hl 3 rfl) ?_
  refine lv_aload_n hx hb dX5_write_5 rfl (lv_at hl 1 rfl) ?_
  obtain ⟨h5, hf⟩ := hs_ck hf
  refine hs_geti (C := RX7) (T := TX7) (N := 11) hx hb hts (fun w h => List.mem_cons_of_mem _ (inlX7 w h)) hown hK.1 hP h5 (by decide) rfl 4 (by decide) (hts _ (List.mem_cons_of_mem _ wq552)) (fun _ h => h) rfl dX5_write_6 ?_
  obtain ⟨h6, hf⟩ := hs_ck hf
  refine hs_puti (C := RX7) (T := TX7) (N := 11) hx hb hts (fun w h => List.mem_cons_of_mem _ (inlX7 w h)) tyX7 tyX7_ok nmX7 hown hK.1 hP hS h6 (by decide) rfl 4 (by decide) (hts _ (List.mem_cons_of_mem _ wq552)) (fun _ h => h) (Or.inl rfl) rfl rfl rfl dX5_write_9 (fun H locs hP hS => ?_)
  refine lv_aload_n hx hb dX5_write_12 rfl (lv_at hl 3 rfl) ?_
  refine lv_aload_n hx hb dX5_write_13 rfl (lv_at hl 1 rfl) ?_
  refine hs_geti (C := RX7) (T := TX7) (N := 11) hx hb hts (fun w h => List.mem_cons_of_mem _ (inlX7 w h)) hown hK.1 hP h5 (by decide) rfl 5 (by decide) (hts _ (List.mem_cons_of_mem _ wq553)) (fun _ h => h) rfl dX5_write_14 ?_
  refine hs_puti (C := RX7) (T := TX7) (N := 11) hx hb hts (fun w h => List.mem_cons_of_mem _ (inlX7 w h)) tyX7 tyX7_ok nmX7 hown hK.1 hP hS h6 (by decide) rfl 5 (by decide) (hts _ (List.mem_cons_of_mem _ wq553)) (fun _ h => h) (Or.inl rfl) rfl rfl rfl dX5_write_17 (fun H locs hP hS => ?_)
  refine lv_aload_n hx hb dX5_write_20 rfl (lv_at hl 3 rfl) ?_
  refine lv_aload_n hx hb dX5_write_21 rfl (lv_at hl 1 rfl) ?_
  refine hs_geti (C := RX7) (T := TX7) (N := 11) hx hb hts (fun w h => List.mem_cons_of_mem _ (inlX7 w h)) hown hK.1 hP h5 (by decide) rfl 7 (by decide) (hts _ (List.mem_cons_of_mem _ wq554)) (fun _ h => h) rfl dX5_write_22 ?_
  refine hs_puti (C := RX7) (T := TX7) (N := 11) hx hb hts (fun w h => List.mem_cons_of_mem _ (inlX7 w h)) tyX7 tyX7_ok nmX7 hown hK.1 hP hS h6 (by decide) rfl 7 (by decide) (hts _ (List.mem_cons_of_mem _ wq554)) (fun _ h => h) (Or.inl rfl) rfl rfl rfl dX5_write_25 (fun H locs hP hS => ?_)
  obtain ⟨g7, e8, hf⟩ := hs_bv_some hf
  replace e8 := Option.some.inj e8
  rw [e8] at hP
  have h9 : hs_kd g7 v1 = 6 := by rw [← e8]; exact h5
  have h10 : hs_kd g7 v3 = 6 := by rw [← e8]; exact h6
  refine lv_aload_n hx hb dX5_write_28 rfl (lv_at hl 3 rfl) ?_
  refine lv_aload_n hx hb dX5_write_29 rfl (lv_at hl 2 rfl) ?_
  obtain ⟨h11, hf⟩ := hs_ck hf
  refine hs_geti (C := RX0) (T := TX0) (N := 5) hx hb hts (fun w h => List.mem_cons_of_mem _ (inlX0 w h)) hown hK.1 hP h11 (by decide) rfl 3 (by decide) (hts _ (List.mem_cons_of_mem _ wq555)) (fun _ h => h) rfl dX5_write_30 ?_
  refine hs_puti (C := RX7) (T := TX7) (N := 11) hx hb hts (fun w h => List.mem_cons_of_mem _ (inlX7 w h)) tyX7 tyX7_ok nmX7 hown hK.1 hP hS h10 (by decide) rfl 2 (by decide) (hts _ (List.mem_cons_of_mem _ wq556)) (fun _ h => h) (Or.inl rfl) rfl rfl rfl dX5_write_33 (fun H locs hP hS => ?_)
  refine lv_iconst (v := 0) hx hb dX5_write_36 (by decide) ?_
  refine lv_istore (lv' := [(4, .int (0 : Int32)), (0, .ref (B + v0)), (1, .ref (B + v1)), (2, .ref (B + v2)), (3, .ref (B + v3))]) hx hb dX5_write_37 hl (by decide) rfl (fun ls hl => ?_)
  obtain ⟨g21, h22, hf⟩ := hs_bv_some hf
  refine wX5_write_39 hX (fun H locs ls hP hS hl => ?_) hs_N _ _ h22 _ _ _ hP hS (lv_sub hl [1, 2, 3, 4, 0] rfl)
  refine lv_aload_n hx hb dX5_write_72 rfl (lv_at hl 3 rfl) ?_
  refine lv_aload_n hx hb dX5_write_73 rfl (lv_at hl 2 rfl) ?_
  obtain ⟨h23, hf⟩ := hs_ck hf
  refine hs_geti (C := RX0) (T := TX0) (N := 5) hx hb hts (fun w h => List.mem_cons_of_mem _ (inlX0 w h)) hown hK.1 hP h23 (by decide) rfl 3 (by decide) (hts _ (List.mem_cons_of_mem _ wq555)) (fun _ h => h) rfl dX5_write_74 ?_
  refine lv_aload_n hx hb dX5_write_77 rfl (lv_at hl 3 rfl) ?_
  obtain ⟨h24, hf⟩ := hs_ck hf
  refine hs_geti (C := RX7) (T := TX7) (N := 11) hx hb hts (fun w h => List.mem_cons_of_mem _ (inlX7 w h)) hown hK.1 hP h24 (by decide) rfl 2 (by decide) (hts _ (List.mem_cons_of_mem _ wq556)) (fun _ h => h) rfl dX5_write_78 ?_
  refine lv_isub hx hb dX5_write_81 ?_
  refine hs_puti (C := RX7) (T := TX7) (N := 11) hx hb hts (fun w h => List.mem_cons_of_mem _ (inlX7 w h)) tyX7 tyX7_ok nmX7 hown hK.1 hP hS h24 (by decide) rfl 3 (by decide) (hts _ (List.mem_cons_of_mem _ wq494)) (fun _ h => h) (Or.inl rfl) rfl rfl rfl dX5_write_82 (fun H locs hP hS => ?_)
  refine lv_aload_n hx hb dX5_write_85 rfl (lv_at hl 0 rfl) ?_
  refine lv_aload_n hx hb dX5_write_86 rfl (lv_at hl 1 rfl) ?_
  refine lv_aload_n hx hb dX5_write_87 rfl (lv_at hl 3 rfl) ?_
  obtain ⟨h25, hf⟩ := hs_ck hf
  obtain ⟨g26, h28, hf⟩ := hs_bv_some hf
  refine hs_callv (va_runV (As := [.ref (B + v1), .ref (B + v3)]) (rest := []) ⟨hx, hb, hml, hown, hts⟩ (ctX5_moveHandlers l B D E v0 v1 v3 (hs_wI g21 v3 3 ((hs_I g21 v2 3) - (hs_I g21 v3 2))) _ h28) (cwV 2 hts (hs_gV (fun _ h => List.mem_cons_of_mem _ h) wq578 wq579 wq580 wq30 wq581) rfl rfl rfl (by decide +kernel) ⟨Nat.le_of_ble_eq_true rfl, Nat.le_of_ble_eq_true rfl⟩) (hs_preV (r := (RX5, TX5, 5)) hP hK h25 (by decide) rfl) rfl rfl hl.1 rfl (lv_room (Nat.le_of_ble_eq_true rfl)) dX5_write_88 ⟨(Nat.le_of_ble_eq_true rfl), (Nat.le_of_ble_eq_true rfl)⟩) hS (fun H locs hP hS => ?_)
  exact hs_vret hx hb hr hlocks hK hP hS hf dX5_write_91

theorem dX0_codeBytes_0 : decode cX0_codeBytes 0 = .ok (.iconst 0, 1) := by decide +kernel
theorem dX0_codeBytes_1 : decode cX0_codeBytes 1 = .ok (.istore_n 1, 1) := by decide +kernel
theorem dX0_codeBytes_2 : decode cX0_codeBytes 2 = .ok (.iconst 0, 1) := by decide +kernel
theorem dX0_codeBytes_3 : decode cX0_codeBytes 3 = .ok (.istore_n 2, 1) := by decide +kernel
theorem dX0_codeBytes_4 : decode cX0_codeBytes 4 = .ok (.iload_n 2, 1) := by decide +kernel
theorem dX0_codeBytes_5 : decode cX0_codeBytes 5 = .ok (.aload_n 0, 1) := by decide +kernel
theorem dX0_codeBytes_6 : decode cX0_codeBytes 6 = .ok (.getfield 32, 3) := by decide +kernel
theorem dX0_codeBytes_9 : decode cX0_codeBytes 9 = .ok (.if_icmp .ge 20, 3) := by decide +kernel
theorem dX0_codeBytes_12 : decode cX0_codeBytes 12 = .ok (.iload_n 1, 1) := by decide +kernel
theorem dX0_codeBytes_13 : decode cX0_codeBytes 13 = .ok (.aload_n 0, 1) := by decide +kernel
theorem dX0_codeBytes_14 : decode cX0_codeBytes 14 = .ok (.iload_n 2, 1) := by decide +kernel
theorem dX0_codeBytes_15 : decode cX0_codeBytes 15 = .ok (.invokevirtual 53, 3) := by decide +kernel
theorem dX0_codeBytes_18 : decode cX0_codeBytes 18 = .ok (.getfield 57, 3) := by decide +kernel
theorem dX0_codeBytes_21 : decode cX0_codeBytes 21 = .ok (.iadd, 1) := by decide +kernel
theorem dX0_codeBytes_22 : decode cX0_codeBytes 22 = .ok (.istore_n 1, 1) := by decide +kernel
theorem dX0_codeBytes_23 : decode cX0_codeBytes 23 = .ok (.iinc 2 1, 3) := by decide +kernel
theorem dX0_codeBytes_26 : decode cX0_codeBytes 26 = .ok (.goto (-22), 3) := by decide +kernel
theorem dX0_codeBytes_29 : decode cX0_codeBytes 29 = .ok (.iload_n 1, 1) := by decide +kernel
theorem dX0_codeBytes_30 : decode cX0_codeBytes 30 = .ok (.ireturn, 1) := by decide +kernel
abbrev wcX0_codeBytes : List Cond := .code yX0_codeBytes cX0_codeBytes 3 (some .int) :: wsL_law
def lX0_codeBytes_4 : Nat → Nat → Int32 → Int32 → hs_S → Option (Int32 × hs_S)
  | 0, _, _, _, _ => none
  | n + 1, v0, v1, v2, g =>
    if hs_kd g v0 = 0 then
    if (hs_I g v0 4) ≤ v2 then (
      some (v1, g)
    ) else (
      hs_bd (fX0_method v0 v2 g) fun r3 g2 =>
      if hs_kd g2 r3 = 6 then
      lX0_codeBytes_4 n v0 (v1 + (hs_I g2 r3 3)) (v2 + (1 : Int32)) g2
      else none
    )
    else none
theorem lX0_codeBytes_4_s (n : Nat) (v0 : Nat) (v1 : Int32) (v2 : Int32) (g : hs_S) : lX0_codeBytes_4 (n + 1) v0 v1 v2 g =
    if hs_kd g v0 = 0 then
    if (hs_I g v0 4) ≤ v2 then (
      some (v1, g)
    ) else (
      hs_bd (fX0_method v0 v2 g) fun r3 g2 =>
      if hs_kd g2 r3 = 6 then
      lX0_codeBytes_4 n v0 (v1 + (hs_I g2 r3 3)) (v2 + (1 : Int32)) g2
      else none
    )
    else none := rfl
def fX0_codeBytes (v0 : Nat) (g : hs_S) : Option (Int32 × hs_S) :=
  hs_bd (lX0_codeBytes_4 hs_N v0 (0 : Int32) (0 : Int32) g) fun x6 g8 =>
  some (x6, g8)
abbrev rmX0_codeBytes : Room := { frames := 1, cells := 0, slots := 0, locals := 21 }
set_option maxHeartbeats 4000000 in
set_option maxRecDepth 100000 in
theorem wX0_codeBytes_4 {p : Program} {l : Launch} {e : Env} {s : State} {m : MethodId} {args : Array Value} {below : List Frame} {meth : Method} {c : Code} {B : Nat} {D : va_G} {E : Nat → ClassId} (hX : hs_cx cX0_codeBytes (some .int) 3 RX0 wcX0_codeBytes p s m args meth c D E) {Q : State → Prop} {o : Int32 × hs_S} {v0 : Nat} (hex0 : ∀ (H : Heap) (locs : List Loc) (ls : Array Slot), hs_P B D E (o.2) H → hs_Sx B s.heap H locs → lv_has ls 3 [(1, .int (o.1))] → W p l e rmX0_codeBytes s m args below meth c H locs 0 0 Q (F0 m 29 ls [])) : ∀ (n : Nat) (v1 : Int32) (v2 : Int32) (g : hs_S), lX0_codeBytes_4 n v0 v1 v2 g = some o → ∀ (H : Heap) (locs : List Loc) (ls : Array Slot), hs_P B D E g H → hs_Sx B s.heap H locs → lv_has ls 3 [(0, .ref (B + v0)), (1, .int v1), (2, .int v2)] → W p l e rmX0_codeBytes s m args below meth c H locs 0 0 Q (F0 m 4 ls []) := by
  obtain ⟨hx, hb, hr, hml, hown, hts, hlocks, hK⟩ := id hX
  intro n
  induction n with
  | zero =>
    intro v1 v2 g hf
    cases hf
  | succ n ih =>
    intro v1 v2 g hf H locs ls hP hS hl
    replace hf := (lX0_codeBytes_4_s n v0 v1 v2 g).symm.trans hf
    refine lv_iload_n hx hb dX0_codeBytes_4 rfl (lv_at hl 2 rfl) ?_
    refine lv_aload_n hx hb dX0_codeBytes_5 rfl (lv_at hl 0 rfl) ?_
    obtain ⟨h1, hf⟩ := hs_ck hf
    refine hs_geti (C := RX0) (T := TX0) (N := 5) hx hb hts (fun w h => List.mem_cons_of_mem _ (inlX0 w h)) hown hK.1 hP h1 (by decide) rfl 4 (by decide) (hts _ (List.mem_cons_of_mem _ wq278)) (fun _ h => h) rfl dX0_codeBytes_6 ?_
    refine lv_icmp_ge (tgt := 29) hx hb dX0_codeBytes_9 (by decide) (fun hc => ?_) (fun hc => ?_)
    · replace hf := hs_t hf hc
      obtain rfl := Option.some.inj hf
      exact hex0 _ _ _ hP hS (lv_sub hl [1] rfl)
    · replace hf := hs_f hf hc
      refine lv_iload_n hx hb dX0_codeBytes_12 rfl (lv_at hl 1 rfl) ?_
      refine lv_aload_n hx hb dX0_codeBytes_13 rfl (lv_at hl 0 rfl) ?_
      refine lv_iload_n hx hb dX0_codeBytes_14 rfl (lv_at hl 2 rfl) ?_
      obtain ⟨r3, g2, h4, hf⟩ := hs_bd_some hf
      refine hs_callr (va_runV (As := [.int v2]) (rest := [.int v1]) ⟨hx, hb, hml, hown, hts⟩ (ctX0_method l B D E v0 v2 g _ h4) (cwV 1 hts (hs_gV (fun _ h => List.mem_cons_of_mem _ h) wq590 wq108 wq109 wq15 wq110) rfl rfl rfl (by decide +kernel) ⟨Nat.le_of_ble_eq_true rfl, Nat.le_of_ble_eq_true rfl⟩) (hs_preV (r := (RX0, TX0, 5)) hP hK h1 (by decide) rfl) rfl rfl hl.1 rfl (lv_room (Nat.le_of_ble_eq_true rfl)) dX0_codeBytes_15 ⟨(Nat.le_of_ble_eq_true rfl), (Nat.le_of_ble_eq_true rfl)⟩) hS (fun H locs hP hS => ?_)
      obtain ⟨h5, hf⟩ := hs_ck hf
      refine hs_geti (C := RX7) (T := TX7) (N := 11) hx hb hts (fun w h => List.mem_cons_of_mem _ (inlX7 w h)) hown hK.1 hP h5 (by decide) rfl 3 (by decide) (hts _ (List.mem_cons_of_mem _ wq589)) (fun _ h => h) rfl dX0_codeBytes_18 ?_
      refine lv_iadd hx hb dX0_codeBytes_21 ?_
      refine lv_istore_n (lv' := [(1, .int (v1 + (hs_I g2 r3 3))), (0, .ref (B + v0)), (2, .int v2)]) hx hb dX0_codeBytes_22 rfl hl (by decide) rfl (fun ls hl => ?_)
      refine lv_iinc (v := (v2 + (1 : Int32))) (lv' := [(2, .int (v2 + (1 : Int32))), (1, .int (v1 + (hs_I g2 r3 3))), (0, .ref (B + v0))]) hx hb dX0_codeBytes_23 hl (k := 2) rfl (by rfl) (by decide) rfl (fun ls hl => ?_)
      refine lv_goto (tgt := 4) hx hb dX0_codeBytes_26 (by decide) ?_
      exact ih _ _ _ hf _ _ _ hP hS (lv_sub hl [2, 1, 0] rfl)

set_option maxHeartbeats 4000000 in
set_option maxRecDepth 100000 in
theorem ctX0_codeBytes (l : Launch) (B : Nat) (D : va_G) (E : Nat → ClassId) (v0 : Nat) (g : hs_S) (o : Int32 × hs_S) (hf : fX0_codeBytes v0 g = some o) : Met l yX0_codeBytes wcX0_codeBytes rmX0_codeBytes (hs_Pc B D E g [.ref (B + v0)]) (hs_Qi B D E o) (0) (0) (hs_F B) := by
  refine Met.ofW (cc := cX0_codeBytes) (maxL := 3) (ret := (some .int)) (by decide) rfl ?_
  intro p e s m args below meth c s₁ Bd hml hv
  obtain ⟨rfl, hP, hK⟩ := hv
  have hx := Bd.exec
  have hb := Bd.bytes
  have hr := Bd.returns
  have hts := atoms_spec (ws := wcX0_codeBytes) Bd.pre
  have hown : s.vm.findClass RX0 = some m.cls := findClass_of_methodNamed Bd.named
  have hlocks := Bd.notSynchronized
  have hS : hs_Sx B s.heap s.heap [] := va_S.rf
  have hX : hs_cx cX0_codeBytes (some .int) 3 RX0 wcX0_codeBytes p s m (List.toArray [.ref (B + v0)]) meth c D E := ⟨hx, hb, hr, hml, hown, hts, hlocks, hK⟩
  have hl := lv_entry ([.ref (B + v0)]) (n := 3) (Nat.le_of_ble_eq_true rfl)
  rw [lg_entry_eq]
  generalize (lg_sl ([.ref (B + v0)]) ++ List.replicate (3 - (lg_sl ([.ref (B + v0)])).length) Slot.unset).toArray = ls at hl ⊢
  have hl : lv_has ls 3 [(0, .ref (B + v0))] := hl
  have hP : hs_P B D E g s.heap := hP
  unfold fX0_codeBytes at hf
  refine lv_iconst (v := 0) hx hb dX0_codeBytes_0 (by decide) ?_
  refine lv_istore_n (lv' := [(1, .int (0 : Int32)), (0, .ref (B + v0))]) hx hb dX0_codeBytes_1 rfl hl (by decide) rfl (fun ls hl => ?_)
  refine lv_iconst (v := 0) hx hb dX0_codeBytes_2 (by decide) ?_
  refine lv_istore_n (lv' := [(2, .int (0 : Int32)), (1, .int (0 : Int32)), (0, .ref (B + v0))]) hx hb dX0_codeBytes_3 rfl hl (by decide) rfl (fun ls hl => ?_)
  obtain ⟨x6, g8, h9, hf⟩ := hs_bd_some hf
  refine wX0_codeBytes_4 hX (fun H locs ls hP hS hl => ?_) hs_N _ _ _ h9 _ _ _ hP hS (lv_sub hl [2, 1, 0] rfl)
  refine lv_iload_n hx hb dX0_codeBytes_29 rfl (lv_at hl 0 rfl) ?_
  exact hs_iret hx hb hr hlocks rfl hK hP hS hf dX0_codeBytes_30

theorem dX11_rewrite_0 : decode cX11_rewrite 0 = .ok (.aload_n 0, 1) := by decide +kernel
theorem dX11_rewrite_1 : decode cX11_rewrite 1 = .ok (.getfield 18, 3) := by decide +kernel
theorem dX11_rewrite_4 : decode cX11_rewrite 4 = .ok (.getfield 71, 3) := by decide +kernel
theorem dX11_rewrite_7 : decode cX11_rewrite 7 = .ok (.ifCond .ne 6, 3) := by decide +kernel
theorem dX11_rewrite_10 : decode cX11_rewrite 10 = .ok (.bipush (-2), 2) := by decide +kernel
theorem dX11_rewrite_12 : decode cX11_rewrite 12 = .ok (.ireturn, 1) := by decide +kernel
theorem dX11_rewrite_13 : decode cX11_rewrite 13 = .ok (.aload_n 0, 1) := by decide +kernel
theorem dX11_rewrite_14 : decode cX11_rewrite 14 = .ok (.getfield 24, 3) := by decide +kernel
theorem dX11_rewrite_17 : decode cX11_rewrite 17 = .ok (.invokevirtual 68, 3) := by decide +kernel
theorem dX11_rewrite_20 : decode cX11_rewrite 20 = .ok (.iconst 0, 1) := by decide +kernel
theorem dX11_rewrite_21 : decode cX11_rewrite 21 = .ok (.istore_n 1, 1) := by decide +kernel
theorem dX11_rewrite_22 : decode cX11_rewrite 22 = .ok (.iload_n 1, 1) := by decide +kernel
theorem dX11_rewrite_23 : decode cX11_rewrite 23 = .ok (.aload_n 0, 1) := by decide +kernel
theorem dX11_rewrite_24 : decode cX11_rewrite 24 = .ok (.getfield 18, 3) := by decide +kernel
theorem dX11_rewrite_27 : decode cX11_rewrite 27 = .ok (.getfield 71, 3) := by decide +kernel
theorem dX11_rewrite_30 : decode cX11_rewrite 30 = .ok (.if_icmp .ge 69, 3) := by decide +kernel
theorem dX11_rewrite_33 : decode cX11_rewrite 33 = .ok (.aload_n 0, 1) := by decide +kernel
theorem dX11_rewrite_34 : decode cX11_rewrite 34 = .ok (.getfield 44, 3) := by decide +kernel
theorem dX11_rewrite_37 : decode cX11_rewrite 37 = .ok (.aload_n 0, 1) := by decide +kernel
theorem dX11_rewrite_38 : decode cX11_rewrite 38 = .ok (.getfield 18, 3) := by decide +kernel
theorem dX11_rewrite_41 : decode cX11_rewrite 41 = .ok (.iload_n 1, 1) := by decide +kernel
theorem dX11_rewrite_42 : decode cX11_rewrite 42 = .ok (.invokevirtual 87, 3) := by decide +kernel
theorem dX11_rewrite_45 : decode cX11_rewrite 45 = .ok (.aload_n 0, 1) := by decide +kernel
theorem dX11_rewrite_46 : decode cX11_rewrite 46 = .ok (.getfield 30, 3) := by decide +kernel
theorem dX11_rewrite_49 : decode cX11_rewrite 49 = .ok (.iconst 1, 1) := by decide +kernel
theorem dX11_rewrite_50 : decode cX11_rewrite 50 = .ok (.invokevirtual 91, 3) := by decide +kernel
theorem dX11_rewrite_53 : decode cX11_rewrite 53 = .ok (.istore_n 2, 1) := by decide +kernel
theorem dX11_rewrite_54 : decode cX11_rewrite 54 = .ok (.iload_n 2, 1) := by decide +kernel
theorem dX11_rewrite_55 : decode cX11_rewrite 55 = .ok (.sipush 4000, 3) := by decide +kernel
theorem dX11_rewrite_58 : decode cX11_rewrite 58 = .ok (.if_icmp .le 8, 3) := by decide +kernel
theorem dX11_rewrite_61 : decode cX11_rewrite 61 = .ok (.bipush (-10), 2) := by decide +kernel
theorem dX11_rewrite_63 : decode cX11_rewrite 63 = .ok (.iload_n 1, 1) := by decide +kernel
theorem dX11_rewrite_64 : decode cX11_rewrite 64 = .ok (.isub, 1) := by decide +kernel
theorem dX11_rewrite_65 : decode cX11_rewrite 65 = .ok (.ireturn, 1) := by decide +kernel
theorem dX11_rewrite_66 : decode cX11_rewrite 66 = .ok (.aload_n 0, 1) := by decide +kernel
theorem dX11_rewrite_67 : decode cX11_rewrite 67 = .ok (.getfield 44, 3) := by decide +kernel
theorem dX11_rewrite_70 : decode cX11_rewrite 70 = .ok (.aload_n 0, 1) := by decide +kernel
theorem dX11_rewrite_71 : decode cX11_rewrite 71 = .ok (.getfield 18, 3) := by decide +kernel
theorem dX11_rewrite_74 : decode cX11_rewrite 74 = .ok (.iload_n 1, 1) := by decide +kernel
theorem dX11_rewrite_75 : decode cX11_rewrite 75 = .ok (.invokevirtual 87, 3) := by decide +kernel
theorem dX11_rewrite_78 : decode cX11_rewrite 78 = .ok (.aload_n 0, 1) := by decide +kernel
theorem dX11_rewrite_79 : decode cX11_rewrite 79 = .ok (.getfield 24, 3) := by decide +kernel
theorem dX11_rewrite_82 : decode cX11_rewrite 82 = .ok (.aload_n 0, 1) := by decide +kernel
theorem dX11_rewrite_83 : decode cX11_rewrite 83 = .ok (.getfield 24, 3) := by decide +kernel
theorem dX11_rewrite_86 : decode cX11_rewrite 86 = .ok (.iload_n 1, 1) := by decide +kernel
theorem dX11_rewrite_87 : decode cX11_rewrite 87 = .ok (.invokevirtual 87, 3) := by decide +kernel
theorem dX11_rewrite_90 : decode cX11_rewrite 90 = .ok (.invokevirtual 95, 3) := by decide +kernel
theorem dX11_rewrite_93 : decode cX11_rewrite 93 = .ok (.iinc 1 1, 3) := by decide +kernel
theorem dX11_rewrite_96 : decode cX11_rewrite 96 = .ok (.goto (-74), 3) := by decide +kernel
theorem dX11_rewrite_99 : decode cX11_rewrite 99 = .ok (.aload_n 0, 1) := by decide +kernel
theorem dX11_rewrite_100 : decode cX11_rewrite 100 = .ok (.getfield 24, 3) := by decide +kernel
theorem dX11_rewrite_103 : decode cX11_rewrite 103 = .ok (.aload_n 0, 1) := by decide +kernel
theorem dX11_rewrite_104 : decode cX11_rewrite 104 = .ok (.getfield 18, 3) := by decide +kernel
theorem dX11_rewrite_107 : decode cX11_rewrite 107 = .ok (.getfield 71, 3) := by decide +kernel
theorem dX11_rewrite_110 : decode cX11_rewrite 110 = .ok (.putfield 71, 3) := by decide +kernel
theorem dX11_rewrite_113 : decode cX11_rewrite 113 = .ok (.aload_n 0, 1) := by decide +kernel
theorem dX11_rewrite_114 : decode cX11_rewrite 114 = .ok (.getfield 24, 3) := by decide +kernel
theorem dX11_rewrite_117 : decode cX11_rewrite 117 = .ok (.invokevirtual 99, 3) := by decide +kernel
theorem dX11_rewrite_120 : decode cX11_rewrite 120 = .ok (.ireturn, 1) := by decide +kernel
abbrev wcX11_rewrite : List Cond := .code yX11_rewrite cX11_rewrite 3 (some .int) :: wsL_law
def lX11_rewrite_22 : Nat → Nat → Int32 → hs_S → Option (Nat × Int32 × hs_S)
  | 0, _, _, _ => none
  | n + 1, v0, v1, g =>
    if hs_kd g v0 = 9 then
    if ¬ (hs_R g v0 1) = 0 then
    if hs_kd g ((hs_R g v0 1) - 1) = 0 then
    if (hs_I g ((hs_R g v0 1) - 1) 4) ≤ v1 then (
      some (0, v1, g)
    ) else (
      if ¬ (hs_R g v0 6) = 0 then
      hs_bd (fX0_method ((hs_R g v0 1) - 1) v1 g) fun r14 g13 =>
      if hs_kd g13 v0 = 9 then
      if ¬ (hs_R g13 v0 4) = 0 then
      if hs_kd g13 ((hs_R g v0 6) - 1) = 4 then
      hs_bd (fX5_plan ((hs_R g v0 6) - 1) r14 ((hs_R g13 v0 4) - 1) (1 : Int32) g13) fun r20 g19 =>
      if r20 ≤ (4000 : Int32) then (
        if hs_kd g19 v0 = 9 then
        if ¬ (hs_R g19 v0 6) = 0 then
        if ¬ (hs_R g19 v0 1) = 0 then
        if hs_kd g19 ((hs_R g19 v0 1) - 1) = 0 then
        hs_bd (fX0_method ((hs_R g19 v0 1) - 1) v1 g19) fun r27 g26 =>
        if hs_kd g26 v0 = 9 then
        if ¬ (hs_R g26 v0 3) = 0 then
        if hs_kd g26 ((hs_R g26 v0 3) - 1) = 0 then
        hs_bd (fX0_method ((hs_R g26 v0 3) - 1) v1 g26) fun r33 g32 =>
        if hs_kd g32 ((hs_R g19 v0 6) - 1) = 4 then
        hs_bv (fX5_write ((hs_R g19 v0 6) - 1) r27 ((hs_R g26 v0 3) - 1) r33 g32) fun g36 =>
        lX11_rewrite_22 n v0 (v1 + (1 : Int32)) g36
        else none else none else none else none else none else none else none else none
      ) else (
        some (1, v1, g19)
      )
      else none else none else none else none
    )
    else none else none else none
theorem lX11_rewrite_22_s (n : Nat) (v0 : Nat) (v1 : Int32) (g : hs_S) : lX11_rewrite_22 (n + 1) v0 v1 g =
    if hs_kd g v0 = 9 then
    if ¬ (hs_R g v0 1) = 0 then
    if hs_kd g ((hs_R g v0 1) - 1) = 0 then
    if (hs_I g ((hs_R g v0 1) - 1) 4) ≤ v1 then (
      some (0, v1, g)
    ) else (
      if ¬ (hs_R g v0 6) = 0 then
      hs_bd (fX0_method ((hs_R g v0 1) - 1) v1 g) fun r14 g13 =>
      if hs_kd g13 v0 = 9 then
      if ¬ (hs_R g13 v0 4) = 0 then
      if hs_kd g13 ((hs_R g v0 6) - 1) = 4 then
      hs_bd (fX5_plan ((hs_R g v0 6) - 1) r14 ((hs_R g13 v0 4) - 1) (1 : Int32) g13) fun r20 g19 =>
      if r20 ≤ (4000 : Int32) then (
        if hs_kd g19 v0 = 9 then
        if ¬ (hs_R g19 v0 6) = 0 then
        if ¬ (hs_R g19 v0 1) = 0 then
        if hs_kd g19 ((hs_R g19 v0 1) - 1) = 0 then
        hs_bd (fX0_method ((hs_R g19 v0 1) - 1) v1 g19) fun r27 g26 =>
        if hs_kd g26 v0 = 9 then
        if ¬ (hs_R g26 v0 3) = 0 then
        if hs_kd g26 ((hs_R g26 v0 3) - 1) = 0 then
        hs_bd (fX0_method ((hs_R g26 v0 3) - 1) v1 g26) fun r33 g32 =>
        if hs_kd g32 ((hs_R g19 v0 6) - 1) = 4 then
        hs_bv (fX5_write ((hs_R g19 v0 6) - 1) r27 ((hs_R g26 v0 3) - 1) r33 g32) fun g36 =>
        lX11_rewrite_22 n v0 (v1 + (1 : Int32)) g36
        else none else none else none else none else none else none else none else none
      ) else (
        some (1, v1, g19)
      )
      else none else none else none else none
    )
    else none else none else none := rfl
def fX11_rewrite (v0 : Nat) (g : hs_S) : Option (Int32 × hs_S) :=
  if hs_kd g v0 = 9 then
  if ¬ (hs_R g v0 1) = 0 then
  if hs_kd g ((hs_R g v0 1) - 1) = 0 then
  if (hs_I g ((hs_R g v0 1) - 1) 4) = 0 then (
    some ((-2 : Int32), g)
  ) else (
    if ¬ (hs_R g v0 3) = 0 then
    if hs_kd g ((hs_R g v0 3) - 1) = 0 then
    hs_bv (fX0_empty ((hs_R g v0 3) - 1) g) fun g6 =>
    hs_b3 (lX11_rewrite_22 hs_N v0 (0 : Int32) g6) fun k40 x39 g41 =>
    if k40 = 0 then (
      if hs_kd g41 v0 = 9 then
      if ¬ (hs_R g41 v0 3) = 0 then
      if ¬ (hs_R g41 v0 1) = 0 then
      if hs_kd g41 ((hs_R g41 v0 1) - 1) = 0 then
      if hs_kd g41 ((hs_R g41 v0 3) - 1) = 0 then
      if ¬ (hs_R (hs_wI g41 ((hs_R g41 v0 3) - 1) 4 (hs_I g41 ((hs_R g41 v0 1) - 1) 4)) v0 3) = 0 then
      if hs_kd (hs_wI g41 ((hs_R g41 v0 3) - 1) 4 (hs_I g41 ((hs_R g41 v0 1) - 1) 4)) ((hs_R (hs_wI g41 ((hs_R g41 v0 3) - 1) 4 (hs_I g41 ((hs_R g41 v0 1) - 1) 4)) v0 3) - 1) = 0 then
      hs_bd (fX0_codeBytes ((hs_R (hs_wI g41 ((hs_R g41 v0 3) - 1) 4 (hs_I g41 ((hs_R g41 v0 1) - 1) 4)) v0 3) - 1) (hs_wI g41 ((hs_R g41 v0 3) - 1) 4 (hs_I g41 ((hs_R g41 v0 1) - 1) 4))) fun r51 g50 =>
      some (r51, g50)
      else none else none else none else none else none else none else none
    ) else (
      some (((-10 : Int32) - x39), g41)
    )
    else none else none
  )
  else none else none else none
abbrev rmX11_rewrite : Room := { frames := 6, cells := 0, slots := 0, locals := 141 }
set_option maxHeartbeats 4000000 in
set_option maxRecDepth 100000 in
theorem wX11_rewrite_22 {p : Program} {l : Launch} {e : Env} {s : State} {m : MethodId} {args : Array Value} {below : List Frame} {meth : Method} {c : Code} {B : Nat} {D : va_G} {E : Nat → ClassId} (hX : hs_cx cX11_rewrite (some .int) 3 RX11 wcX11_rewrite p s m args meth c D E) {Q : State → Prop} {o : Nat × Int32 × hs_S} {v0 : Nat} (hex0 : o.1 = 0 → ∀ (H : Heap) (locs : List Loc) (ls : Array Slot), hs_P B D E (o.2.2) H → hs_Sx B s.heap H locs → lv_has ls 3 [(0, .ref (B + v0))] → W p l e rmX11_rewrite s m args below meth c H locs 0 0 Q (F0 m 99 ls [])) (hex1 : o.1 = 1 → ∀ (H : Heap) (locs : List Loc) (ls : Array Slot), hs_P B D E (o.2.2) H → hs_Sx B s.heap H locs → lv_has ls 3 [(1, .int (o.2.1))] → W p l e rmX11_rewrite s m args below meth c H locs 0 0 Q (F0 m 61 ls [])) : ∀ (n : Nat) (v1 : Int32) (g : hs_S), lX11_rewrite_22 n v0 v1 g = some o → ∀ (H : Heap) (locs : List Loc) (ls : Array Slot), hs_P B D E g H → hs_Sx B s.heap H locs → lv_has ls 3 [(0, .ref (B + v0)), (1, .int v1)] → W p l e rmX11_rewrite s m args below meth c H locs 0 0 Q (F0 m 22 ls []) := by
  obtain ⟨hx, hb, hr, hml, hown, hts, hlocks, hK⟩ := id hX
  intro n
  induction n with
  | zero =>
    intro v1 g hf
    cases hf
  | succ n ih =>
    intro v1 g hf H locs ls hP hS hl
    replace hf := (lX11_rewrite_22_s n v0 v1 g).symm.trans hf
    refine lv_iload_n hx hb dX11_rewrite_22 rfl (lv_at hl 1 rfl) ?_
    refine lv_aload_n hx hb dX11_rewrite_23 rfl (lv_at hl 0 rfl) ?_
    obtain ⟨h9, hf⟩ := hs_ck hf
    obtain ⟨h10, hf⟩ := hs_ck hf
    refine hs_getr (C := RX11) (T := TX11) (N := 8) hx hb hts (fun w h => List.mem_cons_of_mem _ (inlX11 w h)) hown hK.1 hP h9 (by decide) rfl 1 (by decide) (hts _ (List.mem_cons_of_mem _ wq17)) (fun _ h => h) rfl h10 dX11_rewrite_24 ?_
    obtain ⟨h11, hf⟩ := hs_ck hf
    refine hs_geti (C := RX0) (T := TX0) (N := 5) hx hb hts (fun w h => List.mem_cons_of_mem _ (inlX0 w h)) hown hK.1 hP h11 (by decide) rfl 4 (by decide) (hts _ (List.mem_cons_of_mem _ wq181)) (fun _ h => h) rfl dX11_rewrite_27 ?_
    refine lv_icmp_ge (tgt := 99) hx hb dX11_rewrite_30 (by decide) (fun hc => ?_) (fun hc => ?_)
    · replace hf := hs_t hf hc
      obtain rfl := Option.some.inj hf
      exact hex0 rfl _ _ _ hP hS (lv_sub hl [0] rfl)
    · replace hf := hs_f hf hc
      refine lv_aload_n hx hb dX11_rewrite_33 rfl (lv_at hl 0 rfl) ?_
      obtain ⟨h12, hf⟩ := hs_ck hf
      refine hs_getr (C := RX11) (T := TX11) (N := 8) hx hb hts (fun w h => List.mem_cons_of_mem _ (inlX11 w h)) hown hK.1 hP h9 (by decide) rfl 6 (by decide) (hts _ (List.mem_cons_of_mem _ wq31)) (fun _ h => h) rfl h12 dX11_rewrite_34 ?_
      refine lv_aload_n hx hb dX11_rewrite_37 rfl (lv_at hl 0 rfl) ?_
      refine hs_getr (C := RX11) (T := TX11) (N := 8) hx hb hts (fun w h => List.mem_cons_of_mem _ (inlX11 w h)) hown hK.1 hP h9 (by decide) rfl 1 (by decide) (hts _ (List.mem_cons_of_mem _ wq17)) (fun _ h => h) rfl h10 dX11_rewrite_38 ?_
      refine lv_iload_n hx hb dX11_rewrite_41 rfl (lv_at hl 1 rfl) ?_
      obtain ⟨r14, g13, h15, hf⟩ := hs_bd_some hf
      refine hs_callr (va_runV (As := [.int v1]) (rest := [.ref (B + ((hs_R g v0 6) - 1))]) ⟨hx, hb, hml, hown, hts⟩ (ctX0_method l B D E ((hs_R g v0 1) - 1) v1 g _ h15) (cwV 1 hts (hs_gV (fun _ h => List.mem_cons_of_mem _ h) wq488 wq108 wq109 wq15 wq110) rfl rfl rfl (by decide +kernel) ⟨Nat.le_of_ble_eq_true rfl, Nat.le_of_ble_eq_true rfl⟩) (hs_preV (r := (RX0, TX0, 5)) hP hK h11 (by decide) rfl) rfl rfl hl.1 rfl (lv_room (Nat.le_of_ble_eq_true rfl)) dX11_rewrite_42 ⟨(Nat.le_of_ble_eq_true rfl), (Nat.le_of_ble_eq_true rfl)⟩) hS (fun H locs hP hS => ?_)
      refine lv_aload_n hx hb dX11_rewrite_45 rfl (lv_at hl 0 rfl) ?_
      obtain ⟨h16, hf⟩ := hs_ck hf
      obtain ⟨h17, hf⟩ := hs_ck hf
      refine hs_getr (C := RX11) (T := TX11) (N := 8) hx hb hts (fun w h => List.mem_cons_of_mem _ (inlX11 w h)) hown hK.1 hP h16 (by decide) rfl 4 (by decide) (hts _ (List.mem_cons_of_mem _ wq23)) (fun _ h => h) rfl h17 dX11_rewrite_46 ?_
      refine lv_iconst (v := 1) hx hb dX11_rewrite_49 (by decide) ?_
      obtain ⟨h18, hf⟩ := hs_ck hf
      obtain ⟨r20, g19, h21, hf⟩ := hs_bd_some hf
      refine hs_calli (va_runV (As := [.ref (B + r14), .ref (B + ((hs_R g13 v0 4) - 1)), .int (1 : Int32)]) (rest := []) ⟨hx, hb, hml, hown, hts⟩ (ctX5_plan l B D E ((hs_R g v0 6) - 1) r14 ((hs_R g13 v0 4) - 1) (1 : Int32) g13 _ h21) (cwV 3 hts (hs_gV (fun _ h => List.mem_cons_of_mem _ h) wq489 wq490 wq491 wq30 wq492) rfl rfl rfl (by decide +kernel) ⟨Nat.le_of_ble_eq_true rfl, Nat.le_of_ble_eq_true rfl⟩) (hs_preV (r := (RX5, TX5, 5)) hP hK h18 (by decide) rfl) rfl rfl hl.1 rfl (lv_room (Nat.le_of_ble_eq_true rfl)) dX11_rewrite_50 ⟨(Nat.le_of_ble_eq_true rfl), (Nat.le_of_ble_eq_true rfl)⟩) hS (fun H locs hP hS => ?_)
      refine lv_istore_n (lv' := [(2, .int r20), (0, .ref (B + v0)), (1, .int v1)]) hx hb dX11_rewrite_53 rfl hl (by decide) rfl (fun ls hl => ?_)
      refine lv_iload_n hx hb dX11_rewrite_54 rfl (lv_at hl 0 rfl) ?_
      refine lv_sipush (v := 4000) hx hb dX11_rewrite_55 (by decide) ?_
      refine lv_icmp_le (tgt := 66) hx hb dX11_rewrite_58 (by decide) (fun hc => ?_) (fun hc => ?_)
      · replace hf := hs_t hf hc
        refine lv_aload_n hx hb dX11_rewrite_66 rfl (lv_at hl 1 rfl) ?_
        obtain ⟨h22, hf⟩ := hs_ck hf
        obtain ⟨h23, hf⟩ := hs_ck hf
        refine hs_getr (C := RX11) (T := TX11) (N := 8) hx hb hts (fun w h => List.mem_cons_of_mem _ (inlX11 w h)) hown hK.1 hP h22 (by decide) rfl 6 (by decide) (hts _ (List.mem_cons_of_mem _ wq31)) (fun _ h => h) rfl h23 dX11_rewrite_67 ?_
        refine lv_aload_n hx hb dX11_rewrite_70 rfl (lv_at hl 1 rfl) ?_
        obtain ⟨h24, hf⟩ := hs_ck hf
        refine hs_getr (C := RX11) (T := TX11) (N := 8) hx hb hts (fun w h => List.mem_cons_of_mem _ (inlX11 w h)) hown hK.1 hP h22 (by decide) rfl 1 (by decide) (hts _ (List.mem_cons_of_mem _ wq17)) (fun _ h => h) rfl h24 dX11_rewrite_71 ?_
        refine lv_iload_n hx hb dX11_rewrite_74 rfl (lv_at hl 2 rfl) ?_
        obtain ⟨h25, hf⟩ := hs_ck hf
        obtain ⟨r27, g26, h28, hf⟩ := hs_bd_some hf
        refine hs_callr (va_runV (As := [.int v1]) (rest := [.ref (B + ((hs_R g19 v0 6) - 1))]) ⟨hx, hb, hml, hown, hts⟩ (ctX0_method l B D E ((hs_R g19 v0 1) - 1) v1 g19 _ h28) (cwV 1 hts (hs_gV (fun _ h => List.mem_cons_of_mem _ h) wq488 wq108 wq109 wq15 wq110) rfl rfl rfl (by decide +kernel) ⟨Nat.le_of_ble_eq_true rfl, Nat.le_of_ble_eq_true rfl⟩) (hs_preV (r := (RX0, TX0, 5)) hP hK h25 (by decide) rfl) rfl rfl hl.1 rfl (lv_room (Nat.le_of_ble_eq_true rfl)) dX11_rewrite_75 ⟨(Nat.le_of_ble_eq_true rfl), (Nat.le_of_ble_eq_true rfl)⟩) hS (fun H locs hP hS => ?_)
        refine lv_aload_n hx hb dX11_rewrite_78 rfl (lv_at hl 1 rfl) ?_
        obtain ⟨h29, hf⟩ := hs_ck hf
        obtain ⟨h30, hf⟩ := hs_ck hf
        refine hs_getr (C := RX11) (T := TX11) (N := 8) hx hb hts (fun w h => List.mem_cons_of_mem _ (inlX11 w h)) hown hK.1 hP h29 (by decide) rfl 3 (by decide) (hts _ (List.mem_cons_of_mem _ wq19)) (fun _ h => h) rfl h30 dX11_rewrite_79 ?_
        refine lv_aload_n hx hb dX11_rewrite_82 rfl (lv_at hl 1 rfl) ?_
        refine hs_getr (C := RX11) (T := TX11) (N := 8) hx hb hts (fun w h => List.mem_cons_of_mem _ (inlX11 w h)) hown hK.1 hP h29 (by decide) rfl 3 (by decide) (hts _ (List.mem_cons_of_mem _ wq19)) (fun _ h => h) rfl h30 dX11_rewrite_83 ?_
        refine lv_iload_n hx hb dX11_rewrite_86 rfl (lv_at hl 2 rfl) ?_
        obtain ⟨h31, hf⟩ := hs_ck hf
        obtain ⟨r33, g32, h34, hf⟩ := hs_bd_some hf
        refine hs_callr (va_runV (As := [.int v1]) (rest := [.ref (B + ((hs_R g26 v0 3) - 1)), .ref (B + r27), .ref (B + ((hs_R g19 v0 6) - 1))]) ⟨hx, hb, hml, hown, hts⟩ (ctX0_method l B D E ((hs_R g26 v0 3) - 1) v1 g26 _ h34) (cwV 1 hts (hs_gV (fun _ h => List.mem_cons_of_mem _ h) wq488 wq108 wq109 wq15 wq110) rfl rfl rfl (by decide +kernel) ⟨Nat.le_of_ble_eq_true rfl, Nat.le_of_ble_eq_true rfl⟩) (hs_preV (r := (RX0, TX0, 5)) hP hK h31 (by decide) rfl) rfl rfl hl.1 rfl (lv_room (Nat.le_of_ble_eq_true rfl)) dX11_rewrite_87 ⟨(Nat.le_of_ble_eq_true rfl), (Nat.le_of_ble_eq_true rfl)⟩) hS (fun H locs hP hS => ?_)
        obtain ⟨h35, hf⟩ := hs_ck hf
        obtain ⟨g36, h38, hf⟩ := hs_bv_some hf
        refine hs_callv (va_runV (As := [.ref (B + r27), .ref (B + ((hs_R g26 v0 3) - 1)), .ref (B + r33)]) (rest := []) ⟨hx, hb, hml, hown, hts⟩ (ctX5_write l B D E ((hs_R g19 v0 6) - 1) r27 ((hs_R g26 v0 3) - 1) r33 g32 _ h38) (cwV 3 hts (hs_gV (fun _ h => List.mem_cons_of_mem _ h) wq548 wq549 wq550 wq30 wq551) rfl rfl rfl (by decide +kernel) ⟨Nat.le_of_ble_eq_true rfl, Nat.le_of_ble_eq_true rfl⟩) (hs_preV (r := (RX5, TX5, 5)) hP hK h35 (by decide) rfl) rfl rfl hl.1 rfl (lv_room (Nat.le_of_ble_eq_true rfl)) dX11_rewrite_90 ⟨(Nat.le_of_ble_eq_true rfl), (Nat.le_of_ble_eq_true rfl)⟩) hS (fun H locs hP hS => ?_)
        refine lv_iinc (v := (v1 + (1 : Int32))) (lv' := [(1, .int (v1 + (1 : Int32))), (2, .int r20), (0, .ref (B + v0))]) hx hb dX11_rewrite_93 hl (k := 2) rfl (by rfl) (by decide) rfl (fun ls hl => ?_)
        refine lv_goto (tgt := 22) hx hb dX11_rewrite_96 (by decide) ?_
        exact ih _ _ hf _ _ _ hP hS (lv_sub hl [2, 0] rfl)
      · replace hf := hs_f hf hc
        obtain rfl := Option.some.inj hf
        exact hex1 rfl _ _ _ hP hS (lv_sub hl [2] rfl)

set_option maxHeartbeats 4000000 in
set_option maxRecDepth 100000 in
theorem ctX11_rewrite (l : Launch) (B : Nat) (D : va_G) (E : Nat → ClassId) (v0 : Nat) (g : hs_S) (o : Int32 × hs_S) (hf : fX11_rewrite v0 g = some o) : Met l yX11_rewrite wcX11_rewrite rmX11_rewrite (hs_Pc B D E g [.ref (B + v0)]) (hs_Qi B D E o) (0) (0) (hs_F B) := by
  refine Met.ofW (cc := cX11_rewrite) (maxL := 3) (ret := (some .int)) (by decide) rfl ?_
  intro p e s m args below meth c s₁ Bd hml hv
  obtain ⟨rfl, hP, hK⟩ := hv
  have hx := Bd.exec
  have hb := Bd.bytes
  have hr := Bd.returns
  have hts := atoms_spec (ws := wcX11_rewrite) Bd.pre
  have hown : s.vm.findClass RX11 = some m.cls := findClass_of_methodNamed Bd.named
  have hlocks := Bd.notSynchronized
  have hS : hs_Sx B s.heap s.heap [] := va_S.rf
  have hX : hs_cx cX11_rewrite (some .int) 3 RX11 wcX11_rewrite p s m (List.toArray [.ref (B + v0)]) meth c D E := ⟨hx, hb, hr, hml, hown, hts, hlocks, hK⟩
  have hl := lv_entry ([.ref (B + v0)]) (n := 3) (Nat.le_of_ble_eq_true rfl)
  rw [lg_entry_eq]
  generalize (lg_sl ([.ref (B + v0)]) ++ List.replicate (3 - (lg_sl ([.ref (B + v0)])).length) Slot.unset).toArray = ls at hl ⊢
  have hl : lv_has ls 3 [(0, .ref (B + v0))] := hl
  have hP : hs_P B D E g s.heap := hP
  unfold fX11_rewrite at hf
  refine lv_aload_n hx hb dX11_rewrite_0 rfl (lv_at hl 0 rfl) ?_
  obtain ⟨h1, hf⟩ := hs_ck hf
  obtain ⟨h2, hf⟩ := hs_ck hf
  refine hs_getr (C := RX11) (T := TX11) (N := 8) hx hb hts (fun w h => List.mem_cons_of_mem _ (inlX11 w h)) hown hK.1 hP h1 (by decide) rfl 1 (by decide) (hts _ (List.mem_cons_of_mem _ wq17)) (fun _ h => h) rfl h2 dX11_rewrite_1 ?_
  obtain ⟨h3, hf⟩ := hs_ck hf
  refine hs_geti (C := RX0) (T := TX0) (N := 5) hx hb hts (fun w h => List.mem_cons_of_mem _ (inlX0 w h)) hown hK.1 hP h3 (by decide) rfl 4 (by decide) (hts _ (List.mem_cons_of_mem _ wq181)) (fun _ h => h) rfl dX11_rewrite_4 ?_
  refine lv_if_ne (tgt := 13) hx hb dX11_rewrite_7 (by decide) (fun hc => ?_) (fun hc => ?_)
  · replace hf := hs_f hf hc
    refine lv_aload_n hx hb dX11_rewrite_13 rfl (lv_at hl 0 rfl) ?_
    obtain ⟨h4, hf⟩ := hs_ck hf
    refine hs_getr (C := RX11) (T := TX11) (N := 8) hx hb hts (fun w h => List.mem_cons_of_mem _ (inlX11 w h)) hown hK.1 hP h1 (by decide) rfl 3 (by decide) (hts _ (List.mem_cons_of_mem _ wq19)) (fun _ h => h) rfl h4 dX11_rewrite_14 ?_
    obtain ⟨h5, hf⟩ := hs_ck hf
    obtain ⟨g6, h8, hf⟩ := hs_bv_some hf
    refine hs_callv (va_runV (As := []) (rest := []) ⟨hx, hb, hml, hown, hts⟩ (ctX0_empty l B D E ((hs_R g v0 3) - 1) g _ h8) (cwV 0 hts (hs_gV (fun _ h => List.mem_cons_of_mem _ h) wq384 wq385 wq386 wq15 wq387) rfl rfl rfl (by decide +kernel) ⟨Nat.le_of_ble_eq_true rfl, Nat.le_of_ble_eq_true rfl⟩) (hs_preV (r := (RX0, TX0, 5)) hP hK h5 (by decide) rfl) rfl rfl hl.1 rfl (lv_room (Nat.le_of_ble_eq_true rfl)) dX11_rewrite_17 ⟨(Nat.le_of_ble_eq_true rfl), (Nat.le_of_ble_eq_true rfl)⟩) hS (fun H locs hP hS => ?_)
    refine lv_iconst (v := 0) hx hb dX11_rewrite_20 (by decide) ?_
    refine lv_istore_n (lv' := [(1, .int (0 : Int32)), (0, .ref (B + v0))]) hx hb dX11_rewrite_21 rfl hl (by decide) rfl (fun ls hl => ?_)
    obtain ⟨k40, x39, g41, h42, hf⟩ := hs_b3_some hf
    refine wX11_rewrite_22 hX (fun hlab H locs ls hP hS hl => ?_) (fun hlab H locs ls hP hS hl => ?_) hs_N _ _ h42 _ _ _ hP hS (lv_sub hl [1, 0] rfl)
    · replace hlab : k40 = 0 := hlab
      replace hf := hs_t hf hlab
      refine lv_aload_n hx hb dX11_rewrite_99 rfl (lv_at hl 0 rfl) ?_
      obtain ⟨h43, hf⟩ := hs_ck hf
      obtain ⟨h44, hf⟩ := hs_ck hf
      refine hs_getr (C := RX11) (T := TX11) (N := 8) hx hb hts (fun w h => List.mem_cons_of_mem _ (inlX11 w h)) hown hK.1 hP h43 (by decide) rfl 3 (by decide) (hts _ (List.mem_cons_of_mem _ wq19)) (fun _ h => h) rfl h44 dX11_rewrite_100 ?_
      refine lv_aload_n hx hb dX11_rewrite_103 rfl (lv_at hl 0 rfl) ?_
      obtain ⟨h45, hf⟩ := hs_ck hf
      refine hs_getr (C := RX11) (T := TX11) (N := 8) hx hb hts (fun w h => List.mem_cons_of_mem _ (inlX11 w h)) hown hK.1 hP h43 (by decide) rfl 1 (by decide) (hts _ (List.mem_cons_of_mem _ wq17)) (fun _ h => h) rfl h45 dX11_rewrite_104 ?_
      obtain ⟨h46, hf⟩ := hs_ck hf
      refine hs_geti (C := RX0) (T := TX0) (N := 5) hx hb hts (fun w h => List.mem_cons_of_mem _ (inlX0 w h)) hown hK.1 hP h46 (by decide) rfl 4 (by decide) (hts _ (List.mem_cons_of_mem _ wq181)) (fun _ h => h) rfl dX11_rewrite_107 ?_
      obtain ⟨h47, hf⟩ := hs_ck hf
      refine hs_puti (C := RX0) (T := TX0) (N := 5) hx hb hts (fun w h => List.mem_cons_of_mem _ (inlX0 w h)) tyX0 tyX0_ok nmX0 hown hK.1 hP hS h47 (by decide) rfl 4 (by decide) (hts _ (List.mem_cons_of_mem _ wq181)) (fun _ h => h) (Or.inl rfl) rfl rfl rfl dX11_rewrite_110 (fun H locs hP hS => ?_)
      refine lv_aload_n hx hb dX11_rewrite_113 rfl (lv_at hl 0 rfl) ?_
      obtain ⟨h48, hf⟩ := hs_ck hf
      refine hs_getr (C := RX11) (T := TX11) (N := 8) hx hb hts (fun w h => List.mem_cons_of_mem _ (inlX11 w h)) hown hK.1 hP h43 (by decide) rfl 3 (by decide) (hts _ (List.mem_cons_of_mem _ wq19)) (fun _ h => h) rfl h48 dX11_rewrite_114 ?_
      obtain ⟨h49, hf⟩ := hs_ck hf
      obtain ⟨r51, g50, h52, hf⟩ := hs_bd_some hf
      refine hs_calli (va_runV (As := []) (rest := []) ⟨hx, hb, hml, hown, hts⟩ (ctX0_codeBytes l B D E ((hs_R (hs_wI g41 ((hs_R g41 v0 3) - 1) 4 (hs_I g41 ((hs_R g41 v0 1) - 1) 4)) v0 3) - 1) (hs_wI g41 ((hs_R g41 v0 3) - 1) 4 (hs_I g41 ((hs_R g41 v0 1) - 1) 4)) _ h52) (cwV 0 hts (hs_gV (fun _ h => List.mem_cons_of_mem _ h) wq585 wq586 wq587 wq15 wq588) rfl rfl rfl (by decide +kernel) ⟨Nat.le_of_ble_eq_true rfl, Nat.le_of_ble_eq_true rfl⟩) (hs_preV (r := (RX0, TX0, 5)) hP hK h49 (by decide) rfl) rfl rfl hl.1 rfl (lv_room (Nat.le_of_ble_eq_true rfl)) dX11_rewrite_117 ⟨(Nat.le_of_ble_eq_true rfl), (Nat.le_of_ble_eq_true rfl)⟩) hS (fun H locs hP hS => ?_)
      exact hs_iret hx hb hr hlocks rfl hK hP hS hf dX11_rewrite_120
    · replace hlab : k40 = 1 := hlab
      replace hf := hs_f hf (by rw [hlab]; decide)
      refine lv_bipush (v := -10) hx hb dX11_rewrite_61 (by decide) ?_
      refine lv_iload_n hx hb dX11_rewrite_63 rfl (lv_at hl 0 rfl) ?_
      refine lv_isub hx hb dX11_rewrite_64 ?_
      exact hs_iret hx hb hr hlocks rfl hK hP hS hf dX11_rewrite_65
  · replace hf := hs_t hf hc
    refine lv_bipush (v := -2) hx hb dX11_rewrite_10 (by decide) ?_
    exact hs_iret hx hb hr hlocks rfl hK hP hS hf dX11_rewrite_12

theorem dX11_told_0 : decode cX11_told 0 = .ok (.iload_n 2, 1) := by decide +kernel
theorem dX11_told_1 : decode cX11_told 1 = .ok (.ifCond .eq 10, 3) := by decide +kernel
theorem dX11_told_4 : decode cX11_told 4 = .ok (.aload_n 0, 1) := by decide +kernel
theorem dX11_told_5 : decode cX11_told 5 = .ok (.getfield 24, 3) := by decide +kernel
theorem dX11_told_8 : decode cX11_told 8 = .ok (.goto 7, 3) := by decide +kernel
theorem dX11_told_11 : decode cX11_told 11 = .ok (.aload_n 0, 1) := by decide +kernel
theorem dX11_told_12 : decode cX11_told 12 = .ok (.getfield 18, 3) := by decide +kernel
theorem dX11_told_15 : decode cX11_told 15 = .ok (.astore 4, 2) := by decide +kernel
theorem dX11_told_17 : decode cX11_told 17 = .ok (.aload 4, 2) := by decide +kernel
theorem dX11_told_19 : decode cX11_told 19 = .ok (.getfield 71, 3) := by decide +kernel
theorem dX11_told_22 : decode cX11_told 22 = .ok (.ifCond .ne 6, 3) := by decide +kernel
theorem dX11_told_25 : decode cX11_told 25 = .ok (.bipush (-2), 2) := by decide +kernel
theorem dX11_told_27 : decode cX11_told 27 = .ok (.ireturn, 1) := by decide +kernel
theorem dX11_told_28 : decode cX11_told 28 = .ok (.aload 4, 2) := by decide +kernel
theorem dX11_told_30 : decode cX11_told 30 = .ok (.iload_n 1, 1) := by decide +kernel
theorem dX11_told_31 : decode cX11_told 31 = .ok (.invokevirtual 103, 3) := by decide +kernel
theorem dX11_told_34 : decode cX11_told 34 = .ok (.ifCond .ne 6, 3) := by decide +kernel
theorem dX11_told_37 : decode cX11_told 37 = .ok (.bipush (-3), 2) := by decide +kernel
theorem dX11_told_39 : decode cX11_told 39 = .ok (.ireturn, 1) := by decide +kernel
theorem dX11_told_40 : decode cX11_told 40 = .ok (.aload 4, 2) := by decide +kernel
theorem dX11_told_42 : decode cX11_told 42 = .ok (.iload_n 1, 1) := by decide +kernel
theorem dX11_told_43 : decode cX11_told 43 = .ok (.invokevirtual 87, 3) := by decide +kernel
theorem dX11_told_46 : decode cX11_told 46 = .ok (.astore 5, 2) := by decide +kernel
theorem dX11_told_48 : decode cX11_told 48 = .ok (.iload_n 3, 1) := by decide +kernel
theorem dX11_told_49 : decode cX11_told 49 = .ok (.tableswitch 83 0 5 #[39, 45, 51, 57, 63, 69], 39) := by decide +kernel
theorem dX11_told_88 : decode cX11_told 88 = .ok (.aload 5, 2) := by decide +kernel
theorem dX11_told_90 : decode cX11_told 90 = .ok (.getfield 107, 3) := by decide +kernel
theorem dX11_told_93 : decode cX11_told 93 = .ok (.ireturn, 1) := by decide +kernel
theorem dX11_told_94 : decode cX11_told 94 = .ok (.aload 5, 2) := by decide +kernel
theorem dX11_told_96 : decode cX11_told 96 = .ok (.getfield 112, 3) := by decide +kernel
theorem dX11_told_99 : decode cX11_told 99 = .ok (.ireturn, 1) := by decide +kernel
theorem dX11_told_100 : decode cX11_told 100 = .ok (.aload 5, 2) := by decide +kernel
theorem dX11_told_102 : decode cX11_told 102 = .ok (.getfield 115, 3) := by decide +kernel
theorem dX11_told_105 : decode cX11_told 105 = .ok (.ireturn, 1) := by decide +kernel
theorem dX11_told_106 : decode cX11_told 106 = .ok (.aload 5, 2) := by decide +kernel
theorem dX11_told_108 : decode cX11_told 108 = .ok (.getfield 118, 3) := by decide +kernel
theorem dX11_told_111 : decode cX11_told 111 = .ok (.ireturn, 1) := by decide +kernel
theorem dX11_told_112 : decode cX11_told 112 = .ok (.aload 5, 2) := by decide +kernel
theorem dX11_told_114 : decode cX11_told 114 = .ok (.getfield 121, 3) := by decide +kernel
theorem dX11_told_117 : decode cX11_told 117 = .ok (.ireturn, 1) := by decide +kernel
theorem dX11_told_118 : decode cX11_told 118 = .ok (.iload_n 2, 1) := by decide +kernel
theorem dX11_told_119 : decode cX11_told 119 = .ok (.ifCond .eq 7, 3) := by decide +kernel
theorem dX11_told_122 : decode cX11_told 122 = .ok (.iconst (-1), 1) := by decide +kernel
theorem dX11_told_123 : decode cX11_told 123 = .ok (.goto 8, 3) := by decide +kernel
theorem dX11_told_126 : decode cX11_told 126 = .ok (.aload 5, 2) := by decide +kernel
theorem dX11_told_128 : decode cX11_told 128 = .ok (.getfield 124, 3) := by decide +kernel
theorem dX11_told_131 : decode cX11_told 131 = .ok (.ireturn, 1) := by decide +kernel
theorem dX11_told_132 : decode cX11_told 132 = .ok (.bipush (-3), 2) := by decide +kernel
theorem dX11_told_134 : decode cX11_told 134 = .ok (.ireturn, 1) := by decide +kernel
abbrev wcX11_told : List Cond := .code yX11_told cX11_told 6 (some .int) :: wsL_law
def jX11_told_15 (v1 : Int32) (v2 : Int32) (v3 : Int32) (s0 : Nat) (g : hs_S) : Option (Int32 × hs_S) :=
  if hs_kd g s0 = 0 then
  if (hs_I g s0 4) = 0 then (
    some ((-2 : Int32), g)
  ) else (
    hs_bd (fX0_has s0 v1 g) fun r5 g4 =>
    if r5 = 0 then (
      some ((-3 : Int32), g4)
    ) else (
      if hs_kd g4 s0 = 0 then
      hs_bd (fX0_method s0 v1 g4) fun r9 g8 =>
      if v3 = (0 : Int32) then (
        if hs_kd g8 r9 = 6 then
        some ((hs_I g8 r9 3), g8)
        else none
      ) else (
      if v3 = (1 : Int32) then (
        if hs_kd g8 r9 = 6 then
        some ((hs_I g8 r9 7), g8)
        else none
      ) else (
      if v3 = (2 : Int32) then (
        if hs_kd g8 r9 = 6 then
        some ((hs_I g8 r9 6), g8)
        else none
      ) else (
      if v3 = (3 : Int32) then (
        if hs_kd g8 r9 = 6 then
        some ((hs_I g8 r9 8), g8)
        else none
      ) else (
      if v3 = (4 : Int32) then (
        if hs_kd g8 r9 = 6 then
        some ((hs_I g8 r9 9), g8)
        else none
      ) else (
      if v3 = (5 : Int32) then (
        if v2 = 0 then (
          if hs_kd g8 r9 = 6 then
          some ((hs_I g8 r9 10), g8)
          else none
        ) else (
          some ((-1 : Int32), g8)
        )
      ) else (
        some ((-3 : Int32), g8)
      ))))))
      else none
    )
  )
  else none
def fX11_told (v0 : Nat) (v1 : Int32) (v2 : Int32) (v3 : Int32) (g : hs_S) : Option (Int32 × hs_S) :=
  if v2 = 0 then (
    if hs_kd g v0 = 9 then
    if ¬ (hs_R g v0 1) = 0 then
    jX11_told_15 v1 v2 v3 ((hs_R g v0 1) - 1) g
    else none else none
  ) else (
    if hs_kd g v0 = 9 then
    if ¬ (hs_R g v0 3) = 0 then
    jX11_told_15 v1 v2 v3 ((hs_R g v0 3) - 1) g
    else none else none
  )
abbrev rmX11_told : Room := { frames := 1, cells := 0, slots := 0, locals := 21 }
set_option maxHeartbeats 4000000 in
set_option maxRecDepth 100000 in
theorem wX11_told_j15 {p : Program} {l : Launch} {e : Env} {s : State} {m : MethodId} {args : Array Value} {below : List Frame} {meth : Method} {c : Code} {B : Nat} {D : va_G} {E : Nat → ClassId} (hX : hs_cx cX11_told (some .int) 6 RX11 wcX11_told p s m args meth c D E) {o : Int32 × hs_S}  {v1 : Int32} {v2 : Int32} {v3 : Int32} {s0 : Nat}   {g : hs_S} {H : Heap} {locs : List Loc} {ls : Array Slot} (hf : jX11_told_15 v1 v2 v3 s0 g = some o) (hP : hs_P B D E g H) (hS : hs_Sx B s.heap H locs) (hl : lv_has ls 6 [(1, .int v1), (2, .int v2), (3, .int v3)]) : W p l e rmX11_told s m args below meth c H locs 0 0 (MQ below (hs_Qi B D E o) args s 0 0 (hs_F B)) (F0 m 15 ls [.ref (B + s0)]) := by
  obtain ⟨hx, hb, hr, hml, hown, hts, hlocks, hK⟩ := id hX
  unfold jX11_told_15 at hf
  refine lv_astore (lv' := [(4, .ref (B + s0)), (1, .int v1), (2, .int v2), (3, .int v3)]) hx hb dX11_told_15 hl (by decide) rfl (fun ls hl => ?_)
  refine lv_aload hx hb dX11_told_17 (lv_at hl 0 rfl) ?_
  obtain ⟨h3, hf⟩ := hs_ck hf
  refine hs_geti (C := RX0) (T := TX0) (N := 5) hx hb hts (fun w h => List.mem_cons_of_mem _ (inlX0 w h)) hown hK.1 hP h3 (by decide) rfl 4 (by decide) (hts _ (List.mem_cons_of_mem _ wq181)) (fun _ h => h) rfl dX11_told_19 ?_
  refine lv_if_ne (tgt := 28) hx hb dX11_told_22 (by decide) (fun hc => ?_) (fun hc => ?_)
  · replace hf := hs_f hf hc
    refine lv_aload hx hb dX11_told_28 (lv_at hl 0 rfl) ?_
    refine lv_iload_n hx hb dX11_told_30 rfl (lv_at hl 1 rfl) ?_
    obtain ⟨r5, g4, h6, hf⟩ := hs_bd_some hf
    refine hs_calli (va_runV (As := [.int v1]) (rest := []) ⟨hx, hb, hml, hown, hts⟩ (ctX0_has l B D E s0 v1 g _ h6) (cwV 1 hts (hs_gV (fun _ h => List.mem_cons_of_mem _ h) wq641 wq275 wq276 wq15 wq277) rfl rfl rfl (by decide +kernel) ⟨Nat.le_of_ble_eq_true rfl, Nat.le_of_ble_eq_true rfl⟩) (hs_preV (r := (RX0, TX0, 5)) hP hK h3 (by decide) rfl) rfl rfl hl.1 rfl (lv_room (Nat.le_of_ble_eq_true rfl)) dX11_told_31 ⟨(Nat.le_of_ble_eq_true rfl), (Nat.le_of_ble_eq_true rfl)⟩) hS (fun H locs hP hS => ?_)
    refine lv_if_ne (tgt := 40) hx hb dX11_told_34 (by decide) (fun hc => ?_) (fun hc => ?_)
    · replace hf := hs_f hf hc
      refine lv_aload hx hb dX11_told_40 (lv_at hl 0 rfl) ?_
      refine lv_iload_n hx hb dX11_told_42 rfl (lv_at hl 1 rfl) ?_
      obtain ⟨h7, hf⟩ := hs_ck hf
      obtain ⟨r9, g8, h10, hf⟩ := hs_bd_some hf
      refine hs_callr (va_runV (As := [.int v1]) (rest := []) ⟨hx, hb, hml, hown, hts⟩ (ctX0_method l B D E s0 v1 g4 _ h10) (cwV 1 hts (hs_gV (fun _ h => List.mem_cons_of_mem _ h) wq488 wq108 wq109 wq15 wq110) rfl rfl rfl (by decide +kernel) ⟨Nat.le_of_ble_eq_true rfl, Nat.le_of_ble_eq_true rfl⟩) (hs_preV (r := (RX0, TX0, 5)) hP hK h7 (by decide) rfl) rfl rfl hl.1 rfl (lv_room (Nat.le_of_ble_eq_true rfl)) dX11_told_43 ⟨(Nat.le_of_ble_eq_true rfl), (Nat.le_of_ble_eq_true rfl)⟩) hS (fun H locs hP hS => ?_)
      refine lv_astore (lv' := [(5, .ref (B + r9)), (4, .ref (B + s0)), (1, .int v1), (2, .int v2), (3, .int v3)]) hx hb dX11_told_46 hl (by decide) rfl (fun ls hl => ?_)
      refine lv_iload_n hx hb dX11_told_48 rfl (lv_at hl 4 rfl) ?_
      by_cases hc : v3 = (0 : Int32)
      · replace hf := hs_t hf hc
        refine lv_tableIn (off := 39) (tgt := 88) hx hb dX11_told_49 (by rw [hc]; decide +kernel) (by rw [hc]; decide +kernel) (by rw [hc]; first | done | decide +kernel) (by decide) ?_
        refine lv_aload hx hb dX11_told_88 (lv_at hl 0 rfl) ?_
        obtain ⟨h11, hf⟩ := hs_ck hf
        refine hs_geti (C := RX7) (T := TX7) (N := 11) hx hb hts (fun w h => List.mem_cons_of_mem _ (inlX7 w h)) hown hK.1 hP h11 (by decide) rfl 3 (by decide) (hts _ (List.mem_cons_of_mem _ wq635)) (fun _ h => h) rfl dX11_told_90 ?_
        exact hs_iret hx hb hr hlocks rfl hK hP hS hf dX11_told_93
      have hn0 := hc
      replace hf := hs_f hf hc
      clear hc
      by_cases hc : v3 = (1 : Int32)
      · replace hf := hs_t hf hc
        refine lv_tableIn (off := 45) (tgt := 94) hx hb dX11_told_49 (by rw [hc]; decide +kernel) (by rw [hc]; decide +kernel) (by rw [hc]; first | done | decide +kernel) (by decide) ?_
        refine lv_aload hx hb dX11_told_94 (lv_at hl 0 rfl) ?_
        obtain ⟨h12, hf⟩ := hs_ck hf
        refine hs_geti (C := RX7) (T := TX7) (N := 11) hx hb hts (fun w h => List.mem_cons_of_mem _ (inlX7 w h)) hown hK.1 hP h12 (by decide) rfl 7 (by decide) (hts _ (List.mem_cons_of_mem _ wq636)) (fun _ h => h) rfl dX11_told_96 ?_
        exact hs_iret hx hb hr hlocks rfl hK hP hS hf dX11_told_99
      have hn1 := hc
      replace hf := hs_f hf hc
      clear hc
      by_cases hc : v3 = (2 : Int32)
      · replace hf := hs_t hf hc
        refine lv_tableIn (off := 51) (tgt := 100) hx hb dX11_told_49 (by rw [hc]; decide +kernel) (by rw [hc]; decide +kernel) (by rw [hc]; first | done | decide +kernel) (by decide) ?_
        refine lv_aload hx hb dX11_told_100 (lv_at hl 0 rfl) ?_
        obtain ⟨h13, hf⟩ := hs_ck hf
        refine hs_geti (C := RX7) (T := TX7) (N := 11) hx hb hts (fun w h => List.mem_cons_of_mem _ (inlX7 w h)) hown hK.1 hP h13 (by decide) rfl 6 (by decide) (hts _ (List.mem_cons_of_mem _ wq637)) (fun _ h => h) rfl dX11_told_102 ?_
        exact hs_iret hx hb hr hlocks rfl hK hP hS hf dX11_told_105
      have hn2 := hc
      replace hf := hs_f hf hc
      clear hc
      by_cases hc : v3 = (3 : Int32)
      · replace hf := hs_t hf hc
        refine lv_tableIn (off := 57) (tgt := 106) hx hb dX11_told_49 (by rw [hc]; decide +kernel) (by rw [hc]; decide +kernel) (by rw [hc]; first | done | decide +kernel) (by decide) ?_
        refine lv_aload hx hb dX11_told_106 (lv_at hl 0 rfl) ?_
        obtain ⟨h14, hf⟩ := hs_ck hf
        refine hs_geti (C := RX7) (T := TX7) (N := 11) hx hb hts (fun w h => List.mem_cons_of_mem _ (inlX7 w h)) hown hK.1 hP h14 (by decide) rfl 8 (by decide) (hts _ (List.mem_cons_of_mem _ wq638)) (fun _ h => h) rfl dX11_told_108 ?_
        exact hs_iret hx hb hr hlocks rfl hK hP hS hf dX11_told_111
      have hn3 := hc
      replace hf := hs_f hf hc
      clear hc
      by_cases hc : v3 = (4 : Int32)
      · replace hf := hs_t hf hc
        refine lv_tableIn (off := 63) (tgt := 112) hx hb dX11_told_49 (by rw [hc]; decide +kernel) (by rw [hc]; decide +kernel) (by rw [hc]; first | done | decide +kernel) (by decide) ?_
        refine lv_aload hx hb dX11_told_112 (lv_at hl 0 rfl) ?_
        obtain ⟨h15, hf⟩ := hs_ck hf
        refine hs_geti (C := RX7) (T := TX7) (N := 11) hx hb hts (fun w h => List.mem_cons_of_mem _ (inlX7 w h)) hown hK.1 hP h15 (by decide) rfl 9 (by decide) (hts _ (List.mem_cons_of_mem _ wq639)) (fun _ h => h) rfl dX11_told_114 ?_
        exact hs_iret hx hb hr hlocks rfl hK hP hS hf dX11_told_117
      have hn4 := hc
      replace hf := hs_f hf hc
      clear hc
      by_cases hc : v3 = (5 : Int32)
      · replace hf := hs_t hf hc
        refine lv_tableIn (off := 69) (tgt := 118) hx hb dX11_told_49 (by rw [hc]; decide +kernel) (by rw [hc]; decide +kernel) (by rw [hc]; first | done | decide +kernel) (by decide) ?_
        refine lv_iload_n hx hb dX11_told_118 rfl (lv_at hl 3 rfl) ?_
        refine lv_if_eq (tgt := 126) hx hb dX11_told_119 (by decide) (fun hc => ?_) (fun hc => ?_)
        · replace hf := hs_t hf hc
          refine lv_aload hx hb dX11_told_126 (lv_at hl 0 rfl) ?_
          obtain ⟨h16, hf⟩ := hs_ck hf
          refine hs_geti (C := RX7) (T := TX7) (N := 11) hx hb hts (fun w h => List.mem_cons_of_mem _ (inlX7 w h)) hown hK.1 hP h16 (by decide) rfl 10 (by decide) (hts _ (List.mem_cons_of_mem _ wq640)) (fun _ h => h) rfl dX11_told_128 ?_
          exact hs_iret hx hb hr hlocks rfl hK hP hS hf dX11_told_131
        · replace hf := hs_f hf hc
          refine lv_iconst (v := -1) hx hb dX11_told_122 (by decide) ?_
          refine lv_goto (tgt := 131) hx hb dX11_told_123 (by decide) ?_
          exact hs_iret hx hb hr hlocks rfl hK hP hS hf dX11_told_131
      have hn5 := hc
      replace hf := hs_f hf hc
      clear hc
      refine lv_tableOut (tgt := 132) hx hb dX11_told_49 (by have := lv_neT (a := 0) hn0 rfl; have := lv_neT (a := 1) hn1 rfl; have := lv_neT (a := 2) hn2 rfl; have := lv_neT (a := 3) hn3 rfl; have := lv_neT (a := 4) hn4 rfl; have := lv_neT (a := 5) hn5 rfl; omega) (by decide) ?_
      refine lv_bipush (v := -3) hx hb dX11_told_132 (by decide) ?_
      exact hs_iret hx hb hr hlocks rfl hK hP hS hf dX11_told_134
    · replace hf := hs_t hf hc
      refine lv_bipush (v := -3) hx hb dX11_told_37 (by decide) ?_
      exact hs_iret hx hb hr hlocks rfl hK hP hS hf dX11_told_39
  · replace hf := hs_t hf hc
    refine lv_bipush (v := -2) hx hb dX11_told_25 (by decide) ?_
    exact hs_iret hx hb hr hlocks rfl hK hP hS hf dX11_told_27

set_option maxHeartbeats 4000000 in
set_option maxRecDepth 100000 in
theorem ctX11_told (l : Launch) (B : Nat) (D : va_G) (E : Nat → ClassId) (v0 : Nat) (v1 : Int32) (v2 : Int32) (v3 : Int32) (g : hs_S) (o : Int32 × hs_S) (hf : fX11_told v0 v1 v2 v3 g = some o) : Met l yX11_told wcX11_told rmX11_told (hs_Pc B D E g [.ref (B + v0), .int v1, .int v2, .int v3]) (hs_Qi B D E o) (0) (0) (hs_F B) := by
  refine Met.ofW (cc := cX11_told) (maxL := 6) (ret := (some .int)) (by decide) rfl ?_
  intro p e s m args below meth c s₁ Bd hml hv
  obtain ⟨rfl, hP, hK⟩ := hv
  have hx := Bd.exec
  have hb := Bd.bytes
  have hr := Bd.returns
  have hts := atoms_spec (ws := wcX11_told) Bd.pre
  have hown : s.vm.findClass RX11 = some m.cls := findClass_of_methodNamed Bd.named
  have hlocks := Bd.notSynchronized
  have hS : hs_Sx B s.heap s.heap [] := va_S.rf
  have hX : hs_cx cX11_told (some .int) 6 RX11 wcX11_told p s m (List.toArray [.ref (B + v0), .int v1, .int v2, .int v3]) meth c D E := ⟨hx, hb, hr, hml, hown, hts, hlocks, hK⟩
  have hl := lv_entry ([.ref (B + v0), .int v1, .int v2, .int v3]) (n := 6) (Nat.le_of_ble_eq_true rfl)
  rw [lg_entry_eq]
  generalize (lg_sl ([.ref (B + v0), .int v1, .int v2, .int v3]) ++ List.replicate (6 - (lg_sl ([.ref (B + v0), .int v1, .int v2, .int v3])).length) Slot.unset).toArray = ls at hl ⊢
  have hl : lv_has ls 6 [(0, .ref (B + v0)), (1, .int v1), (2, .int v2), (3, .int v3)] := hl
  have hP : hs_P B D E g s.heap := hP
  unfold fX11_told at hf
  refine lv_iload_n hx hb dX11_told_0 rfl (lv_at hl 2 rfl) ?_
  refine lv_if_eq (tgt := 11) hx hb dX11_told_1 (by decide) (fun hc => ?_) (fun hc => ?_)
  · replace hf := hs_t hf hc
    refine lv_aload_n hx hb dX11_told_11 rfl (lv_at hl 0 rfl) ?_
    obtain ⟨h1, hf⟩ := hs_ck hf
    obtain ⟨h2, hf⟩ := hs_ck hf
    refine hs_getr (C := RX11) (T := TX11) (N := 8) hx hb hts (fun w h => List.mem_cons_of_mem _ (inlX11 w h)) hown hK.1 hP h1 (by decide) rfl 1 (by decide) (hts _ (List.mem_cons_of_mem _ wq17)) (fun _ h => h) rfl h2 dX11_told_12 ?_
    exact wX11_told_j15 hX hf hP hS (lv_sub hl [1, 2, 3] rfl)
  · replace hf := hs_f hf hc
    refine lv_aload_n hx hb dX11_told_4 rfl (lv_at hl 0 rfl) ?_
    obtain ⟨h17, hf⟩ := hs_ck hf
    obtain ⟨h18, hf⟩ := hs_ck hf
    refine hs_getr (C := RX11) (T := TX11) (N := 8) hx hb hts (fun w h => List.mem_cons_of_mem _ (inlX11 w h)) hown hK.1 hP h17 (by decide) rfl 3 (by decide) (hts _ (List.mem_cons_of_mem _ wq19)) (fun _ h => h) rfl h18 dX11_told_5 ?_
    refine lv_goto (tgt := 15) hx hb dX11_told_8 (by decide) ?_
    exact wX11_told_j15 hX hf hP hS (lv_sub hl [1, 2, 3] rfl)

theorem dX11_byteAt_0 : decode cX11_byteAt 0 = .ok (.iload_n 2, 1) := by decide +kernel
theorem dX11_byteAt_1 : decode cX11_byteAt 1 = .ok (.ifCond .eq 10, 3) := by decide +kernel
theorem dX11_byteAt_4 : decode cX11_byteAt 4 = .ok (.aload_n 0, 1) := by decide +kernel
theorem dX11_byteAt_5 : decode cX11_byteAt 5 = .ok (.getfield 24, 3) := by decide +kernel
theorem dX11_byteAt_8 : decode cX11_byteAt 8 = .ok (.goto 7, 3) := by decide +kernel
theorem dX11_byteAt_11 : decode cX11_byteAt 11 = .ok (.aload_n 0, 1) := by decide +kernel
theorem dX11_byteAt_12 : decode cX11_byteAt 12 = .ok (.getfield 18, 3) := by decide +kernel
theorem dX11_byteAt_15 : decode cX11_byteAt 15 = .ok (.astore 4, 2) := by decide +kernel
theorem dX11_byteAt_17 : decode cX11_byteAt 17 = .ok (.aload 4, 2) := by decide +kernel
theorem dX11_byteAt_19 : decode cX11_byteAt 19 = .ok (.getfield 71, 3) := by decide +kernel
theorem dX11_byteAt_22 : decode cX11_byteAt 22 = .ok (.ifCond .ne 6, 3) := by decide +kernel
theorem dX11_byteAt_25 : decode cX11_byteAt 25 = .ok (.bipush (-2), 2) := by decide +kernel
theorem dX11_byteAt_27 : decode cX11_byteAt 27 = .ok (.ireturn, 1) := by decide +kernel
theorem dX11_byteAt_28 : decode cX11_byteAt 28 = .ok (.aload 4, 2) := by decide +kernel
theorem dX11_byteAt_30 : decode cX11_byteAt 30 = .ok (.iload_n 1, 1) := by decide +kernel
theorem dX11_byteAt_31 : decode cX11_byteAt 31 = .ok (.invokevirtual 103, 3) := by decide +kernel
theorem dX11_byteAt_34 : decode cX11_byteAt 34 = .ok (.ifCond .eq 20, 3) := by decide +kernel
theorem dX11_byteAt_37 : decode cX11_byteAt 37 = .ok (.iload_n 3, 1) := by decide +kernel
theorem dX11_byteAt_38 : decode cX11_byteAt 38 = .ok (.ifCond .lt 16, 3) := by decide +kernel
theorem dX11_byteAt_41 : decode cX11_byteAt 41 = .ok (.iload_n 3, 1) := by decide +kernel
theorem dX11_byteAt_42 : decode cX11_byteAt 42 = .ok (.aload 4, 2) := by decide +kernel
theorem dX11_byteAt_44 : decode cX11_byteAt 44 = .ok (.iload_n 1, 1) := by decide +kernel
theorem dX11_byteAt_45 : decode cX11_byteAt 45 = .ok (.invokevirtual 87, 3) := by decide +kernel
theorem dX11_byteAt_48 : decode cX11_byteAt 48 = .ok (.getfield 107, 3) := by decide +kernel
theorem dX11_byteAt_51 : decode cX11_byteAt 51 = .ok (.if_icmp .lt 6, 3) := by decide +kernel
theorem dX11_byteAt_54 : decode cX11_byteAt 54 = .ok (.bipush (-3), 2) := by decide +kernel
theorem dX11_byteAt_56 : decode cX11_byteAt 56 = .ok (.ireturn, 1) := by decide +kernel
theorem dX11_byteAt_57 : decode cX11_byteAt 57 = .ok (.aload 4, 2) := by decide +kernel
theorem dX11_byteAt_59 : decode cX11_byteAt 59 = .ok (.iload_n 1, 1) := by decide +kernel
theorem dX11_byteAt_60 : decode cX11_byteAt 60 = .ok (.invokevirtual 87, 3) := by decide +kernel
theorem dX11_byteAt_63 : decode cX11_byteAt 63 = .ok (.iload_n 3, 1) := by decide +kernel
theorem dX11_byteAt_64 : decode cX11_byteAt 64 = .ok (.invokevirtual 127, 3) := by decide +kernel
theorem dX11_byteAt_67 : decode cX11_byteAt 67 = .ok (.ireturn, 1) := by decide +kernel
abbrev wcX11_byteAt : List Cond := .code yX11_byteAt cX11_byteAt 5 (some .int) :: wsL_law
def jX11_byteAt_15 (v1 : Int32) (v3 : Int32) (s0 : Nat) (g : hs_S) : Option (Int32 × hs_S) :=
  if hs_kd g s0 = 0 then
  if (hs_I g s0 4) = 0 then (
    some ((-2 : Int32), g)
  ) else (
    hs_bd (fX0_has s0 v1 g) fun r5 g4 =>
    if r5 = 0 then (
      some ((-3 : Int32), g4)
    ) else (
      if v3 < 0 then (
        some ((-3 : Int32), g4)
      ) else (
        if hs_kd g4 s0 = 0 then
        hs_bd (fX0_method s0 v1 g4) fun r9 g8 =>
        if hs_kd g8 r9 = 6 then
        if v3 < (hs_I g8 r9 3) then (
          if hs_kd g8 s0 = 0 then
          hs_bd (fX0_method s0 v1 g8) fun r14 g13 =>
          if hs_kd g13 r14 = 6 then
          hs_bd (fX7_valueAt r14 v3 g13) fun r18 g17 =>
          some (r18, g17)
          else none else none
        ) else (
          some ((-3 : Int32), g8)
        )
        else none else none
      )
    )
  )
  else none
def fX11_byteAt (v0 : Nat) (v1 : Int32) (v2 : Int32) (v3 : Int32) (g : hs_S) : Option (Int32 × hs_S) :=
  if v2 = 0 then (
    if hs_kd g v0 = 9 then
    if ¬ (hs_R g v0 1) = 0 then
    jX11_byteAt_15 v1 v3 ((hs_R g v0 1) - 1) g
    else none else none
  ) else (
    if hs_kd g v0 = 9 then
    if ¬ (hs_R g v0 3) = 0 then
    jX11_byteAt_15 v1 v3 ((hs_R g v0 3) - 1) g
    else none else none
  )
abbrev rmX11_byteAt : Room := { frames := 2, cells := 0, slots := 0, locals := 42 }
set_option maxHeartbeats 4000000 in
set_option maxRecDepth 100000 in
theorem wX11_byteAt_j15 {p : Program} {l : Launch} {e : Env} {s : State} {m : MethodId} {args : Array Value} {below : List Frame} {meth : Method} {c : Code} {B : Nat} {D : va_G} {E : Nat → ClassId} (hX : hs_cx cX11_byteAt (some .int) 5 RX11 wcX11_byteAt p s m args meth c D E) {o : Int32 × hs_S}  {v1 : Int32} {v3 : Int32} {s0 : Nat}   {g : hs_S} {H : Heap} {locs : List Loc} {ls : Array Slot} (hf : jX11_byteAt_15 v1 v3 s0 g = some o) (hP : hs_P B D E g H) (hS : hs_Sx B s.heap H locs) (hl : lv_has ls 5 [(1, .int v1), (3, .int v3)]) : W p l e rmX11_byteAt s m args below meth c H locs 0 0 (MQ below (hs_Qi B D E o) args s 0 0 (hs_F B)) (F0 m 15 ls [.ref (B + s0)]) := by
  obtain ⟨hx, hb, hr, hml, hown, hts, hlocks, hK⟩ := id hX
  unfold jX11_byteAt_15 at hf
  refine lv_astore (lv' := [(4, .ref (B + s0)), (1, .int v1), (3, .int v3)]) hx hb dX11_byteAt_15 hl (by decide) rfl (fun ls hl => ?_)
  refine lv_aload hx hb dX11_byteAt_17 (lv_at hl 0 rfl) ?_
  obtain ⟨h3, hf⟩ := hs_ck hf
  refine hs_geti (C := RX0) (T := TX0) (N := 5) hx hb hts (fun w h => List.mem_cons_of_mem _ (inlX0 w h)) hown hK.1 hP h3 (by decide) rfl 4 (by decide) (hts _ (List.mem_cons_of_mem _ wq181)) (fun _ h => h) rfl dX11_byteAt_19 ?_
  refine lv_if_ne (tgt := 28) hx hb dX11_byteAt_22 (by decide) (fun hc => ?_) (fun hc => ?_)
  · replace hf := hs_f hf hc
    refine lv_aload hx hb dX11_byteAt_28 (lv_at hl 0 rfl) ?_
    refine lv_iload_n hx hb dX11_byteAt_30 rfl (lv_at hl 1 rfl) ?_
    obtain ⟨r5, g4, h6, hf⟩ := hs_bd_some hf
    refine hs_calli (va_runV (As := [.int v1]) (rest := []) ⟨hx, hb, hml, hown, hts⟩ (ctX0_has l B D E s0 v1 g _ h6) (cwV 1 hts (hs_gV (fun _ h => List.mem_cons_of_mem _ h) wq641 wq275 wq276 wq15 wq277) rfl rfl rfl (by decide +kernel) ⟨Nat.le_of_ble_eq_true rfl, Nat.le_of_ble_eq_true rfl⟩) (hs_preV (r := (RX0, TX0, 5)) hP hK h3 (by decide) rfl) rfl rfl hl.1 rfl (lv_room (Nat.le_of_ble_eq_true rfl)) dX11_byteAt_31 ⟨(Nat.le_of_ble_eq_true rfl), (Nat.le_of_ble_eq_true rfl)⟩) hS (fun H locs hP hS => ?_)
    refine lv_if_eq (tgt := 54) hx hb dX11_byteAt_34 (by decide) (fun hc => ?_) (fun hc => ?_)
    · replace hf := hs_t hf hc
      refine lv_bipush (v := -3) hx hb dX11_byteAt_54 (by decide) ?_
      exact hs_iret hx hb hr hlocks rfl hK hP hS hf dX11_byteAt_56
    · replace hf := hs_f hf hc
      refine lv_iload_n hx hb dX11_byteAt_37 rfl (lv_at hl 2 rfl) ?_
      refine lv_if_lt (tgt := 54) hx hb dX11_byteAt_38 (by decide) (fun hc => ?_) (fun hc => ?_)
      · replace hf := hs_t hf hc
        refine lv_bipush (v := -3) hx hb dX11_byteAt_54 (by decide) ?_
        exact hs_iret hx hb hr hlocks rfl hK hP hS hf dX11_byteAt_56
      · replace hf := hs_f hf hc
        refine lv_iload_n hx hb dX11_byteAt_41 rfl (lv_at hl 2 rfl) ?_
        refine lv_aload hx hb dX11_byteAt_42 (lv_at hl 0 rfl) ?_
        refine lv_iload_n hx hb dX11_byteAt_44 rfl (lv_at hl 1 rfl) ?_
        obtain ⟨h7, hf⟩ := hs_ck hf
        obtain ⟨r9, g8, h10, hf⟩ := hs_bd_some hf
        refine hs_callr (va_runV (As := [.int v1]) (rest := [.int v3]) ⟨hx, hb, hml, hown, hts⟩ (ctX0_method l B D E s0 v1 g4 _ h10) (cwV 1 hts (hs_gV (fun _ h => List.mem_cons_of_mem _ h) wq488 wq108 wq109 wq15 wq110) rfl rfl rfl (by decide +kernel) ⟨Nat.le_of_ble_eq_true rfl, Nat.le_of_ble_eq_true rfl⟩) (hs_preV (r := (RX0, TX0, 5)) hP hK h7 (by decide) rfl) rfl rfl hl.1 rfl (lv_room (Nat.le_of_ble_eq_true rfl)) dX11_byteAt_45 ⟨(Nat.le_of_ble_eq_true rfl), (Nat.le_of_ble_eq_true rfl)⟩) hS (fun H locs hP hS => ?_)
        obtain ⟨h11, hf⟩ := hs_ck hf
        refine hs_geti (C := RX7) (T := TX7) (N := 11) hx hb hts (fun w h => List.mem_cons_of_mem _ (inlX7 w h)) hown hK.1 hP h11 (by decide) rfl 3 (by decide) (hts _ (List.mem_cons_of_mem _ wq635)) (fun _ h => h) rfl dX11_byteAt_48 ?_
        refine lv_icmp_lt (tgt := 57) hx hb dX11_byteAt_51 (by decide) (fun hc => ?_) (fun hc => ?_)
        · replace hf := hs_t hf hc
          refine lv_aload hx hb dX11_byteAt_57 (lv_at hl 0 rfl) ?_
          refine lv_iload_n hx hb dX11_byteAt_59 rfl (lv_at hl 1 rfl) ?_
          obtain ⟨h12, hf⟩ := hs_ck hf
          obtain ⟨r14, g13, h15, hf⟩ := hs_bd_some hf
          refine hs_callr (va_runV (As := [.int v1]) (rest := []) ⟨hx, hb, hml, hown, hts⟩ (ctX0_method l B D E s0 v1 g8 _ h15) (cwV 1 hts (hs_gV (fun _ h => List.mem_cons_of_mem _ h) wq488 wq108 wq109 wq15 wq110) rfl rfl rfl (by decide +kernel) ⟨Nat.le_of_ble_eq_true rfl, Nat.le_of_ble_eq_true rfl⟩) (hs_preV (r := (RX0, TX0, 5)) hP hK h12 (by decide) rfl) rfl rfl hl.1 rfl (lv_room (Nat.le_of_ble_eq_true rfl)) dX11_byteAt_60 ⟨(Nat.le_of_ble_eq_true rfl), (Nat.le_of_ble_eq_true rfl)⟩) hS (fun H locs hP hS => ?_)
          refine lv_iload_n hx hb dX11_byteAt_63 rfl (lv_at hl 2 rfl) ?_
          obtain ⟨h16, hf⟩ := hs_ck hf
          obtain ⟨r18, g17, h19, hf⟩ := hs_bd_some hf
          refine hs_calli (va_runV (As := [.int v3]) (rest := []) ⟨hx, hb, hml, hown, hts⟩ (ctX7_valueAt l B D E r14 v3 g13 _ h19) (cwV 1 hts (hs_gV (fun _ h => List.mem_cons_of_mem _ h) wq662 wq249 wq250 wq43 wq251) rfl rfl rfl (by decide +kernel) ⟨Nat.le_of_ble_eq_true rfl, Nat.le_of_ble_eq_true rfl⟩) (hs_preV (r := (RX7, TX7, 11)) hP hK h16 (by decide) rfl) rfl rfl hl.1 rfl (lv_room (Nat.le_of_ble_eq_true rfl)) dX11_byteAt_64 ⟨(Nat.le_of_ble_eq_true rfl), (Nat.le_of_ble_eq_true rfl)⟩) hS (fun H locs hP hS => ?_)
          exact hs_iret hx hb hr hlocks rfl hK hP hS hf dX11_byteAt_67
        · replace hf := hs_f hf hc
          refine lv_bipush (v := -3) hx hb dX11_byteAt_54 (by decide) ?_
          exact hs_iret hx hb hr hlocks rfl hK hP hS hf dX11_byteAt_56
  · replace hf := hs_t hf hc
    refine lv_bipush (v := -2) hx hb dX11_byteAt_25 (by decide) ?_
    exact hs_iret hx hb hr hlocks rfl hK hP hS hf dX11_byteAt_27

set_option maxHeartbeats 4000000 in
set_option maxRecDepth 100000 in
theorem ctX11_byteAt (l : Launch) (B : Nat) (D : va_G) (E : Nat → ClassId) (v0 : Nat) (v1 : Int32) (v2 : Int32) (v3 : Int32) (g : hs_S) (o : Int32 × hs_S) (hf : fX11_byteAt v0 v1 v2 v3 g = some o) : Met l yX11_byteAt wcX11_byteAt rmX11_byteAt (hs_Pc B D E g [.ref (B + v0), .int v1, .int v2, .int v3]) (hs_Qi B D E o) (0) (0) (hs_F B) := by
  refine Met.ofW (cc := cX11_byteAt) (maxL := 5) (ret := (some .int)) (by decide) rfl ?_
  intro p e s m args below meth c s₁ Bd hml hv
  obtain ⟨rfl, hP, hK⟩ := hv
  have hx := Bd.exec
  have hb := Bd.bytes
  have hr := Bd.returns
  have hts := atoms_spec (ws := wcX11_byteAt) Bd.pre
  have hown : s.vm.findClass RX11 = some m.cls := findClass_of_methodNamed Bd.named
  have hlocks := Bd.notSynchronized
  have hS : hs_Sx B s.heap s.heap [] := va_S.rf
  have hX : hs_cx cX11_byteAt (some .int) 5 RX11 wcX11_byteAt p s m (List.toArray [.ref (B + v0), .int v1, .int v2, .int v3]) meth c D E := ⟨hx, hb, hr, hml, hown, hts, hlocks, hK⟩
  have hl := lv_entry ([.ref (B + v0), .int v1, .int v2, .int v3]) (n := 5) (Nat.le_of_ble_eq_true rfl)
  rw [lg_entry_eq]
  generalize (lg_sl ([.ref (B + v0), .int v1, .int v2, .int v3]) ++ List.replicate (5 - (lg_sl ([.ref (B + v0), .int v1, .int v2, .int v3])).length) Slot.unset).toArray = ls at hl ⊢
  have hl : lv_has ls 5 [(0, .ref (B + v0)), (1, .int v1), (2, .int v2), (3, .int v3)] := hl
  have hP : hs_P B D E g s.heap := hP
  unfold fX11_byteAt at hf
  refine lv_iload_n hx hb dX11_byteAt_0 rfl (lv_at hl 2 rfl) ?_
  refine lv_if_eq (tgt := 11) hx hb dX11_byteAt_1 (by decide) (fun hc => ?_) (fun hc => ?_)
  · replace hf := hs_t hf hc
    refine lv_aload_n hx hb dX11_byteAt_11 rfl (lv_at hl 0 rfl) ?_
    obtain ⟨h1, hf⟩ := hs_ck hf
    obtain ⟨h2, hf⟩ := hs_ck hf
    refine hs_getr (C := RX11) (T := TX11) (N := 8) hx hb hts (fun w h => List.mem_cons_of_mem _ (inlX11 w h)) hown hK.1 hP h1 (by decide) rfl 1 (by decide) (hts _ (List.mem_cons_of_mem _ wq17)) (fun _ h => h) rfl h2 dX11_byteAt_12 ?_
    exact wX11_byteAt_j15 hX hf hP hS (lv_sub hl [1, 3] rfl)
  · replace hf := hs_f hf hc
    refine lv_aload_n hx hb dX11_byteAt_4 rfl (lv_at hl 0 rfl) ?_
    obtain ⟨h20, hf⟩ := hs_ck hf
    obtain ⟨h21, hf⟩ := hs_ck hf
    refine hs_getr (C := RX11) (T := TX11) (N := 8) hx hb hts (fun w h => List.mem_cons_of_mem _ (inlX11 w h)) hown hK.1 hP h20 (by decide) rfl 3 (by decide) (hts _ (List.mem_cons_of_mem _ wq19)) (fun _ h => h) rfl h21 dX11_byteAt_5 ?_
    refine lv_goto (tgt := 15) hx hb dX11_byteAt_8 (by decide) ?_
    exact wX11_byteAt_j15 hX hf hP hS (lv_sub hl [1, 3] rfl)

theorem dX11_handler_0 : decode cX11_handler 0 = .ok (.iload_n 2, 1) := by decide +kernel
theorem dX11_handler_1 : decode cX11_handler 1 = .ok (.ifCond .eq 10, 3) := by decide +kernel
theorem dX11_handler_4 : decode cX11_handler 4 = .ok (.aload_n 0, 1) := by decide +kernel
theorem dX11_handler_5 : decode cX11_handler 5 = .ok (.getfield 24, 3) := by decide +kernel
theorem dX11_handler_8 : decode cX11_handler 8 = .ok (.goto 7, 3) := by decide +kernel
theorem dX11_handler_11 : decode cX11_handler 11 = .ok (.aload_n 0, 1) := by decide +kernel
theorem dX11_handler_12 : decode cX11_handler 12 = .ok (.getfield 18, 3) := by decide +kernel
theorem dX11_handler_15 : decode cX11_handler 15 = .ok (.astore 5, 2) := by decide +kernel
theorem dX11_handler_17 : decode cX11_handler 17 = .ok (.aload 5, 2) := by decide +kernel
theorem dX11_handler_19 : decode cX11_handler 19 = .ok (.getfield 71, 3) := by decide +kernel
theorem dX11_handler_22 : decode cX11_handler 22 = .ok (.ifCond .ne 6, 3) := by decide +kernel
theorem dX11_handler_25 : decode cX11_handler 25 = .ok (.bipush (-2), 2) := by decide +kernel
theorem dX11_handler_27 : decode cX11_handler 27 = .ok (.ireturn, 1) := by decide +kernel
theorem dX11_handler_28 : decode cX11_handler 28 = .ok (.aload 5, 2) := by decide +kernel
theorem dX11_handler_30 : decode cX11_handler 30 = .ok (.iload_n 1, 1) := by decide +kernel
theorem dX11_handler_31 : decode cX11_handler 31 = .ok (.invokevirtual 103, 3) := by decide +kernel
theorem dX11_handler_34 : decode cX11_handler 34 = .ok (.ifCond .eq 20, 3) := by decide +kernel
theorem dX11_handler_37 : decode cX11_handler 37 = .ok (.iload_n 3, 1) := by decide +kernel
theorem dX11_handler_38 : decode cX11_handler 38 = .ok (.ifCond .lt 16, 3) := by decide +kernel
theorem dX11_handler_41 : decode cX11_handler 41 = .ok (.iload_n 3, 1) := by decide +kernel
theorem dX11_handler_42 : decode cX11_handler 42 = .ok (.aload 5, 2) := by decide +kernel
theorem dX11_handler_44 : decode cX11_handler 44 = .ok (.iload_n 1, 1) := by decide +kernel
theorem dX11_handler_45 : decode cX11_handler 45 = .ok (.invokevirtual 87, 3) := by decide +kernel
theorem dX11_handler_48 : decode cX11_handler 48 = .ok (.getfield 115, 3) := by decide +kernel
theorem dX11_handler_51 : decode cX11_handler 51 = .ok (.if_icmp .lt 6, 3) := by decide +kernel
theorem dX11_handler_54 : decode cX11_handler 54 = .ok (.bipush (-3), 2) := by decide +kernel
theorem dX11_handler_56 : decode cX11_handler 56 = .ok (.ireturn, 1) := by decide +kernel
theorem dX11_handler_57 : decode cX11_handler 57 = .ok (.iload 4, 2) := by decide +kernel
theorem dX11_handler_59 : decode cX11_handler 59 = .ok (.ifCond .lt 9, 3) := by decide +kernel
theorem dX11_handler_62 : decode cX11_handler 62 = .ok (.iload 4, 2) := by decide +kernel
theorem dX11_handler_64 : decode cX11_handler 64 = .ok (.iconst 4, 1) := by decide +kernel
theorem dX11_handler_65 : decode cX11_handler 65 = .ok (.if_icmp .lt 6, 3) := by decide +kernel
theorem dX11_handler_68 : decode cX11_handler 68 = .ok (.bipush (-3), 2) := by decide +kernel
theorem dX11_handler_70 : decode cX11_handler 70 = .ok (.ireturn, 1) := by decide +kernel
theorem dX11_handler_71 : decode cX11_handler 71 = .ok (.aload 5, 2) := by decide +kernel
theorem dX11_handler_73 : decode cX11_handler 73 = .ok (.iload_n 1, 1) := by decide +kernel
theorem dX11_handler_74 : decode cX11_handler 74 = .ok (.invokevirtual 87, 3) := by decide +kernel
theorem dX11_handler_77 : decode cX11_handler 77 = .ok (.iload_n 3, 1) := by decide +kernel
theorem dX11_handler_78 : decode cX11_handler 78 = .ok (.iload 4, 2) := by decide +kernel
theorem dX11_handler_80 : decode cX11_handler 80 = .ok (.invokevirtual 130, 3) := by decide +kernel
theorem dX11_handler_83 : decode cX11_handler 83 = .ok (.ireturn, 1) := by decide +kernel
abbrev wcX11_handler : List Cond := .code yX11_handler cX11_handler 6 (some .int) :: wsL_law
def jX11_handler_15 (v1 : Int32) (v3 : Int32) (v4 : Int32) (s0 : Nat) (g : hs_S) : Option (Int32 × hs_S) :=
  if hs_kd g s0 = 0 then
  if (hs_I g s0 4) = 0 then (
    some ((-2 : Int32), g)
  ) else (
    hs_bd (fX0_has s0 v1 g) fun r5 g4 =>
    if r5 = 0 then (
      some ((-3 : Int32), g4)
    ) else (
      if v3 < 0 then (
        some ((-3 : Int32), g4)
      ) else (
        if hs_kd g4 s0 = 0 then
        hs_bd (fX0_method s0 v1 g4) fun r9 g8 =>
        if hs_kd g8 r9 = 6 then
        if v3 < (hs_I g8 r9 6) then (
          if v4 < 0 then (
            some ((-3 : Int32), g8)
          ) else (
            if v4 < (4 : Int32) then (
              if hs_kd g8 s0 = 0 then
              hs_bd (fX0_method s0 v1 g8) fun r14 g13 =>
              if hs_kd g13 r14 = 6 then
              hs_bd (fX7_handlerNumber r14 v3 v4 g13) fun r18 g17 =>
              some (r18, g17)
              else none else none
            ) else (
              some ((-3 : Int32), g8)
            )
          )
        ) else (
          some ((-3 : Int32), g8)
        )
        else none else none
      )
    )
  )
  else none
def fX11_handler (v0 : Nat) (v1 : Int32) (v2 : Int32) (v3 : Int32) (v4 : Int32) (g : hs_S) : Option (Int32 × hs_S) :=
  if v2 = 0 then (
    if hs_kd g v0 = 9 then
    if ¬ (hs_R g v0 1) = 0 then
    jX11_handler_15 v1 v3 v4 ((hs_R g v0 1) - 1) g
    else none else none
  ) else (
    if hs_kd g v0 = 9 then
    if ¬ (hs_R g v0 3) = 0 then
    jX11_handler_15 v1 v3 v4 ((hs_R g v0 3) - 1) g
    else none else none
  )
abbrev rmX11_handler : Room := { frames := 2, cells := 0, slots := 0, locals := 43 }
set_option maxHeartbeats 4000000 in
set_option maxRecDepth 100000 in
theorem wX11_handler_j15 {p : Program} {l : Launch} {e : Env} {s : State} {m : MethodId} {args : Array Value} {below : List Frame} {meth : Method} {c : Code} {B : Nat} {D : va_G} {E : Nat → ClassId} (hX : hs_cx cX11_handler (some .int) 6 RX11 wcX11_handler p s m args meth c D E) {o : Int32 × hs_S}  {v1 : Int32} {v3 : Int32} {v4 : Int32} {s0 : Nat}   {g : hs_S} {H : Heap} {locs : List Loc} {ls : Array Slot} (hf : jX11_handler_15 v1 v3 v4 s0 g = some o) (hP : hs_P B D E g H) (hS : hs_Sx B s.heap H locs) (hl : lv_has ls 6 [(1, .int v1), (3, .int v3), (4, .int v4)]) : W p l e rmX11_handler s m args below meth c H locs 0 0 (MQ below (hs_Qi B D E o) args s 0 0 (hs_F B)) (F0 m 15 ls [.ref (B + s0)]) := by
  obtain ⟨hx, hb, hr, hml, hown, hts, hlocks, hK⟩ := id hX
  unfold jX11_handler_15 at hf
  refine lv_astore (lv' := [(5, .ref (B + s0)), (1, .int v1), (3, .int v3), (4, .int v4)]) hx hb dX11_handler_15 hl (by decide) rfl (fun ls hl => ?_)
  refine lv_aload hx hb dX11_handler_17 (lv_at hl 0 rfl) ?_
  obtain ⟨h3, hf⟩ := hs_ck hf
  refine hs_geti (C := RX0) (T := TX0) (N := 5) hx hb hts (fun w h => List.mem_cons_of_mem _ (inlX0 w h)) hown hK.1 hP h3 (by decide) rfl 4 (by decide) (hts _ (List.mem_cons_of_mem _ wq181)) (fun _ h => h) rfl dX11_handler_19 ?_
  refine lv_if_ne (tgt := 28) hx hb dX11_handler_22 (by decide) (fun hc => ?_) (fun hc => ?_)
  · replace hf := hs_f hf hc
    refine lv_aload hx hb dX11_handler_28 (lv_at hl 0 rfl) ?_
    refine lv_iload_n hx hb dX11_handler_30 rfl (lv_at hl 1 rfl) ?_
    obtain ⟨r5, g4, h6, hf⟩ := hs_bd_some hf
    refine hs_calli (va_runV (As := [.int v1]) (rest := []) ⟨hx, hb, hml, hown, hts⟩ (ctX0_has l B D E s0 v1 g _ h6) (cwV 1 hts (hs_gV (fun _ h => List.mem_cons_of_mem _ h) wq641 wq275 wq276 wq15 wq277) rfl rfl rfl (by decide +kernel) ⟨Nat.le_of_ble_eq_true rfl, Nat.le_of_ble_eq_true rfl⟩) (hs_preV (r := (RX0, TX0, 5)) hP hK h3 (by decide) rfl) rfl rfl hl.1 rfl (lv_room (Nat.le_of_ble_eq_true rfl)) dX11_handler_31 ⟨(Nat.le_of_ble_eq_true rfl), (Nat.le_of_ble_eq_true rfl)⟩) hS (fun H locs hP hS => ?_)
    refine lv_if_eq (tgt := 54) hx hb dX11_handler_34 (by decide) (fun hc => ?_) (fun hc => ?_)
    · replace hf := hs_t hf hc
      refine lv_bipush (v := -3) hx hb dX11_handler_54 (by decide) ?_
      exact hs_iret hx hb hr hlocks rfl hK hP hS hf dX11_handler_56
    · replace hf := hs_f hf hc
      refine lv_iload_n hx hb dX11_handler_37 rfl (lv_at hl 2 rfl) ?_
      refine lv_if_lt (tgt := 54) hx hb dX11_handler_38 (by decide) (fun hc => ?_) (fun hc => ?_)
      · replace hf := hs_t hf hc
        refine lv_bipush (v := -3) hx hb dX11_handler_54 (by decide) ?_
        exact hs_iret hx hb hr hlocks rfl hK hP hS hf dX11_handler_56
      · replace hf := hs_f hf hc
        refine lv_iload_n hx hb dX11_handler_41 rfl (lv_at hl 2 rfl) ?_
        refine lv_aload hx hb dX11_handler_42 (lv_at hl 0 rfl) ?_
        refine lv_iload_n hx hb dX11_handler_44 rfl (lv_at hl 1 rfl) ?_
        obtain ⟨h7, hf⟩ := hs_ck hf
        obtain ⟨r9, g8, h10, hf⟩ := hs_bd_some hf
        refine hs_callr (va_runV (As := [.int v1]) (rest := [.int v3]) ⟨hx, hb, hml, hown, hts⟩ (ctX0_method l B D E s0 v1 g4 _ h10) (cwV 1 hts (hs_gV (fun _ h => List.mem_cons_of_mem _ h) wq488 wq108 wq109 wq15 wq110) rfl rfl rfl (by decide +kernel) ⟨Nat.le_of_ble_eq_true rfl, Nat.le_of_ble_eq_true rfl⟩) (hs_preV (r := (RX0, TX0, 5)) hP hK h7 (by decide) rfl) rfl rfl hl.1 rfl (lv_room (Nat.le_of_ble_eq_true rfl)) dX11_handler_45 ⟨(Nat.le_of_ble_eq_true rfl), (Nat.le_of_ble_eq_true rfl)⟩) hS (fun H locs hP hS => ?_)
        obtain ⟨h11, hf⟩ := hs_ck hf
        refine hs_geti (C := RX7) (T := TX7) (N := 11) hx hb hts (fun w h => List.mem_cons_of_mem _ (inlX7 w h)) hown hK.1 hP h11 (by decide) rfl 6 (by decide) (hts _ (List.mem_cons_of_mem _ wq637)) (fun _ h => h) rfl dX11_handler_48 ?_
        refine lv_icmp_lt (tgt := 57) hx hb dX11_handler_51 (by decide) (fun hc => ?_) (fun hc => ?_)
        · replace hf := hs_t hf hc
          refine lv_iload hx hb dX11_handler_57 (lv_at hl 3 rfl) ?_
          refine lv_if_lt (tgt := 68) hx hb dX11_handler_59 (by decide) (fun hc => ?_) (fun hc => ?_)
          · replace hf := hs_t hf hc
            refine lv_bipush (v := -3) hx hb dX11_handler_68 (by decide) ?_
            exact hs_iret hx hb hr hlocks rfl hK hP hS hf dX11_handler_70
          · replace hf := hs_f hf hc
            refine lv_iload hx hb dX11_handler_62 (lv_at hl 3 rfl) ?_
            refine lv_iconst (v := 4) hx hb dX11_handler_64 (by decide) ?_
            refine lv_icmp_lt (tgt := 71) hx hb dX11_handler_65 (by decide) (fun hc => ?_) (fun hc => ?_)
            · replace hf := hs_t hf hc
              refine lv_aload hx hb dX11_handler_71 (lv_at hl 0 rfl) ?_
              refine lv_iload_n hx hb dX11_handler_73 rfl (lv_at hl 1 rfl) ?_
              obtain ⟨h12, hf⟩ := hs_ck hf
              obtain ⟨r14, g13, h15, hf⟩ := hs_bd_some hf
              refine hs_callr (va_runV (As := [.int v1]) (rest := []) ⟨hx, hb, hml, hown, hts⟩ (ctX0_method l B D E s0 v1 g8 _ h15) (cwV 1 hts (hs_gV (fun _ h => List.mem_cons_of_mem _ h) wq488 wq108 wq109 wq15 wq110) rfl rfl rfl (by decide +kernel) ⟨Nat.le_of_ble_eq_true rfl, Nat.le_of_ble_eq_true rfl⟩) (hs_preV (r := (RX0, TX0, 5)) hP hK h12 (by decide) rfl) rfl rfl hl.1 rfl (lv_room (Nat.le_of_ble_eq_true rfl)) dX11_handler_74 ⟨(Nat.le_of_ble_eq_true rfl), (Nat.le_of_ble_eq_true rfl)⟩) hS (fun H locs hP hS => ?_)
              refine lv_iload_n hx hb dX11_handler_77 rfl (lv_at hl 2 rfl) ?_
              refine lv_iload hx hb dX11_handler_78 (lv_at hl 3 rfl) ?_
              obtain ⟨h16, hf⟩ := hs_ck hf
              obtain ⟨r18, g17, h19, hf⟩ := hs_bd_some hf
              refine hs_calli (va_runV (As := [.int v3, .int v4]) (rest := []) ⟨hx, hb, hml, hown, hts⟩ (ctX7_handlerNumber l B D E r14 v3 v4 g13 _ h19) (cwV 2 hts (hs_gV (fun _ h => List.mem_cons_of_mem _ h) wq671 wq322 wq323 wq43 wq324) rfl rfl rfl (by decide +kernel) ⟨Nat.le_of_ble_eq_true rfl, Nat.le_of_ble_eq_true rfl⟩) (hs_preV (r := (RX7, TX7, 11)) hP hK h16 (by decide) rfl) rfl rfl hl.1 rfl (lv_room (Nat.le_of_ble_eq_true rfl)) dX11_handler_80 ⟨(Nat.le_of_ble_eq_true rfl), (Nat.le_of_ble_eq_true rfl)⟩) hS (fun H locs hP hS => ?_)
              exact hs_iret hx hb hr hlocks rfl hK hP hS hf dX11_handler_83
            · replace hf := hs_f hf hc
              refine lv_bipush (v := -3) hx hb dX11_handler_68 (by decide) ?_
              exact hs_iret hx hb hr hlocks rfl hK hP hS hf dX11_handler_70
        · replace hf := hs_f hf hc
          refine lv_bipush (v := -3) hx hb dX11_handler_54 (by decide) ?_
          exact hs_iret hx hb hr hlocks rfl hK hP hS hf dX11_handler_56
  · replace hf := hs_t hf hc
    refine lv_bipush (v := -2) hx hb dX11_handler_25 (by decide) ?_
    exact hs_iret hx hb hr hlocks rfl hK hP hS hf dX11_handler_27

set_option maxHeartbeats 4000000 in
set_option maxRecDepth 100000 in
theorem ctX11_handler (l : Launch) (B : Nat) (D : va_G) (E : Nat → ClassId) (v0 : Nat) (v1 : Int32) (v2 : Int32) (v3 : Int32) (v4 : Int32) (g : hs_S) (o : Int32 × hs_S) (hf : fX11_handler v0 v1 v2 v3 v4 g = some o) : Met l yX11_handler wcX11_handler rmX11_handler (hs_Pc B D E g [.ref (B + v0), .int v1, .int v2, .int v3, .int v4]) (hs_Qi B D E o) (0) (0) (hs_F B) := by
  refine Met.ofW (cc := cX11_handler) (maxL := 6) (ret := (some .int)) (by decide) rfl ?_
  intro p e s m args below meth c s₁ Bd hml hv
  obtain ⟨rfl, hP, hK⟩ := hv
  have hx := Bd.exec
  have hb := Bd.bytes
  have hr := Bd.returns
  have hts := atoms_spec (ws := wcX11_handler) Bd.pre
  have hown : s.vm.findClass RX11 = some m.cls := findClass_of_methodNamed Bd.named
  have hlocks := Bd.notSynchronized
  have hS : hs_Sx B s.heap s.heap [] := va_S.rf
  have hX : hs_cx cX11_handler (some .int) 6 RX11 wcX11_handler p s m (List.toArray [.ref (B + v0), .int v1, .int v2, .int v3, .int v4]) meth c D E := ⟨hx, hb, hr, hml, hown, hts, hlocks, hK⟩
  have hl := lv_entry ([.ref (B + v0), .int v1, .int v2, .int v3, .int v4]) (n := 6) (Nat.le_of_ble_eq_true rfl)
  rw [lg_entry_eq]
  generalize (lg_sl ([.ref (B + v0), .int v1, .int v2, .int v3, .int v4]) ++ List.replicate (6 - (lg_sl ([.ref (B + v0), .int v1, .int v2, .int v3, .int v4])).length) Slot.unset).toArray = ls at hl ⊢
  have hl : lv_has ls 6 [(0, .ref (B + v0)), (1, .int v1), (2, .int v2), (3, .int v3), (4, .int v4)] := hl
  have hP : hs_P B D E g s.heap := hP
  unfold fX11_handler at hf
  refine lv_iload_n hx hb dX11_handler_0 rfl (lv_at hl 2 rfl) ?_
  refine lv_if_eq (tgt := 11) hx hb dX11_handler_1 (by decide) (fun hc => ?_) (fun hc => ?_)
  · replace hf := hs_t hf hc
    refine lv_aload_n hx hb dX11_handler_11 rfl (lv_at hl 0 rfl) ?_
    obtain ⟨h1, hf⟩ := hs_ck hf
    obtain ⟨h2, hf⟩ := hs_ck hf
    refine hs_getr (C := RX11) (T := TX11) (N := 8) hx hb hts (fun w h => List.mem_cons_of_mem _ (inlX11 w h)) hown hK.1 hP h1 (by decide) rfl 1 (by decide) (hts _ (List.mem_cons_of_mem _ wq17)) (fun _ h => h) rfl h2 dX11_handler_12 ?_
    exact wX11_handler_j15 hX hf hP hS (lv_sub hl [1, 3, 4] rfl)
  · replace hf := hs_f hf hc
    refine lv_aload_n hx hb dX11_handler_4 rfl (lv_at hl 0 rfl) ?_
    obtain ⟨h20, hf⟩ := hs_ck hf
    obtain ⟨h21, hf⟩ := hs_ck hf
    refine hs_getr (C := RX11) (T := TX11) (N := 8) hx hb hts (fun w h => List.mem_cons_of_mem _ (inlX11 w h)) hown hK.1 hP h20 (by decide) rfl 3 (by decide) (hts _ (List.mem_cons_of_mem _ wq19)) (fun _ h => h) rfl h21 dX11_handler_5 ?_
    refine lv_goto (tgt := 15) hx hb dX11_handler_8 (by decide) ?_
    exact wX11_handler_j15 hX hf hP hS (lv_sub hl [1, 3, 4] rfl)

theorem dX7_blockBegin_0 : decode cX7_blockBegin 0 = .ok (.iconst 0, 1) := by decide +kernel
theorem dX7_blockBegin_1 : decode cX7_blockBegin 1 = .ok (.istore_n 2, 1) := by decide +kernel
theorem dX7_blockBegin_2 : decode cX7_blockBegin 2 = .ok (.iconst 0, 1) := by decide +kernel
theorem dX7_blockBegin_3 : decode cX7_blockBegin 3 = .ok (.istore_n 3, 1) := by decide +kernel
theorem dX7_blockBegin_4 : decode cX7_blockBegin 4 = .ok (.iload_n 3, 1) := by decide +kernel
theorem dX7_blockBegin_5 : decode cX7_blockBegin 5 = .ok (.aload_n 0, 1) := by decide +kernel
theorem dX7_blockBegin_6 : decode cX7_blockBegin 6 = .ok (.getfield 22, 3) := by decide +kernel
theorem dX7_blockBegin_9 : decode cX7_blockBegin 9 = .ok (.if_icmp .ge 27, 3) := by decide +kernel
theorem dX7_blockBegin_12 : decode cX7_blockBegin 12 = .ok (.aload_n 0, 1) := by decide +kernel
theorem dX7_blockBegin_13 : decode cX7_blockBegin 13 = .ok (.iload_n 3, 1) := by decide +kernel
theorem dX7_blockBegin_14 : decode cX7_blockBegin 14 = .ok (.invokevirtual 78, 3) := by decide +kernel
theorem dX7_blockBegin_17 : decode cX7_blockBegin 17 = .ok (.ifCond .eq 13, 3) := by decide +kernel
theorem dX7_blockBegin_20 : decode cX7_blockBegin 20 = .ok (.iload_n 2, 1) := by decide +kernel
theorem dX7_blockBegin_21 : decode cX7_blockBegin 21 = .ok (.iload_n 1, 1) := by decide +kernel
theorem dX7_blockBegin_22 : decode cX7_blockBegin 22 = .ok (.if_icmp .ne 5, 3) := by decide +kernel
theorem dX7_blockBegin_25 : decode cX7_blockBegin 25 = .ok (.iload_n 3, 1) := by decide +kernel
theorem dX7_blockBegin_26 : decode cX7_blockBegin 26 = .ok (.ireturn, 1) := by decide +kernel
theorem dX7_blockBegin_27 : decode cX7_blockBegin 27 = .ok (.iinc 2 1, 3) := by decide +kernel
theorem dX7_blockBegin_30 : decode cX7_blockBegin 30 = .ok (.iinc 3 1, 3) := by decide +kernel
theorem dX7_blockBegin_33 : decode cX7_blockBegin 33 = .ok (.goto (-29), 3) := by decide +kernel
theorem dX7_blockBegin_36 : decode cX7_blockBegin 36 = .ok (.iconst 0, 1) := by decide +kernel
theorem dX7_blockBegin_37 : decode cX7_blockBegin 37 = .ok (.ireturn, 1) := by decide +kernel
abbrev wcX7_blockBegin : List Cond := .code yX7_blockBegin cX7_blockBegin 4 (some .int) :: wsL_law
def jX7_blockBegin_30 (rec : Int32 → Int32 → hs_S → Option (Nat × Int32 × hs_S)) (v0 : Nat) (v1 : Int32) (v2 : Int32) (v3 : Int32) (g : hs_S) : Option (Nat × Int32 × hs_S) :=
  rec v2 (v3 + (1 : Int32)) g
def lX7_blockBegin_4 : Nat → Nat → Int32 → Int32 → Int32 → hs_S → Option (Nat × Int32 × hs_S)
  | 0, _, _, _, _, _ => none
  | n + 1, v0, v1, v2, v3, g =>
    if hs_kd g v0 = 6 then
    if (hs_I g v0 3) ≤ v3 then (
      some (0, v3, g)
    ) else (
      hs_bd (fX7_beginsBlock v0 v3 g) fun r3 g2 =>
      if r3 = 0 then (
        jX7_blockBegin_30 (fun y0 y1 g => lX7_blockBegin_4 n v0 v1 y0 y1 g) v0 v1 v2 v3 g2
      ) else (
        if v2 = v1 then (
          some (1, v3, g2)
        ) else (
          jX7_blockBegin_30 (fun y0 y1 g => lX7_blockBegin_4 n v0 v1 y0 y1 g) v0 v1 (v2 + (1 : Int32)) v3 g2
        )
      )
    )
    else none
theorem lX7_blockBegin_4_s (n : Nat) (v0 : Nat) (v1 : Int32) (v2 : Int32) (v3 : Int32) (g : hs_S) : lX7_blockBegin_4 (n + 1) v0 v1 v2 v3 g =
    if hs_kd g v0 = 6 then
    if (hs_I g v0 3) ≤ v3 then (
      some (0, v3, g)
    ) else (
      hs_bd (fX7_beginsBlock v0 v3 g) fun r3 g2 =>
      if r3 = 0 then (
        jX7_blockBegin_30 (fun y0 y1 g => lX7_blockBegin_4 n v0 v1 y0 y1 g) v0 v1 v2 v3 g2
      ) else (
        if v2 = v1 then (
          some (1, v3, g2)
        ) else (
          jX7_blockBegin_30 (fun y0 y1 g => lX7_blockBegin_4 n v0 v1 y0 y1 g) v0 v1 (v2 + (1 : Int32)) v3 g2
        )
      )
    )
    else none := rfl
def fX7_blockBegin (v0 : Nat) (v1 : Int32) (g : hs_S) : Option (Int32 × hs_S) :=
  hs_b3 (lX7_blockBegin_4 hs_N v0 v1 (0 : Int32) (0 : Int32) g) fun k6 x5 g7 =>
  if k6 = 0 then (
    some ((0 : Int32), g7)
  ) else (
    some (x5, g7)
  )
abbrev rmX7_blockBegin : Room := { frames := 2, cells := 0, slots := 0, locals := 42 }
set_option maxHeartbeats 4000000 in
set_option maxRecDepth 100000 in
theorem wX7_blockBegin_j30 {p : Program} {l : Launch} {e : Env} {s : State} {m : MethodId} {args : Array Value} {below : List Frame} {meth : Method} {c : Code} {B : Nat} {D : va_G} {E : Nat → ClassId} (hX : hs_cx cX7_blockBegin (some .int) 4 RX7 wcX7_blockBegin p s m args meth c D E) {Q : State → Prop} {o : Nat × Int32 × hs_S} {rec : Int32 → Int32 → hs_S → Option (Nat × Int32 × hs_S)} {v0 : Nat} {v1 : Int32} {v2 : Int32} {v3 : Int32}  (hrec : ∀ (y0 : Int32) (y1 : Int32) (g : hs_S) (H : Heap) (locs : List Loc) (ls : Array Slot), rec y0 y1 g = some o → hs_P B D E g H → hs_Sx B s.heap H locs → lv_has ls 4 [(0, .ref (B + v0)), (1, .int v1), (2, .int y0), (3, .int y1)] → W p l e rmX7_blockBegin s m args below meth c H locs 0 0 Q (F0 m 4 ls [])) (hex0 : o.1 = 0 → ∀ (H : Heap) (locs : List Loc) (ls : Array Slot), hs_P B D E (o.2.2) H → hs_Sx B s.heap H locs → lv_has ls 4 [] → W p l e rmX7_blockBegin s m args below meth c H locs 0 0 Q (F0 m 36 ls [])) (hex1 : o.1 = 1 → ∀ (H : Heap) (locs : List Loc) (ls : Array Slot), hs_P B D E (o.2.2) H → hs_Sx B s.heap H locs → lv_has ls 4 [(3, .int (o.2.1))] → W p l e rmX7_blockBegin s m args below meth c H locs 0 0 Q (F0 m 25 ls [])) {g : hs_S} {H : Heap} {locs : List Loc} {ls : Array Slot} (hf : jX7_blockBegin_30 rec v0 v1 v2 v3 g = some o) (hP : hs_P B D E g H) (hS : hs_Sx B s.heap H locs) (hl : lv_has ls 4 [(0, .ref (B + v0)), (1, .int v1), (2, .int v2), (3, .int v3)]) : W p l e rmX7_blockBegin s m args below meth c H locs 0 0 Q (F0 m 30 ls []) := by
  obtain ⟨hx, hb, hr, hml, hown, hts, hlocks, hK⟩ := id hX
  unfold jX7_blockBegin_30 at hf
  refine lv_iinc (v := (v3 + (1 : Int32))) (lv' := [(3, .int (v3 + (1 : Int32))), (0, .ref (B + v0)), (1, .int v1), (2, .int v2)]) hx hb dX7_blockBegin_30 hl (k := 3) rfl (by rfl) (by decide) rfl (fun ls hl => ?_)
  refine lv_goto (tgt := 4) hx hb dX7_blockBegin_33 (by decide) ?_
  exact hrec _ _ _ _ _ _ hf hP hS (lv_sub hl [1, 2, 3, 0] rfl)

set_option maxHeartbeats 4000000 in
set_option maxRecDepth 100000 in
theorem wX7_blockBegin_4 {p : Program} {l : Launch} {e : Env} {s : State} {m : MethodId} {args : Array Value} {below : List Frame} {meth : Method} {c : Code} {B : Nat} {D : va_G} {E : Nat → ClassId} (hX : hs_cx cX7_blockBegin (some .int) 4 RX7 wcX7_blockBegin p s m args meth c D E) {Q : State → Prop} {o : Nat × Int32 × hs_S} {v0 : Nat} {v1 : Int32} (hex0 : o.1 = 0 → ∀ (H : Heap) (locs : List Loc) (ls : Array Slot), hs_P B D E (o.2.2) H → hs_Sx B s.heap H locs → lv_has ls 4 [] → W p l e rmX7_blockBegin s m args below meth c H locs 0 0 Q (F0 m 36 ls [])) (hex1 : o.1 = 1 → ∀ (H : Heap) (locs : List Loc) (ls : Array Slot), hs_P B D E (o.2.2) H → hs_Sx B s.heap H locs → lv_has ls 4 [(3, .int (o.2.1))] → W p l e rmX7_blockBegin s m args below meth c H locs 0 0 Q (F0 m 25 ls [])) : ∀ (n : Nat) (v2 : Int32) (v3 : Int32) (g : hs_S), lX7_blockBegin_4 n v0 v1 v2 v3 g = some o → ∀ (H : Heap) (locs : List Loc) (ls : Array Slot), hs_P B D E g H → hs_Sx B s.heap H locs → lv_has ls 4 [(0, .ref (B + v0)), (1, .int v1), (2, .int v2), (3, .int v3)] → W p l e rmX7_blockBegin s m args below meth c H locs 0 0 Q (F0 m 4 ls []) := by
  obtain ⟨hx, hb, hr, hml, hown, hts, hlocks, hK⟩ := id hX
  intro n
  induction n with
  | zero =>
    intro v2 v3 g hf
    cases hf
  | succ n ih =>
    intro v2 v3 g hf H locs ls hP hS hl
    replace hf := (lX7_blockBegin_4_s n v0 v1 v2 v3 g).symm.trans hf
    refine lv_iload_n hx hb dX7_blockBegin_4 rfl (lv_at hl 3 rfl) ?_
    refine lv_aload_n hx hb dX7_blockBegin_5 rfl (lv_at hl 0 rfl) ?_
    obtain ⟨h1, hf⟩ := hs_ck hf
    refine hs_geti (C := RX7) (T := TX7) (N := 11) hx hb hts (fun w h => List.mem_cons_of_mem _ (inlX7 w h)) hown hK.1 hP h1 (by decide) rfl 3 (by decide) (hts _ (List.mem_cons_of_mem _ wq205)) (fun _ h => h) rfl dX7_blockBegin_6 ?_
    refine lv_icmp_ge (tgt := 36) hx hb dX7_blockBegin_9 (by decide) (fun hc => ?_) (fun hc => ?_)
    · replace hf := hs_t hf hc
      obtain rfl := Option.some.inj hf
      exact hex0 rfl _ _ _ hP hS (lv_sub hl [] rfl)
    · replace hf := hs_f hf hc
      refine lv_aload_n hx hb dX7_blockBegin_12 rfl (lv_at hl 0 rfl) ?_
      refine lv_iload_n hx hb dX7_blockBegin_13 rfl (lv_at hl 3 rfl) ?_
      obtain ⟨r3, g2, h4, hf⟩ := hs_bd_some hf
      refine hs_calli (va_runV (As := [.int v3]) (rest := []) ⟨hx, hb, hml, hown, hts⟩ (ctX7_beginsBlock l B D E v0 v3 g _ h4) (cwV 1 hts (hs_gV (fun _ h => List.mem_cons_of_mem _ h) wq505 wq327 wq328 wq43 wq329) rfl rfl rfl (by decide +kernel) ⟨Nat.le_of_ble_eq_true rfl, Nat.le_of_ble_eq_true rfl⟩) (hs_preV (r := (RX7, TX7, 11)) hP hK h1 (by decide) rfl) rfl rfl hl.1 rfl (lv_room (Nat.le_of_ble_eq_true rfl)) dX7_blockBegin_14 ⟨(Nat.le_of_ble_eq_true rfl), (Nat.le_of_ble_eq_true rfl)⟩) hS (fun H locs hP hS => ?_)
      refine lv_if_eq (tgt := 30) hx hb dX7_blockBegin_17 (by decide) (fun hc => ?_) (fun hc => ?_)
      · replace hf := hs_t hf hc
        exact wX7_blockBegin_j30 hX (fun z0 z1 g H locs ls hf hP hS hl => ih z0 z1 g hf H locs ls hP hS hl) hex0 hex1 hf hP hS (lv_sub hl [0, 1, 2, 3] rfl)
      · replace hf := hs_f hf hc
        refine lv_iload_n hx hb dX7_blockBegin_20 rfl (lv_at hl 2 rfl) ?_
        refine lv_iload_n hx hb dX7_blockBegin_21 rfl (lv_at hl 1 rfl) ?_
        refine lv_icmp_ne (tgt := 27) hx hb dX7_blockBegin_22 (by decide) (fun hc => ?_) (fun hc => ?_)
        · replace hf := hs_f hf hc
          refine lv_iinc (v := (v2 + (1 : Int32))) (lv' := [(2, .int (v2 + (1 : Int32))), (0, .ref (B + v0)), (1, .int v1), (3, .int v3)]) hx hb dX7_blockBegin_27 hl (k := 2) rfl (by rfl) (by decide) rfl (fun ls hl => ?_)
          exact wX7_blockBegin_j30 hX (fun z0 z1 g H locs ls hf hP hS hl => ih z0 z1 g hf H locs ls hP hS hl) hex0 hex1 hf hP hS (lv_sub hl [1, 2, 0, 3] rfl)
        · replace hf := hs_t hf hc
          obtain rfl := Option.some.inj hf
          exact hex1 rfl _ _ _ hP hS (lv_sub hl [3] rfl)

set_option maxHeartbeats 4000000 in
set_option maxRecDepth 100000 in
theorem ctX7_blockBegin (l : Launch) (B : Nat) (D : va_G) (E : Nat → ClassId) (v0 : Nat) (v1 : Int32) (g : hs_S) (o : Int32 × hs_S) (hf : fX7_blockBegin v0 v1 g = some o) : Met l yX7_blockBegin wcX7_blockBegin rmX7_blockBegin (hs_Pc B D E g [.ref (B + v0), .int v1]) (hs_Qi B D E o) (0) (0) (hs_F B) := by
  refine Met.ofW (cc := cX7_blockBegin) (maxL := 4) (ret := (some .int)) (by decide) rfl ?_
  intro p e s m args below meth c s₁ Bd hml hv
  obtain ⟨rfl, hP, hK⟩ := hv
  have hx := Bd.exec
  have hb := Bd.bytes
  have hr := Bd.returns
  have hts := atoms_spec (ws := wcX7_blockBegin) Bd.pre
  have hown : s.vm.findClass RX7 = some m.cls := findClass_of_methodNamed Bd.named
  have hlocks := Bd.notSynchronized
  have hS : hs_Sx B s.heap s.heap [] := va_S.rf
  have hX : hs_cx cX7_blockBegin (some .int) 4 RX7 wcX7_blockBegin p s m (List.toArray [.ref (B + v0), .int v1]) meth c D E := ⟨hx, hb, hr, hml, hown, hts, hlocks, hK⟩
  have hl := lv_entry ([.ref (B + v0), .int v1]) (n := 4) (Nat.le_of_ble_eq_true rfl)
  rw [lg_entry_eq]
  generalize (lg_sl ([.ref (B + v0), .int v1]) ++ List.replicate (4 - (lg_sl ([.ref (B + v0), .int v1])).length) Slot.unset).toArray = ls at hl ⊢
  have hl : lv_has ls 4 [(0, .ref (B + v0)), (1, .int v1)] := hl
  have hP : hs_P B D E g s.heap := hP
  unfold fX7_blockBegin at hf
  refine lv_iconst (v := 0) hx hb dX7_blockBegin_0 (by decide) ?_
  refine lv_istore_n (lv' := [(2, .int (0 : Int32)), (0, .ref (B + v0)), (1, .int v1)]) hx hb dX7_blockBegin_1 rfl hl (by decide) rfl (fun ls hl => ?_)
  refine lv_iconst (v := 0) hx hb dX7_blockBegin_2 (by decide) ?_
  refine lv_istore_n (lv' := [(3, .int (0 : Int32)), (2, .int (0 : Int32)), (0, .ref (B + v0)), (1, .int v1)]) hx hb dX7_blockBegin_3 rfl hl (by decide) rfl (fun ls hl => ?_)
  obtain ⟨k6, x5, g7, h8, hf⟩ := hs_b3_some hf
  refine wX7_blockBegin_4 hX (fun hlab H locs ls hP hS hl => ?_) (fun hlab H locs ls hP hS hl => ?_) hs_N _ _ _ h8 _ _ _ hP hS (lv_sub hl [2, 3, 1, 0] rfl)
  · replace hlab : k6 = 0 := hlab
    replace hf := hs_t hf hlab
    refine lv_iconst (v := 0) hx hb dX7_blockBegin_36 (by decide) ?_
    exact hs_iret hx hb hr hlocks rfl hK hP hS hf dX7_blockBegin_37
  · replace hlab : k6 = 1 := hlab
    replace hf := hs_f hf (by rw [hlab]; decide)
    refine lv_iload_n hx hb dX7_blockBegin_25 rfl (lv_at hl 0 rfl) ?_
    exact hs_iret hx hb hr hlocks rfl hK hP hS hf dX7_blockBegin_26

theorem dX11_block_0 : decode cX11_block 0 = .ok (.aload_n 0, 1) := by decide +kernel
theorem dX11_block_1 : decode cX11_block 1 = .ok (.getfield 18, 3) := by decide +kernel
theorem dX11_block_4 : decode cX11_block 4 = .ok (.getfield 71, 3) := by decide +kernel
theorem dX11_block_7 : decode cX11_block 7 = .ok (.ifCond .ne 6, 3) := by decide +kernel
theorem dX11_block_10 : decode cX11_block 10 = .ok (.bipush (-2), 2) := by decide +kernel
theorem dX11_block_12 : decode cX11_block 12 = .ok (.ireturn, 1) := by decide +kernel
theorem dX11_block_13 : decode cX11_block 13 = .ok (.aload_n 0, 1) := by decide +kernel
theorem dX11_block_14 : decode cX11_block 14 = .ok (.getfield 18, 3) := by decide +kernel
theorem dX11_block_17 : decode cX11_block 17 = .ok (.iload_n 1, 1) := by decide +kernel
theorem dX11_block_18 : decode cX11_block 18 = .ok (.invokevirtual 103, 3) := by decide +kernel
theorem dX11_block_21 : decode cX11_block 21 = .ok (.ifCond .eq 31, 3) := by decide +kernel
theorem dX11_block_24 : decode cX11_block 24 = .ok (.iload_n 2, 1) := by decide +kernel
theorem dX11_block_25 : decode cX11_block 25 = .ok (.ifCond .lt 27, 3) := by decide +kernel
theorem dX11_block_28 : decode cX11_block 28 = .ok (.iload_n 2, 1) := by decide +kernel
theorem dX11_block_29 : decode cX11_block 29 = .ok (.aload_n 0, 1) := by decide +kernel
theorem dX11_block_30 : decode cX11_block 30 = .ok (.getfield 18, 3) := by decide +kernel
theorem dX11_block_33 : decode cX11_block 33 = .ok (.iload_n 1, 1) := by decide +kernel
theorem dX11_block_34 : decode cX11_block 34 = .ok (.invokevirtual 87, 3) := by decide +kernel
theorem dX11_block_37 : decode cX11_block 37 = .ok (.getfield 112, 3) := by decide +kernel
theorem dX11_block_40 : decode cX11_block 40 = .ok (.if_icmp .ge 12, 3) := by decide +kernel
theorem dX11_block_43 : decode cX11_block 43 = .ok (.iload_n 3, 1) := by decide +kernel
theorem dX11_block_44 : decode cX11_block 44 = .ok (.ifCond .lt 8, 3) := by decide +kernel
theorem dX11_block_47 : decode cX11_block 47 = .ok (.iload_n 3, 1) := by decide +kernel
theorem dX11_block_48 : decode cX11_block 48 = .ok (.iconst 1, 1) := by decide +kernel
theorem dX11_block_49 : decode cX11_block 49 = .ok (.if_icmp .le 6, 3) := by decide +kernel
theorem dX11_block_52 : decode cX11_block 52 = .ok (.bipush (-3), 2) := by decide +kernel
theorem dX11_block_54 : decode cX11_block 54 = .ok (.ireturn, 1) := by decide +kernel
theorem dX11_block_55 : decode cX11_block 55 = .ok (.aload_n 0, 1) := by decide +kernel
theorem dX11_block_56 : decode cX11_block 56 = .ok (.getfield 18, 3) := by decide +kernel
theorem dX11_block_59 : decode cX11_block 59 = .ok (.iload_n 1, 1) := by decide +kernel
theorem dX11_block_60 : decode cX11_block 60 = .ok (.invokevirtual 87, 3) := by decide +kernel
theorem dX11_block_63 : decode cX11_block 63 = .ok (.iload_n 2, 1) := by decide +kernel
theorem dX11_block_64 : decode cX11_block 64 = .ok (.invokevirtual 134, 3) := by decide +kernel
theorem dX11_block_67 : decode cX11_block 67 = .ok (.istore 4, 2) := by decide +kernel
theorem dX11_block_69 : decode cX11_block 69 = .ok (.iload_n 3, 1) := by decide +kernel
theorem dX11_block_70 : decode cX11_block 70 = .ok (.ifCond .ne 8, 3) := by decide +kernel
theorem dX11_block_73 : decode cX11_block 73 = .ok (.iload 4, 2) := by decide +kernel
theorem dX11_block_75 : decode cX11_block 75 = .ok (.goto 20, 3) := by decide +kernel
theorem dX11_block_78 : decode cX11_block 78 = .ok (.aload_n 0, 1) := by decide +kernel
theorem dX11_block_79 : decode cX11_block 79 = .ok (.getfield 18, 3) := by decide +kernel
theorem dX11_block_82 : decode cX11_block 82 = .ok (.iload_n 1, 1) := by decide +kernel
theorem dX11_block_83 : decode cX11_block 83 = .ok (.invokevirtual 87, 3) := by decide +kernel
theorem dX11_block_86 : decode cX11_block 86 = .ok (.iload 4, 2) := by decide +kernel
theorem dX11_block_88 : decode cX11_block 88 = .ok (.aload_n 0, 1) := by decide +kernel
theorem dX11_block_89 : decode cX11_block 89 = .ok (.getfield 30, 3) := by decide +kernel
theorem dX11_block_92 : decode cX11_block 92 = .ok (.invokevirtual 137, 3) := by decide +kernel
theorem dX11_block_95 : decode cX11_block 95 = .ok (.ireturn, 1) := by decide +kernel
abbrev wcX11_block : List Cond := .code yX11_block cX11_block 5 (some .int) :: wsL_law
def fX11_block (v0 : Nat) (v1 : Int32) (v2 : Int32) (v3 : Int32) (g : hs_S) : Option (Int32 × hs_S) :=
  if hs_kd g v0 = 9 then
  if ¬ (hs_R g v0 1) = 0 then
  if hs_kd g ((hs_R g v0 1) - 1) = 0 then
  if (hs_I g ((hs_R g v0 1) - 1) 4) = 0 then (
    some ((-2 : Int32), g)
  ) else (
    hs_bd (fX0_has ((hs_R g v0 1) - 1) v1 g) fun r5 g4 =>
    if r5 = 0 then (
      some ((-3 : Int32), g4)
    ) else (
      if v2 < 0 then (
        some ((-3 : Int32), g4)
      ) else (
        if hs_kd g4 v0 = 9 then
        if ¬ (hs_R g4 v0 1) = 0 then
        if hs_kd g4 ((hs_R g4 v0 1) - 1) = 0 then
        hs_bd (fX0_method ((hs_R g4 v0 1) - 1) v1 g4) fun r11 g10 =>
        if hs_kd g10 r11 = 6 then
        if (hs_I g10 r11 7) ≤ v2 then (
          some ((-3 : Int32), g10)
        ) else (
          if v3 < 0 then (
            some ((-3 : Int32), g10)
          ) else (
            if v3 ≤ (1 : Int32) then (
              if hs_kd g10 v0 = 9 then
              if ¬ (hs_R g10 v0 1) = 0 then
              if hs_kd g10 ((hs_R g10 v0 1) - 1) = 0 then
              hs_bd (fX0_method ((hs_R g10 v0 1) - 1) v1 g10) fun r18 g17 =>
              if hs_kd g17 r18 = 6 then
              hs_bd (fX7_blockBegin r18 v2 g17) fun r22 g21 =>
              if v3 = 0 then (
                some (r22, g21)
              ) else (
                if hs_kd g21 v0 = 9 then
                if ¬ (hs_R g21 v0 1) = 0 then
                if hs_kd g21 ((hs_R g21 v0 1) - 1) = 0 then
                hs_bd (fX0_method ((hs_R g21 v0 1) - 1) v1 g21) fun r28 g27 =>
                if hs_kd g27 v0 = 9 then
                if ¬ (hs_R g27 v0 4) = 0 then
                if hs_kd g27 r28 = 6 then
                hs_bd (fX7_sumFrom r28 r22 ((hs_R g27 v0 4) - 1) g27) fun r34 g33 =>
                some (r34, g33)
                else none else none else none else none else none else none
              )
              else none else none else none else none
            ) else (
              some ((-3 : Int32), g10)
            )
          )
        )
        else none else none else none else none
      )
    )
  )
  else none else none else none
abbrev rmX11_block : Room := { frames := 3, cells := 0, slots := 0, locals := 66 }
set_option maxHeartbeats 4000000 in
set_option maxRecDepth 100000 in
theorem ctX11_block (l : Launch) (B : Nat) (D : va_G) (E : Nat → ClassId) (v0 : Nat) (v1 : Int32) (v2 : Int32) (v3 : Int32) (g : hs_S) (o : Int32 × hs_S) (hf : fX11_block v0 v1 v2 v3 g = some o) : Met l yX11_block wcX11_block rmX11_block (hs_Pc B D E g [.ref (B + v0), .int v1, .int v2, .int v3]) (hs_Qi B D E o) (0) (0) (hs_F B) := by
  refine Met.ofW (cc := cX11_block) (maxL := 5) (ret := (some .int)) (by decide) rfl ?_
  intro p e s m args below meth c s₁ Bd hml hv
  obtain ⟨rfl, hP, hK⟩ := hv
  have hx := Bd.exec
  have hb := Bd.bytes
  have hr := Bd.returns
  have hts := atoms_spec (ws := wcX11_block) Bd.pre
  have hown : s.vm.findClass RX11 = some m.cls := findClass_of_methodNamed Bd.named
  have hlocks := Bd.notSynchronized
  have hS : hs_Sx B s.heap s.heap [] := va_S.rf
  have hX : hs_cx cX11_block (some .int) 5 RX11 wcX11_block p s m (List.toArray [.ref (B + v0), .int v1, .int v2, .int v3]) meth c D E := ⟨hx, hb, hr, hml, hown, hts, hlocks, hK⟩
  have hl := lv_entry ([.ref (B + v0), .int v1, .int v2, .int v3]) (n := 5) (Nat.le_of_ble_eq_true rfl)
  rw [lg_entry_eq]
  generalize (lg_sl ([.ref (B + v0), .int v1, .int v2, .int v3]) ++ List.replicate (5 - (lg_sl ([.ref (B + v0), .int v1, .int v2, .int v3])).length) Slot.unset).toArray = ls at hl ⊢
  have hl : lv_has ls 5 [(0, .ref (B + v0)), (1, .int v1), (2, .int v2), (3, .int v3)] := hl
  have hP : hs_P B D E g s.heap := hP
  unfold fX11_block at hf
  refine lv_aload_n hx hb dX11_block_0 rfl (lv_at hl 0 rfl) ?_
  obtain ⟨h1, hf⟩ := hs_ck hf
  obtain ⟨h2, hf⟩ := hs_ck hf
  refine hs_getr (C := RX11) (T := TX11) (N := 8) hx hb hts (fun w h => List.mem_cons_of_mem _ (inlX11 w h)) hown hK.1 hP h1 (by decide) rfl 1 (by decide) (hts _ (List.mem_cons_of_mem _ wq17)) (fun _ h => h) rfl h2 dX11_block_1 ?_
  obtain ⟨h3, hf⟩ := hs_ck hf
  refine hs_geti (C := RX0) (T := TX0) (N := 5) hx hb hts (fun w h => List.mem_cons_of_mem _ (inlX0 w h)) hown hK.1 hP h3 (by decide) rfl 4 (by decide) (hts _ (List.mem_cons_of_mem _ wq181)) (fun _ h => h) rfl dX11_block_4 ?_
  refine lv_if_ne (tgt := 13) hx hb dX11_block_7 (by decide) (fun hc => ?_) (fun hc => ?_)
  · replace hf := hs_f hf hc
    refine lv_aload_n hx hb dX11_block_13 rfl (lv_at hl 0 rfl) ?_
    refine hs_getr (C := RX11) (T := TX11) (N := 8) hx hb hts (fun w h => List.mem_cons_of_mem _ (inlX11 w h)) hown hK.1 hP h1 (by decide) rfl 1 (by decide) (hts _ (List.mem_cons_of_mem _ wq17)) (fun _ h => h) rfl h2 dX11_block_14 ?_
    refine lv_iload_n hx hb dX11_block_17 rfl (lv_at hl 1 rfl) ?_
    obtain ⟨r5, g4, h6, hf⟩ := hs_bd_some hf
    refine hs_calli (va_runV (As := [.int v1]) (rest := []) ⟨hx, hb, hml, hown, hts⟩ (ctX0_has l B D E ((hs_R g v0 1) - 1) v1 g _ h6) (cwV 1 hts (hs_gV (fun _ h => List.mem_cons_of_mem _ h) wq641 wq275 wq276 wq15 wq277) rfl rfl rfl (by decide +kernel) ⟨Nat.le_of_ble_eq_true rfl, Nat.le_of_ble_eq_true rfl⟩) (hs_preV (r := (RX0, TX0, 5)) hP hK h3 (by decide) rfl) rfl rfl hl.1 rfl (lv_room (Nat.le_of_ble_eq_true rfl)) dX11_block_18 ⟨(Nat.le_of_ble_eq_true rfl), (Nat.le_of_ble_eq_true rfl)⟩) hS (fun H locs hP hS => ?_)
    refine lv_if_eq (tgt := 52) hx hb dX11_block_21 (by decide) (fun hc => ?_) (fun hc => ?_)
    · replace hf := hs_t hf hc
      refine lv_bipush (v := -3) hx hb dX11_block_52 (by decide) ?_
      exact hs_iret hx hb hr hlocks rfl hK hP hS hf dX11_block_54
    · replace hf := hs_f hf hc
      refine lv_iload_n hx hb dX11_block_24 rfl (lv_at hl 2 rfl) ?_
      refine lv_if_lt (tgt := 52) hx hb dX11_block_25 (by decide) (fun hc => ?_) (fun hc => ?_)
      · replace hf := hs_t hf hc
        refine lv_bipush (v := -3) hx hb dX11_block_52 (by decide) ?_
        exact hs_iret hx hb hr hlocks rfl hK hP hS hf dX11_block_54
      · replace hf := hs_f hf hc
        refine lv_iload_n hx hb dX11_block_28 rfl (lv_at hl 2 rfl) ?_
        refine lv_aload_n hx hb dX11_block_29 rfl (lv_at hl 0 rfl) ?_
        obtain ⟨h7, hf⟩ := hs_ck hf
        obtain ⟨h8, hf⟩ := hs_ck hf
        refine hs_getr (C := RX11) (T := TX11) (N := 8) hx hb hts (fun w h => List.mem_cons_of_mem _ (inlX11 w h)) hown hK.1 hP h7 (by decide) rfl 1 (by decide) (hts _ (List.mem_cons_of_mem _ wq17)) (fun _ h => h) rfl h8 dX11_block_30 ?_
        refine lv_iload_n hx hb dX11_block_33 rfl (lv_at hl 1 rfl) ?_
        obtain ⟨h9, hf⟩ := hs_ck hf
        obtain ⟨r11, g10, h12, hf⟩ := hs_bd_some hf
        refine hs_callr (va_runV (As := [.int v1]) (rest := [.int v2]) ⟨hx, hb, hml, hown, hts⟩ (ctX0_method l B D E ((hs_R g4 v0 1) - 1) v1 g4 _ h12) (cwV 1 hts (hs_gV (fun _ h => List.mem_cons_of_mem _ h) wq488 wq108 wq109 wq15 wq110) rfl rfl rfl (by decide +kernel) ⟨Nat.le_of_ble_eq_true rfl, Nat.le_of_ble_eq_true rfl⟩) (hs_preV (r := (RX0, TX0, 5)) hP hK h9 (by decide) rfl) rfl rfl hl.1 rfl (lv_room (Nat.le_of_ble_eq_true rfl)) dX11_block_34 ⟨(Nat.le_of_ble_eq_true rfl), (Nat.le_of_ble_eq_true rfl)⟩) hS (fun H locs hP hS => ?_)
        obtain ⟨h13, hf⟩ := hs_ck hf
        refine hs_geti (C := RX7) (T := TX7) (N := 11) hx hb hts (fun w h => List.mem_cons_of_mem _ (inlX7 w h)) hown hK.1 hP h13 (by decide) rfl 7 (by decide) (hts _ (List.mem_cons_of_mem _ wq636)) (fun _ h => h) rfl dX11_block_37 ?_
        refine lv_icmp_ge (tgt := 52) hx hb dX11_block_40 (by decide) (fun hc => ?_) (fun hc => ?_)
        · replace hf := hs_t hf hc
          refine lv_bipush (v := -3) hx hb dX11_block_52 (by decide) ?_
          exact hs_iret hx hb hr hlocks rfl hK hP hS hf dX11_block_54
        · replace hf := hs_f hf hc
          refine lv_iload_n hx hb dX11_block_43 rfl (lv_at hl 3 rfl) ?_
          refine lv_if_lt (tgt := 52) hx hb dX11_block_44 (by decide) (fun hc => ?_) (fun hc => ?_)
          · replace hf := hs_t hf hc
            refine lv_bipush (v := -3) hx hb dX11_block_52 (by decide) ?_
            exact hs_iret hx hb hr hlocks rfl hK hP hS hf dX11_block_54
          · replace hf := hs_f hf hc
            refine lv_iload_n hx hb dX11_block_47 rfl (lv_at hl 3 rfl) ?_
            refine lv_iconst (v := 1) hx hb dX11_block_48 (by decide) ?_
            refine lv_icmp_le (tgt := 55) hx hb dX11_block_49 (by decide) (fun hc => ?_) (fun hc => ?_)
            · replace hf := hs_t hf hc
              refine lv_aload_n hx hb dX11_block_55 rfl (lv_at hl 0 rfl) ?_
              obtain ⟨h14, hf⟩ := hs_ck hf
              obtain ⟨h15, hf⟩ := hs_ck hf
              refine hs_getr (C := RX11) (T := TX11) (N := 8) hx hb hts (fun w h => List.mem_cons_of_mem _ (inlX11 w h)) hown hK.1 hP h14 (by decide) rfl 1 (by decide) (hts _ (List.mem_cons_of_mem _ wq17)) (fun _ h => h) rfl h15 dX11_block_56 ?_
              refine lv_iload_n hx hb dX11_block_59 rfl (lv_at hl 1 rfl) ?_
              obtain ⟨h16, hf⟩ := hs_ck hf
              obtain ⟨r18, g17, h19, hf⟩ := hs_bd_some hf
              refine hs_callr (va_runV (As := [.int v1]) (rest := []) ⟨hx, hb, hml, hown, hts⟩ (ctX0_method l B D E ((hs_R g10 v0 1) - 1) v1 g10 _ h19) (cwV 1 hts (hs_gV (fun _ h => List.mem_cons_of_mem _ h) wq488 wq108 wq109 wq15 wq110) rfl rfl rfl (by decide +kernel) ⟨Nat.le_of_ble_eq_true rfl, Nat.le_of_ble_eq_true rfl⟩) (hs_preV (r := (RX0, TX0, 5)) hP hK h16 (by decide) rfl) rfl rfl hl.1 rfl (lv_room (Nat.le_of_ble_eq_true rfl)) dX11_block_60 ⟨(Nat.le_of_ble_eq_true rfl), (Nat.le_of_ble_eq_true rfl)⟩) hS (fun H locs hP hS => ?_)
              refine lv_iload_n hx hb dX11_block_63 rfl (lv_at hl 2 rfl) ?_
              obtain ⟨h20, hf⟩ := hs_ck hf
              obtain ⟨r22, g21, h23, hf⟩ := hs_bd_some hf
              refine hs_calli (va_runV (As := [.int v2]) (rest := []) ⟨hx, hb, hml, hown, hts⟩ (ctX7_blockBegin l B D E r18 v2 g17 _ h23) (cwV 1 hts (hs_gV (fun _ h => List.mem_cons_of_mem _ h) wq680 wq681 wq682 wq43 wq683) rfl rfl rfl (by decide +kernel) ⟨Nat.le_of_ble_eq_true rfl, Nat.le_of_ble_eq_true rfl⟩) (hs_preV (r := (RX7, TX7, 11)) hP hK h20 (by decide) rfl) rfl rfl hl.1 rfl (lv_room (Nat.le_of_ble_eq_true rfl)) dX11_block_64 ⟨(Nat.le_of_ble_eq_true rfl), (Nat.le_of_ble_eq_true rfl)⟩) hS (fun H locs hP hS => ?_)
              refine lv_istore (lv' := [(4, .int r22), (0, .ref (B + v0)), (1, .int v1), (2, .int v2), (3, .int v3)]) hx hb dX11_block_67 hl (by decide) rfl (fun ls hl => ?_)
              refine lv_iload_n hx hb dX11_block_69 rfl (lv_at hl 4 rfl) ?_
              refine lv_if_ne (tgt := 78) hx hb dX11_block_70 (by decide) (fun hc => ?_) (fun hc => ?_)
              · replace hf := hs_f hf hc
                refine lv_aload_n hx hb dX11_block_78 rfl (lv_at hl 1 rfl) ?_
                obtain ⟨h24, hf⟩ := hs_ck hf
                obtain ⟨h25, hf⟩ := hs_ck hf
                refine hs_getr (C := RX11) (T := TX11) (N := 8) hx hb hts (fun w h => List.mem_cons_of_mem _ (inlX11 w h)) hown hK.1 hP h24 (by decide) rfl 1 (by decide) (hts _ (List.mem_cons_of_mem _ wq17)) (fun _ h => h) rfl h25 dX11_block_79 ?_
                refine lv_iload_n hx hb dX11_block_82 rfl (lv_at hl 2 rfl) ?_
                obtain ⟨h26, hf⟩ := hs_ck hf
                obtain ⟨r28, g27, h29, hf⟩ := hs_bd_some hf
                refine hs_callr (va_runV (As := [.int v1]) (rest := []) ⟨hx, hb, hml, hown, hts⟩ (ctX0_method l B D E ((hs_R g21 v0 1) - 1) v1 g21 _ h29) (cwV 1 hts (hs_gV (fun _ h => List.mem_cons_of_mem _ h) wq488 wq108 wq109 wq15 wq110) rfl rfl rfl (by decide +kernel) ⟨Nat.le_of_ble_eq_true rfl, Nat.le_of_ble_eq_true rfl⟩) (hs_preV (r := (RX0, TX0, 5)) hP hK h26 (by decide) rfl) rfl rfl hl.1 rfl (lv_room (Nat.le_of_ble_eq_true rfl)) dX11_block_83 ⟨(Nat.le_of_ble_eq_true rfl), (Nat.le_of_ble_eq_true rfl)⟩) hS (fun H locs hP hS => ?_)
                refine lv_iload hx hb dX11_block_86 (lv_at hl 0 rfl) ?_
                refine lv_aload_n hx hb dX11_block_88 rfl (lv_at hl 1 rfl) ?_
                obtain ⟨h30, hf⟩ := hs_ck hf
                obtain ⟨h31, hf⟩ := hs_ck hf
                refine hs_getr (C := RX11) (T := TX11) (N := 8) hx hb hts (fun w h => List.mem_cons_of_mem _ (inlX11 w h)) hown hK.1 hP h30 (by decide) rfl 4 (by decide) (hts _ (List.mem_cons_of_mem _ wq23)) (fun _ h => h) rfl h31 dX11_block_89 ?_
                obtain ⟨h32, hf⟩ := hs_ck hf
                obtain ⟨r34, g33, h35, hf⟩ := hs_bd_some hf
                refine hs_calli (va_runV (As := [.int r22, .ref (B + ((hs_R g27 v0 4) - 1))]) (rest := []) ⟨hx, hb, hml, hown, hts⟩ (ctX7_sumFrom l B D E r28 r22 ((hs_R g27 v0 4) - 1) g27 _ h35) (cwV 2 hts (hs_gV (fun _ h => List.mem_cons_of_mem _ h) wq684 wq502 wq503 wq43 wq504) rfl rfl rfl (by decide +kernel) ⟨Nat.le_of_ble_eq_true rfl, Nat.le_of_ble_eq_true rfl⟩) (hs_preV (r := (RX7, TX7, 11)) hP hK h32 (by decide) rfl) rfl rfl hl.1 rfl (lv_room (Nat.le_of_ble_eq_true rfl)) dX11_block_92 ⟨(Nat.le_of_ble_eq_true rfl), (Nat.le_of_ble_eq_true rfl)⟩) hS (fun H locs hP hS => ?_)
                exact hs_iret hx hb hr hlocks rfl hK hP hS hf dX11_block_95
              · replace hf := hs_t hf hc
                refine lv_iload hx hb dX11_block_73 (lv_at hl 0 rfl) ?_
                refine lv_goto (tgt := 95) hx hb dX11_block_75 (by decide) ?_
                exact hs_iret hx hb hr hlocks rfl hK hP hS hf dX11_block_95
            · replace hf := hs_f hf hc
              refine lv_bipush (v := -3) hx hb dX11_block_52 (by decide) ?_
              exact hs_iret hx hb hr hlocks rfl hK hP hS hf dX11_block_54
  · replace hf := hs_t hf hc
    refine lv_bipush (v := -2) hx hb dX11_block_10 (by decide) ?_
    exact hs_iret hx hb hr hlocks rfl hK hP hS hf dX11_block_12

theorem dX10_empty_0 : decode cX10_empty 0 = .ok (.aload_n 0, 1) := by decide +kernel
theorem dX10_empty_1 : decode cX10_empty 1 = .ok (.getfield 9, 3) := by decide +kernel
theorem dX10_empty_4 : decode cX10_empty 4 = .ok (.iconst 0, 1) := by decide +kernel
theorem dX10_empty_5 : decode cX10_empty 5 = .ok (.invokestatic 18, 3) := by decide +kernel
theorem dX10_empty_8 : decode cX10_empty 8 = .ok (.return_, 1) := by decide +kernel
abbrev wcX10_empty : List Cond := .code yX10_empty cX10_empty 1 none :: wsL_law
def fX10_empty (v0 : Nat) (g : hs_S) : Option (hs_S) :=
  if hs_kd g v0 = 8 then
  if ¬ (hs_R g v0 0) = 0 then
  hs_bv (fJ7_fill_53178 ((hs_R g v0 0) - 1) (0 : Int32) g) fun g3 =>
  some g3
  else none else none
abbrev rmX10_empty : Room := { frames := 1, cells := 0, slots := 0, locals := 23 }
set_option maxHeartbeats 4000000 in
set_option maxRecDepth 100000 in
theorem ctX10_empty (l : Launch) (B : Nat) (D : va_G) (E : Nat → ClassId) (v0 : Nat) (g : hs_S) (o : hs_S) (hf : fX10_empty v0 g = some o) : Met l yX10_empty wcX10_empty rmX10_empty (hs_Pc B D E g [.ref (B + v0)]) (hs_Qv B D E o) (0) (0) (hs_F B) := by
  refine Met.ofW (cc := cX10_empty) (maxL := 1) (ret := none) (by decide) rfl ?_
  intro p e s m args below meth c s₁ Bd hml hv
  obtain ⟨rfl, hP, hK⟩ := hv
  have hx := Bd.exec
  have hb := Bd.bytes
  have hr := Bd.returns
  have hts := atoms_spec (ws := wcX10_empty) Bd.pre
  have hown : s.vm.findClass RX10 = some m.cls := findClass_of_methodNamed Bd.named
  have hlocks := Bd.notSynchronized
  have hS : hs_Sx B s.heap s.heap [] := va_S.rf
  have hX : hs_cx cX10_empty none 1 RX10 wcX10_empty p s m (List.toArray [.ref (B + v0)]) meth c D E := ⟨hx, hb, hr, hml, hown, hts, hlocks, hK⟩
  have hl := lv_entry ([.ref (B + v0)]) (n := 1) (Nat.le_of_ble_eq_true rfl)
  rw [lg_entry_eq]
  generalize (lg_sl ([.ref (B + v0)]) ++ List.replicate (1 - (lg_sl ([.ref (B + v0)])).length) Slot.unset).toArray = ls at hl ⊢
  have hl : lv_has ls 1 [(0, .ref (B + v0))] := hl
  have hP : hs_P B D E g s.heap := hP
  unfold fX10_empty at hf
  refine lv_aload_n hx hb dX10_empty_0 rfl (lv_at hl 0 rfl) ?_
  obtain ⟨h1, hf⟩ := hs_ck hf
  obtain ⟨h2, hf⟩ := hs_ck hf
  refine hs_getr (C := RX10) (T := TX10) (N := 2) hx hb hts (fun w h => List.mem_cons_of_mem _ (inlX10 w h)) hown hK.1 hP h1 (by decide) rfl 0 (by decide) (hts _ (List.mem_cons_of_mem _ wq105)) (fun _ h => h) rfl h2 dX10_empty_1 ?_
  refine lv_iconst (v := 0) hx hb dX10_empty_4 (by decide) ?_
  obtain ⟨g3, h5, hf⟩ := hs_bv_some hf
  refine hs_callv (va_runS (As := [.ref (B + ((hs_R g v0 0) - 1)), .int (0 : Int32)]) (rest := []) ⟨hx, hb, hml, hown, hts⟩ (ctJ7_fill_53178 l B D E ((hs_R g v0 0) - 1) (0 : Int32) g _ h5) (va_cwS 2 hts (hs_gS (fun _ h => List.mem_cons_of_mem _ h) wq714 wq63 wq64 wq65) rfl rfl rfl (by decide +kernel) ⟨Nat.le_of_ble_eq_true rfl, Nat.le_of_ble_eq_true rfl⟩) (hs_pre hP hK) rfl rfl hl.1 rfl (lv_room (Nat.le_of_ble_eq_true rfl)) dX10_empty_5 ⟨(Nat.le_of_ble_eq_true rfl), (Nat.le_of_ble_eq_true rfl)⟩) hS (fun H locs hP hS => ?_)
  exact hs_vret hx hb hr hlocks hK hP hS hf dX10_empty_8

theorem dX6_forget_0 : decode cX6_forget 0 = .ok (.aload_n 0, 1) := by decide +kernel
theorem dX6_forget_1 : decode cX6_forget 1 = .ok (.getfield 20, 3) := by decide +kernel
theorem dX6_forget_4 : decode cX6_forget 4 = .ok (.invokevirtual 37, 3) := by decide +kernel
theorem dX6_forget_7 : decode cX6_forget 7 = .ok (.aload_n 0, 1) := by decide +kernel
theorem dX6_forget_8 : decode cX6_forget 8 = .ok (.iconst 0, 1) := by decide +kernel
theorem dX6_forget_9 : decode cX6_forget 9 = .ok (.putfield 40, 3) := by decide +kernel
theorem dX6_forget_12 : decode cX6_forget 12 = .ok (.aload_n 0, 1) := by decide +kernel
theorem dX6_forget_13 : decode cX6_forget 13 = .ok (.iconst 0, 1) := by decide +kernel
theorem dX6_forget_14 : decode cX6_forget 14 = .ok (.putfield 44, 3) := by decide +kernel
theorem dX6_forget_17 : decode cX6_forget 17 = .ok (.aload_n 0, 1) := by decide +kernel
theorem dX6_forget_18 : decode cX6_forget 18 = .ok (.iconst 0, 1) := by decide +kernel
theorem dX6_forget_19 : decode cX6_forget 19 = .ok (.putfield 47, 3) := by decide +kernel
theorem dX6_forget_22 : decode cX6_forget 22 = .ok (.aload_n 0, 1) := by decide +kernel
theorem dX6_forget_23 : decode cX6_forget 23 = .ok (.iconst 0, 1) := by decide +kernel
theorem dX6_forget_24 : decode cX6_forget 24 = .ok (.putfield 50, 3) := by decide +kernel
theorem dX6_forget_27 : decode cX6_forget 27 = .ok (.return_, 1) := by decide +kernel
abbrev wcX6_forget : List Cond := .code yX6_forget cX6_forget 1 none :: wsL_law
def fX6_forget (v0 : Nat) (g : hs_S) : Option (hs_S) :=
  if hs_kd g v0 = 5 then
  if ¬ (hs_R g v0 2) = 0 then
  if hs_kd g ((hs_R g v0 2) - 1) = 8 then
  hs_bv (fX10_empty ((hs_R g v0 2) - 1) g) fun g4 =>
  if hs_kd g4 v0 = 5 then
  some (hs_wI (hs_wI (hs_wI (hs_wI g4 v0 3 (0 : Int32)) v0 5 (0 : Int32)) v0 6 (0 : Int32)) v0 7 (0 : Int32))
  else none else none else none else none
abbrev rmX6_forget : Room := { frames := 2, cells := 0, slots := 0, locals := 43 }
set_option maxHeartbeats 4000000 in
set_option maxRecDepth 100000 in
theorem ctX6_forget (l : Launch) (B : Nat) (D : va_G) (E : Nat → ClassId) (v0 : Nat) (g : hs_S) (o : hs_S) (hf : fX6_forget v0 g = some o) : Met l yX6_forget wcX6_forget rmX6_forget (hs_Pc B D E g [.ref (B + v0)]) (hs_Qv B D E o) (0) (0) (hs_F B) := by
  refine Met.ofW (cc := cX6_forget) (maxL := 1) (ret := none) (by decide) rfl ?_
  intro p e s m args below meth c s₁ Bd hml hv
  obtain ⟨rfl, hP, hK⟩ := hv
  have hx := Bd.exec
  have hb := Bd.bytes
  have hr := Bd.returns
  have hts := atoms_spec (ws := wcX6_forget) Bd.pre
  have hown : s.vm.findClass RX6 = some m.cls := findClass_of_methodNamed Bd.named
  have hlocks := Bd.notSynchronized
  have hS : hs_Sx B s.heap s.heap [] := va_S.rf
  have hX : hs_cx cX6_forget none 1 RX6 wcX6_forget p s m (List.toArray [.ref (B + v0)]) meth c D E := ⟨hx, hb, hr, hml, hown, hts, hlocks, hK⟩
  have hl := lv_entry ([.ref (B + v0)]) (n := 1) (Nat.le_of_ble_eq_true rfl)
  rw [lg_entry_eq]
  generalize (lg_sl ([.ref (B + v0)]) ++ List.replicate (1 - (lg_sl ([.ref (B + v0)])).length) Slot.unset).toArray = ls at hl ⊢
  have hl : lv_has ls 1 [(0, .ref (B + v0))] := hl
  have hP : hs_P B D E g s.heap := hP
  unfold fX6_forget at hf
  refine lv_aload_n hx hb dX6_forget_0 rfl (lv_at hl 0 rfl) ?_
  obtain ⟨h1, hf⟩ := hs_ck hf
  obtain ⟨h2, hf⟩ := hs_ck hf
  refine hs_getr (C := RX6) (T := TX6) (N := 8) hx hb hts (fun w h => List.mem_cons_of_mem _ (inlX6 w h)) hown hK.1 hP h1 (by decide) rfl 2 (by decide) (hts _ (List.mem_cons_of_mem _ wq98)) (fun _ h => h) rfl h2 dX6_forget_1 ?_
  obtain ⟨h3, hf⟩ := hs_ck hf
  obtain ⟨g4, h6, hf⟩ := hs_bv_some hf
  refine hs_callv (va_runV (As := []) (rest := []) ⟨hx, hb, hml, hown, hts⟩ (ctX10_empty l B D E ((hs_R g v0 2) - 1) g _ h6) (cwV 0 hts (hs_gV (fun _ h => List.mem_cons_of_mem _ h) wq710 wq711 wq712 wq97 wq713) rfl rfl rfl (by decide +kernel) ⟨Nat.le_of_ble_eq_true rfl, Nat.le_of_ble_eq_true rfl⟩) (hs_preV (r := (RX10, TX10, 2)) hP hK h3 (by decide) rfl) rfl rfl hl.1 rfl (lv_room (Nat.le_of_ble_eq_true rfl)) dX6_forget_4 ⟨(Nat.le_of_ble_eq_true rfl), (Nat.le_of_ble_eq_true rfl)⟩) hS (fun H locs hP hS => ?_)
  refine lv_aload_n hx hb dX6_forget_7 rfl (lv_at hl 0 rfl) ?_
  refine lv_iconst (v := 0) hx hb dX6_forget_8 (by decide) ?_
  obtain ⟨h7, hf⟩ := hs_ck hf
  refine hs_puti (C := RX6) (T := TX6) (N := 8) hx hb hts (fun w h => List.mem_cons_of_mem _ (inlX6 w h)) tyX6 tyX6_ok nmX6 hown hK.1 hP hS h7 (by decide) rfl 3 (by decide) (hts _ (List.mem_cons_of_mem _ wq701)) (fun _ h => h) (Or.inl rfl) rfl rfl rfl dX6_forget_9 (fun H locs hP hS => ?_)
  refine lv_aload_n hx hb dX6_forget_12 rfl (lv_at hl 0 rfl) ?_
  refine lv_iconst (v := 0) hx hb dX6_forget_13 (by decide) ?_
  refine hs_puti (C := RX6) (T := TX6) (N := 8) hx hb hts (fun w h => List.mem_cons_of_mem _ (inlX6 w h)) tyX6 tyX6_ok nmX6 hown hK.1 hP hS h7 (by decide) rfl 5 (by decide) (hts _ (List.mem_cons_of_mem _ wq707)) (fun _ h => h) (Or.inl rfl) rfl rfl rfl dX6_forget_14 (fun H locs hP hS => ?_)
  refine lv_aload_n hx hb dX6_forget_17 rfl (lv_at hl 0 rfl) ?_
  refine lv_iconst (v := 0) hx hb dX6_forget_18 (by decide) ?_
  refine hs_puti (C := RX6) (T := TX6) (N := 8) hx hb hts (fun w h => List.mem_cons_of_mem _ (inlX6 w h)) tyX6 tyX6_ok nmX6 hown hK.1 hP hS h7 (by decide) rfl 6 (by decide) (hts _ (List.mem_cons_of_mem _ wq708)) (fun _ h => h) (Or.inl rfl) rfl rfl rfl dX6_forget_19 (fun H locs hP hS => ?_)
  refine lv_aload_n hx hb dX6_forget_22 rfl (lv_at hl 0 rfl) ?_
  refine lv_iconst (v := 0) hx hb dX6_forget_23 (by decide) ?_
  refine hs_puti (C := RX6) (T := TX6) (N := 8) hx hb hts (fun w h => List.mem_cons_of_mem _ (inlX6 w h)) tyX6 tyX6_ok nmX6 hown hK.1 hP hS h7 (by decide) rfl 7 (by decide) (hts _ (List.mem_cons_of_mem _ wq709)) (fun _ h => h) (Or.inl rfl) rfl rfl rfl dX6_forget_24 (fun H locs hP hS => ?_)
  exact hs_vret hx hb hr hlocks hK hP hS hf dX6_forget_27

theorem dX6_frame_0 : decode cX6_frame 0 = .ok (.iload_n 1, 1) := by decide +kernel
theorem dX6_frame_1 : decode cX6_frame 1 = .ok (.ifCond .lt 18, 3) := by decide +kernel
theorem dX6_frame_4 : decode cX6_frame 4 = .ok (.iload_n 1, 1) := by decide +kernel
theorem dX6_frame_5 : decode cX6_frame 5 = .ok (.bipush 60, 2) := by decide +kernel
theorem dX6_frame_7 : decode cX6_frame 7 = .ok (.if_icmp .ge 12, 3) := by decide +kernel
theorem dX6_frame_10 : decode cX6_frame 10 = .ok (.aload_n 0, 1) := by decide +kernel
theorem dX6_frame_11 : decode cX6_frame 11 = .ok (.getfield 13, 3) := by decide +kernel
theorem dX6_frame_14 : decode cX6_frame 14 = .ok (.iload_n 1, 1) := by decide +kernel
theorem dX6_frame_15 : decode cX6_frame 15 = .ok (.aaload, 1) := by decide +kernel
theorem dX6_frame_16 : decode cX6_frame 16 = .ok (.goto 9, 3) := by decide +kernel
theorem dX6_frame_19 : decode cX6_frame 19 = .ok (.aload_n 0, 1) := by decide +kernel
theorem dX6_frame_20 : decode cX6_frame 20 = .ok (.getfield 13, 3) := by decide +kernel
theorem dX6_frame_23 : decode cX6_frame 23 = .ok (.iconst 0, 1) := by decide +kernel
theorem dX6_frame_24 : decode cX6_frame 24 = .ok (.aaload, 1) := by decide +kernel
theorem dX6_frame_25 : decode cX6_frame 25 = .ok (.areturn, 1) := by decide +kernel
abbrev wcX6_frame : List Cond := .code yX6_frame cX6_frame 2 (some (.object "StepRewriter$Frame")) :: wsL_law
def jX6_frame_19 (v0 : Nat) (g : hs_S) : Option (Nat × hs_S) :=
  if hs_kd g v0 = 5 then
  if ¬ (hs_R g v0 1) = 0 then
  if hs_kd g ((hs_R g v0 1) - 1) = 103 then
  if hs_in (0 : Int32) (hs_ln g ((hs_R g v0 1) - 1)) = true then
  if ¬ (hs_R g ((hs_R g v0 1) - 1) (0 : Int32).toNatClampNeg) = 0 then
  some (((hs_R g ((hs_R g v0 1) - 1) (0 : Int32).toNatClampNeg) - 1), g)
  else none else none else none else none else none
def fX6_frame (v0 : Nat) (v1 : Int32) (g : hs_S) : Option (Nat × hs_S) :=
  if v1 < 0 then (
    jX6_frame_19 v0 g
  ) else (
    if (60 : Int32) ≤ v1 then (
      jX6_frame_19 v0 g
    ) else (
      if hs_kd g v0 = 5 then
      if ¬ (hs_R g v0 1) = 0 then
      if hs_kd g ((hs_R g v0 1) - 1) = 103 then
      if hs_in v1 (hs_ln g ((hs_R g v0 1) - 1)) = true then
      if ¬ (hs_R g ((hs_R g v0 1) - 1) v1.toNatClampNeg) = 0 then
      some (((hs_R g ((hs_R g v0 1) - 1) v1.toNatClampNeg) - 1), g)
      else none else none else none else none else none
    )
  )
abbrev rmX6_frame : Room := { frames := 0, cells := 0, slots := 0, locals := 0 }
set_option maxHeartbeats 4000000 in
set_option maxRecDepth 100000 in
theorem wX6_frame_j19 {p : Program} {l : Launch} {e : Env} {s : State} {m : MethodId} {args : Array Value} {below : List Frame} {meth : Method} {c : Code} {B : Nat} {D : va_G} {E : Nat → ClassId} (hX : hs_cx cX6_frame (some (.object "StepRewriter$Frame")) 2 RX6 wcX6_frame p s m args meth c D E) {o : Nat × hs_S}  {v0 : Nat}   {g : hs_S} {H : Heap} {locs : List Loc} {ls : Array Slot} (hf : jX6_frame_19 v0 g = some o) (hP : hs_P B D E g H) (hS : hs_Sx B s.heap H locs) (hl : lv_has ls 2 [(0, .ref (B + v0))]) : W p l e rmX6_frame s m args below meth c H locs 0 0 (MQ below (hs_Qr B D E o) args s 0 0 (hs_F B)) (F0 m 19 ls []) := by
  obtain ⟨hx, hb, hr, hml, hown, hts, hlocks, hK⟩ := id hX
  unfold jX6_frame_19 at hf
  refine lv_aload_n hx hb dX6_frame_19 rfl (lv_at hl 0 rfl) ?_
  obtain ⟨h1, hf⟩ := hs_ck hf
  obtain ⟨h2, hf⟩ := hs_ck hf
  refine hs_getr (C := RX6) (T := TX6) (N := 8) hx hb hts (fun w h => List.mem_cons_of_mem _ (inlX6 w h)) hown hK.1 hP h1 (by decide) rfl 1 (by decide) (hts _ (List.mem_cons_of_mem _ wq94)) (fun _ h => h) rfl h2 dX6_frame_20 ?_
  refine lv_iconst (v := 0) hx hb dX6_frame_23 (by decide) ?_
  obtain ⟨h3, hf⟩ := hs_ck hf
  obtain ⟨h4, hf⟩ := hs_ck hf
  obtain ⟨h5, hf⟩ := hs_ck hf
  refine hs_aald (t := 3) hx hb hK.1 hP h3 (by decide) (by decide) h4 h5 dX6_frame_24 ?_
  exact hs_aret hx hb hr (Or.inl ⟨_, rfl⟩) hlocks hK hP hS hf dX6_frame_25

set_option maxHeartbeats 4000000 in
set_option maxRecDepth 100000 in
theorem ctX6_frame (l : Launch) (B : Nat) (D : va_G) (E : Nat → ClassId) (v0 : Nat) (v1 : Int32) (g : hs_S) (o : Nat × hs_S) (hf : fX6_frame v0 v1 g = some o) : Met l yX6_frame wcX6_frame rmX6_frame (hs_Pc B D E g [.ref (B + v0), .int v1]) (hs_Qr B D E o) (0) (0) (hs_F B) := by
  refine Met.ofW (cc := cX6_frame) (maxL := 2) (ret := (some (.object "StepRewriter$Frame"))) (by decide) rfl ?_
  intro p e s m args below meth c s₁ Bd hml hv
  obtain ⟨rfl, hP, hK⟩ := hv
  have hx := Bd.exec
  have hb := Bd.bytes
  have hr := Bd.returns
  have hts := atoms_spec (ws := wcX6_frame) Bd.pre
  have hown : s.vm.findClass RX6 = some m.cls := findClass_of_methodNamed Bd.named
  have hlocks := Bd.notSynchronized
  have hS : hs_Sx B s.heap s.heap [] := va_S.rf
  have hX : hs_cx cX6_frame (some (.object "StepRewriter$Frame")) 2 RX6 wcX6_frame p s m (List.toArray [.ref (B + v0), .int v1]) meth c D E := ⟨hx, hb, hr, hml, hown, hts, hlocks, hK⟩
  have hl := lv_entry ([.ref (B + v0), .int v1]) (n := 2) (Nat.le_of_ble_eq_true rfl)
  rw [lg_entry_eq]
  generalize (lg_sl ([.ref (B + v0), .int v1]) ++ List.replicate (2 - (lg_sl ([.ref (B + v0), .int v1])).length) Slot.unset).toArray = ls at hl ⊢
  have hl : lv_has ls 2 [(0, .ref (B + v0)), (1, .int v1)] := hl
  have hP : hs_P B D E g s.heap := hP
  unfold fX6_frame at hf
  refine lv_iload_n hx hb dX6_frame_0 rfl (lv_at hl 1 rfl) ?_
  refine lv_if_lt (tgt := 19) hx hb dX6_frame_1 (by decide) (fun hc => ?_) (fun hc => ?_)
  · replace hf := hs_t hf hc
    exact wX6_frame_j19 hX hf hP hS (lv_sub hl [0] rfl)
  · replace hf := hs_f hf hc
    refine lv_iload_n hx hb dX6_frame_4 rfl (lv_at hl 1 rfl) ?_
    refine lv_bipush (v := 60) hx hb dX6_frame_5 (by decide) ?_
    refine lv_icmp_ge (tgt := 19) hx hb dX6_frame_7 (by decide) (fun hc => ?_) (fun hc => ?_)
    · replace hf := hs_t hf hc
      exact wX6_frame_j19 hX hf hP hS (lv_sub hl [0] rfl)
    · replace hf := hs_f hf hc
      refine lv_aload_n hx hb dX6_frame_10 rfl (lv_at hl 0 rfl) ?_
      obtain ⟨h6, hf⟩ := hs_ck hf
      obtain ⟨h7, hf⟩ := hs_ck hf
      refine hs_getr (C := RX6) (T := TX6) (N := 8) hx hb hts (fun w h => List.mem_cons_of_mem _ (inlX6 w h)) hown hK.1 hP h6 (by decide) rfl 1 (by decide) (hts _ (List.mem_cons_of_mem _ wq94)) (fun _ h => h) rfl h7 dX6_frame_11 ?_
      refine lv_iload_n hx hb dX6_frame_14 rfl (lv_at hl 1 rfl) ?_
      obtain ⟨h8, hf⟩ := hs_ck hf
      obtain ⟨h9, hf⟩ := hs_ck hf
      obtain ⟨h10, hf⟩ := hs_ck hf
      refine hs_aald (t := 3) hx hb hK.1 hP h8 (by decide) (by decide) h9 h10 dX6_frame_15 ?_
      refine lv_goto (tgt := 25) hx hb dX6_frame_16 (by decide) ?_
      exact hs_aret hx hb hr (Or.inl ⟨_, rfl⟩) hlocks hK hP hS hf dX6_frame_25

theorem dX3_begin_0 : decode cX3_begin 0 = .ok (.aload_n 0, 1) := by decide +kernel
theorem dX3_begin_1 : decode cX3_begin 1 = .ok (.aload_n 1, 1) := by decide +kernel
theorem dX3_begin_2 : decode cX3_begin 2 = .ok (.putfield 18, 3) := by decide +kernel
theorem dX3_begin_5 : decode cX3_begin 5 = .ok (.aload_n 0, 1) := by decide +kernel
theorem dX3_begin_6 : decode cX3_begin 6 = .ok (.iconst 0, 1) := by decide +kernel
theorem dX3_begin_7 : decode cX3_begin 7 = .ok (.putfield 22, 3) := by decide +kernel
theorem dX3_begin_10 : decode cX3_begin 10 = .ok (.aload_n 0, 1) := by decide +kernel
theorem dX3_begin_11 : decode cX3_begin 11 = .ok (.iconst 0, 1) := by decide +kernel
theorem dX3_begin_12 : decode cX3_begin 12 = .ok (.putfield 26, 3) := by decide +kernel
theorem dX3_begin_15 : decode cX3_begin 15 = .ok (.aload_n 0, 1) := by decide +kernel
theorem dX3_begin_16 : decode cX3_begin 16 = .ok (.getfield 9, 3) := by decide +kernel
theorem dX3_begin_19 : decode cX3_begin 19 = .ok (.iconst 0, 1) := by decide +kernel
theorem dX3_begin_20 : decode cX3_begin 20 = .ok (.invokestatic 29, 3) := by decide +kernel
theorem dX3_begin_23 : decode cX3_begin 23 = .ok (.return_, 1) := by decide +kernel
abbrev wcX3_begin : List Cond := .code yX3_begin cX3_begin 2 none :: wsL_law
def fX3_begin (v0 : Nat) (v1 : Nat) (g : hs_S) : Option (hs_S) :=
  if hs_kd g v0 = 3 then
  if ¬ (hs_R (hs_wI (hs_wI (hs_wR g v0 3 v1) v0 4 (0 : Int32)) v0 2 (0 : Int32)) v0 0) = 0 then
  hs_bv (fJ7_fill_53178 ((hs_R (hs_wI (hs_wI (hs_wR g v0 3 v1) v0 4 (0 : Int32)) v0 2 (0 : Int32)) v0 0) - 1) (0 : Int32) (hs_wI (hs_wI (hs_wR g v0 3 v1) v0 4 (0 : Int32)) v0 2 (0 : Int32))) fun g3 =>
  some g3
  else none else none
abbrev rmX3_begin : Room := { frames := 1, cells := 0, slots := 0, locals := 23 }
set_option maxHeartbeats 4000000 in
set_option maxRecDepth 100000 in
theorem ctX3_begin (l : Launch) (B : Nat) (D : va_G) (E : Nat → ClassId) (v0 : Nat) (v1 : Nat) (g : hs_S) (o : hs_S) (hf : fX3_begin v0 v1 g = some o) : Met l yX3_begin wcX3_begin rmX3_begin (hs_Pc B D E g [.ref (B + v0), .ref (B + v1)]) (hs_Qv B D E o) (0) (0) (hs_F B) := by
  refine Met.ofW (cc := cX3_begin) (maxL := 2) (ret := none) (by decide) rfl ?_
  intro p e s m args below meth c s₁ Bd hml hv
  obtain ⟨rfl, hP, hK⟩ := hv
  have hx := Bd.exec
  have hb := Bd.bytes
  have hr := Bd.returns
  have hts := atoms_spec (ws := wcX3_begin) Bd.pre
  have hown : s.vm.findClass RX3 = some m.cls := findClass_of_methodNamed Bd.named
  have hlocks := Bd.notSynchronized
  have hS : hs_Sx B s.heap s.heap [] := va_S.rf
  have hX : hs_cx cX3_begin none 2 RX3 wcX3_begin p s m (List.toArray [.ref (B + v0), .ref (B + v1)]) meth c D E := ⟨hx, hb, hr, hml, hown, hts, hlocks, hK⟩
  have hl := lv_entry ([.ref (B + v0), .ref (B + v1)]) (n := 2) (Nat.le_of_ble_eq_true rfl)
  rw [lg_entry_eq]
  generalize (lg_sl ([.ref (B + v0), .ref (B + v1)]) ++ List.replicate (2 - (lg_sl ([.ref (B + v0), .ref (B + v1)])).length) Slot.unset).toArray = ls at hl ⊢
  have hl : lv_has ls 2 [(0, .ref (B + v0)), (1, .ref (B + v1))] := hl
  have hP : hs_P B D E g s.heap := hP
  unfold fX3_begin at hf
  refine lv_aload_n hx hb dX3_begin_0 rfl (lv_at hl 0 rfl) ?_
  refine lv_aload_n hx hb dX3_begin_1 rfl (lv_at hl 1 rfl) ?_
  obtain ⟨h1, hf⟩ := hs_ck hf
  refine hs_putr (C := RX3) (T := TX3) (N := 5) hx hb hts (fun w h => List.mem_cons_of_mem _ (inlX3 w h)) tyX3 tyX3_ok nmX3 hown hK.1 hP hS h1 (by decide) rfl 3 (by decide) (hts _ (List.mem_cons_of_mem _ wq117)) (fun _ h => h) (Or.inl rfl) (fun _ => rfl) (fun _ => rfl) rfl dX3_begin_2 (fun H locs hP hS => ?_)
  refine lv_aload_n hx hb dX3_begin_5 rfl (lv_at hl 0 rfl) ?_
  refine lv_iconst (v := 0) hx hb dX3_begin_6 (by decide) ?_
  refine hs_puti (C := RX3) (T := TX3) (N := 5) hx hb hts (fun w h => List.mem_cons_of_mem _ (inlX3 w h)) tyX3 tyX3_ok nmX3 hown hK.1 hP hS h1 (by decide) rfl 4 (by decide) (hts _ (List.mem_cons_of_mem _ wq723)) (fun _ h => h) (Or.inl rfl) rfl rfl rfl dX3_begin_7 (fun H locs hP hS => ?_)
  refine lv_aload_n hx hb dX3_begin_10 rfl (lv_at hl 0 rfl) ?_
  refine lv_iconst (v := 0) hx hb dX3_begin_11 (by decide) ?_
  refine hs_puti (C := RX3) (T := TX3) (N := 5) hx hb hts (fun w h => List.mem_cons_of_mem _ (inlX3 w h)) tyX3 tyX3_ok nmX3 hown hK.1 hP hS h1 (by decide) rfl 2 (by decide) (hts _ (List.mem_cons_of_mem _ wq724)) (fun _ h => h) (Or.inl rfl) rfl rfl rfl dX3_begin_12 (fun H locs hP hS => ?_)
  refine lv_aload_n hx hb dX3_begin_15 rfl (lv_at hl 0 rfl) ?_
  obtain ⟨h2, hf⟩ := hs_ck hf
  refine hs_getr (C := RX3) (T := TX3) (N := 5) hx hb hts (fun w h => List.mem_cons_of_mem _ (inlX3 w h)) hown hK.1 hP h1 (by decide) rfl 0 (by decide) (hts _ (List.mem_cons_of_mem _ wq115)) (fun _ h => h) rfl h2 dX3_begin_16 ?_
  refine lv_iconst (v := 0) hx hb dX3_begin_19 (by decide) ?_
  obtain ⟨g3, h5, hf⟩ := hs_bv_some hf
  refine hs_callv (va_runS (As := [.ref (B + ((hs_R (hs_wI (hs_wI (hs_wR g v0 3 v1) v0 4 (0 : Int32)) v0 2 (0 : Int32)) v0 0) - 1)), .int (0 : Int32)]) (rest := []) ⟨hx, hb, hml, hown, hts⟩ (ctJ7_fill_53178 l B D E ((hs_R (hs_wI (hs_wI (hs_wR g v0 3 v1) v0 4 (0 : Int32)) v0 2 (0 : Int32)) v0 0) - 1) (0 : Int32) (hs_wI (hs_wI (hs_wR g v0 3 v1) v0 4 (0 : Int32)) v0 2 (0 : Int32)) _ h5) (va_cwS 2 hts (hs_gS (fun _ h => List.mem_cons_of_mem _ h) wq725 wq63 wq64 wq65) rfl rfl rfl (by decide +kernel) ⟨Nat.le_of_ble_eq_true rfl, Nat.le_of_ble_eq_true rfl⟩) (hs_pre hP hK) rfl rfl hl.1 rfl (lv_room (Nat.le_of_ble_eq_true rfl)) dX3_begin_20 ⟨(Nat.le_of_ble_eq_true rfl), (Nat.le_of_ble_eq_true rfl)⟩) hS (fun H locs hP hS => ?_)
  exact hs_vret hx hb hr hlocks hK hP hS hf dX3_begin_23

theorem dX3_setLocal_0 : decode cX3_setLocal 0 = .ok (.aload_n 0, 1) := by decide +kernel
theorem dX3_setLocal_1 : decode cX3_setLocal 1 = .ok (.getfield 9, 3) := by decide +kernel
theorem dX3_setLocal_4 : decode cX3_setLocal 4 = .ok (.iload_n 1, 1) := by decide +kernel
theorem dX3_setLocal_5 : decode cX3_setLocal 5 = .ok (.iload_n 2, 1) := by decide +kernel
theorem dX3_setLocal_6 : decode cX3_setLocal 6 = .ok (.invokestatic 41, 3) := by decide +kernel
theorem dX3_setLocal_9 : decode cX3_setLocal 9 = .ok (.return_, 1) := by decide +kernel
abbrev wcX3_setLocal : List Cond := .code yX3_setLocal cX3_setLocal 3 none :: wsL_law
def fX3_setLocal (v0 : Nat) (v1 : Int32) (v2 : Int32) (g : hs_S) : Option (hs_S) :=
  if hs_kd g v0 = 3 then
  if ¬ (hs_R g v0 0) = 0 then
  hs_bv (fX9_put ((hs_R g v0 0) - 1) v1 v2 g) fun g3 =>
  some g3
  else none else none
abbrev rmX3_setLocal : Room := { frames := 1, cells := 0, slots := 0, locals := 22 }
set_option maxHeartbeats 4000000 in
set_option maxRecDepth 100000 in
theorem ctX3_setLocal (l : Launch) (B : Nat) (D : va_G) (E : Nat → ClassId) (v0 : Nat) (v1 : Int32) (v2 : Int32) (g : hs_S) (o : hs_S) (hf : fX3_setLocal v0 v1 v2 g = some o) : Met l yX3_setLocal wcX3_setLocal rmX3_setLocal (hs_Pc B D E g [.ref (B + v0), .int v1, .int v2]) (hs_Qv B D E o) (0) (0) (hs_F B) := by
  refine Met.ofW (cc := cX3_setLocal) (maxL := 3) (ret := none) (by decide) rfl ?_
  intro p e s m args below meth c s₁ Bd hml hv
  obtain ⟨rfl, hP, hK⟩ := hv
  have hx := Bd.exec
  have hb := Bd.bytes
  have hr := Bd.returns
  have hts := atoms_spec (ws := wcX3_setLocal) Bd.pre
  have hown : s.vm.findClass RX3 = some m.cls := findClass_of_methodNamed Bd.named
  have hlocks := Bd.notSynchronized
  have hS : hs_Sx B s.heap s.heap [] := va_S.rf
  have hX : hs_cx cX3_setLocal none 3 RX3 wcX3_setLocal p s m (List.toArray [.ref (B + v0), .int v1, .int v2]) meth c D E := ⟨hx, hb, hr, hml, hown, hts, hlocks, hK⟩
  have hl := lv_entry ([.ref (B + v0), .int v1, .int v2]) (n := 3) (Nat.le_of_ble_eq_true rfl)
  rw [lg_entry_eq]
  generalize (lg_sl ([.ref (B + v0), .int v1, .int v2]) ++ List.replicate (3 - (lg_sl ([.ref (B + v0), .int v1, .int v2])).length) Slot.unset).toArray = ls at hl ⊢
  have hl : lv_has ls 3 [(0, .ref (B + v0)), (1, .int v1), (2, .int v2)] := hl
  have hP : hs_P B D E g s.heap := hP
  unfold fX3_setLocal at hf
  refine lv_aload_n hx hb dX3_setLocal_0 rfl (lv_at hl 0 rfl) ?_
  obtain ⟨h1, hf⟩ := hs_ck hf
  obtain ⟨h2, hf⟩ := hs_ck hf
  refine hs_getr (C := RX3) (T := TX3) (N := 5) hx hb hts (fun w h => List.mem_cons_of_mem _ (inlX3 w h)) hown hK.1 hP h1 (by decide) rfl 0 (by decide) (hts _ (List.mem_cons_of_mem _ wq115)) (fun _ h => h) rfl h2 dX3_setLocal_1 ?_
  refine lv_iload_n hx hb dX3_setLocal_4 rfl (lv_at hl 1 rfl) ?_
  refine lv_iload_n hx hb dX3_setLocal_5 rfl (lv_at hl 2 rfl) ?_
  obtain ⟨g3, h5, hf⟩ := hs_bv_some hf
  refine hs_callv (va_runS (As := [.ref (B + ((hs_R g v0 0) - 1)), .int v1, .int v2]) (rest := []) ⟨hx, hb, hml, hown, hts⟩ (ctX9_put l B D E ((hs_R g v0 0) - 1) v1 v2 g _ h5) (va_cwS 3 hts (hs_gS (fun _ h => List.mem_cons_of_mem _ h) wq730 wq67 wq68 wq69) rfl rfl rfl (by decide +kernel) ⟨Nat.le_of_ble_eq_true rfl, Nat.le_of_ble_eq_true rfl⟩) (hs_pre hP hK) rfl rfl hl.1 rfl (lv_room (Nat.le_of_ble_eq_true rfl)) dX3_setLocal_6 ⟨(Nat.le_of_ble_eq_true rfl), (Nat.le_of_ble_eq_true rfl)⟩) hS (fun H locs hP hS => ?_)
  exact hs_vret hx hb hr hlocks hK hP hS hf dX3_setLocal_9

theorem dX3_kind_0 : decode cX3_kind 0 = .ok (.aload_n 0, 1) := by decide +kernel
theorem dX3_kind_1 : decode cX3_kind 1 = .ok (.getfield 18, 3) := by decide +kernel
theorem dX3_kind_4 : decode cX3_kind 4 = .ok (.aload_n 0, 1) := by decide +kernel
theorem dX3_kind_5 : decode cX3_kind 5 = .ok (.getfield 22, 3) := by decide +kernel
theorem dX3_kind_8 : decode cX3_kind 8 = .ok (.invokevirtual 35, 3) := by decide +kernel
theorem dX3_kind_11 : decode cX3_kind 11 = .ok (.ireturn, 1) := by decide +kernel
abbrev wcX3_kind : List Cond := .code yX3_kind cX3_kind 1 (some .int) :: wsL_law
def fX3_kind (v0 : Nat) (g : hs_S) : Option (Int32 × hs_S) :=
  if hs_kd g v0 = 3 then
  if ¬ (hs_R g v0 3) = 0 then
  if hs_kd g ((hs_R g v0 3) - 1) = 6 then
  hs_bd (fX7_valueAt ((hs_R g v0 3) - 1) (hs_I g v0 4) g) fun r5 g4 =>
  some (r5, g4)
  else none else none else none
abbrev rmX3_kind : Room := { frames := 2, cells := 0, slots := 0, locals := 42 }
set_option maxHeartbeats 4000000 in
set_option maxRecDepth 100000 in
theorem ctX3_kind (l : Launch) (B : Nat) (D : va_G) (E : Nat → ClassId) (v0 : Nat) (g : hs_S) (o : Int32 × hs_S) (hf : fX3_kind v0 g = some o) : Met l yX3_kind wcX3_kind rmX3_kind (hs_Pc B D E g [.ref (B + v0)]) (hs_Qi B D E o) (0) (0) (hs_F B) := by
  refine Met.ofW (cc := cX3_kind) (maxL := 1) (ret := (some .int)) (by decide) rfl ?_
  intro p e s m args below meth c s₁ Bd hml hv
  obtain ⟨rfl, hP, hK⟩ := hv
  have hx := Bd.exec
  have hb := Bd.bytes
  have hr := Bd.returns
  have hts := atoms_spec (ws := wcX3_kind) Bd.pre
  have hown : s.vm.findClass RX3 = some m.cls := findClass_of_methodNamed Bd.named
  have hlocks := Bd.notSynchronized
  have hS : hs_Sx B s.heap s.heap [] := va_S.rf
  have hX : hs_cx cX3_kind (some .int) 1 RX3 wcX3_kind p s m (List.toArray [.ref (B + v0)]) meth c D E := ⟨hx, hb, hr, hml, hown, hts, hlocks, hK⟩
  have hl := lv_entry ([.ref (B + v0)]) (n := 1) (Nat.le_of_ble_eq_true rfl)
  rw [lg_entry_eq]
  generalize (lg_sl ([.ref (B + v0)]) ++ List.replicate (1 - (lg_sl ([.ref (B + v0)])).length) Slot.unset).toArray = ls at hl ⊢
  have hl : lv_has ls 1 [(0, .ref (B + v0))] := hl
  have hP : hs_P B D E g s.heap := hP
  unfold fX3_kind at hf
  refine lv_aload_n hx hb dX3_kind_0 rfl (lv_at hl 0 rfl) ?_
  obtain ⟨h1, hf⟩ := hs_ck hf
  obtain ⟨h2, hf⟩ := hs_ck hf
  refine hs_getr (C := RX3) (T := TX3) (N := 5) hx hb hts (fun w h => List.mem_cons_of_mem _ (inlX3 w h)) hown hK.1 hP h1 (by decide) rfl 3 (by decide) (hts _ (List.mem_cons_of_mem _ wq117)) (fun _ h => h) rfl h2 dX3_kind_1 ?_
  refine lv_aload_n hx hb dX3_kind_4 rfl (lv_at hl 0 rfl) ?_
  refine hs_geti (C := RX3) (T := TX3) (N := 5) hx hb hts (fun w h => List.mem_cons_of_mem _ (inlX3 w h)) hown hK.1 hP h1 (by decide) rfl 4 (by decide) (hts _ (List.mem_cons_of_mem _ wq723)) (fun _ h => h) rfl dX3_kind_5 ?_
  obtain ⟨h3, hf⟩ := hs_ck hf
  obtain ⟨r5, g4, h6, hf⟩ := hs_bd_some hf
  refine hs_calli (va_runV (As := [.int (hs_I g v0 4)]) (rest := []) ⟨hx, hb, hml, hown, hts⟩ (ctX7_valueAt l B D E ((hs_R g v0 3) - 1) (hs_I g v0 4) g _ h6) (cwV 1 hts (hs_gV (fun _ h => List.mem_cons_of_mem _ h) wq741 wq249 wq250 wq43 wq251) rfl rfl rfl (by decide +kernel) ⟨Nat.le_of_ble_eq_true rfl, Nat.le_of_ble_eq_true rfl⟩) (hs_preV (r := (RX7, TX7, 11)) hP hK h3 (by decide) rfl) rfl rfl hl.1 rfl (lv_room (Nat.le_of_ble_eq_true rfl)) dX3_kind_8 ⟨(Nat.le_of_ble_eq_true rfl), (Nat.le_of_ble_eq_true rfl)⟩) hS (fun H locs hP hS => ?_)
  exact hs_iret hx hb hr hlocks rfl hK hP hS hf dX3_kind_11

theorem dX7_pairAt_0 : decode cX7_pairAt 0 = .ok (.aload_n 0, 1) := by decide +kernel
theorem dX7_pairAt_1 : decode cX7_pairAt 1 = .ok (.iload_n 1, 1) := by decide +kernel
theorem dX7_pairAt_2 : decode cX7_pairAt 2 = .ok (.invokevirtual 50, 3) := by decide +kernel
theorem dX7_pairAt_5 : decode cX7_pairAt 5 = .ok (.bipush 8, 2) := by decide +kernel
theorem dX7_pairAt_7 : decode cX7_pairAt 7 = .ok (.ishl, 1) := by decide +kernel
theorem dX7_pairAt_8 : decode cX7_pairAt 8 = .ok (.aload_n 0, 1) := by decide +kernel
theorem dX7_pairAt_9 : decode cX7_pairAt 9 = .ok (.iload_n 1, 1) := by decide +kernel
theorem dX7_pairAt_10 : decode cX7_pairAt 10 = .ok (.iconst 1, 1) := by decide +kernel
theorem dX7_pairAt_11 : decode cX7_pairAt 11 = .ok (.iadd, 1) := by decide +kernel
theorem dX7_pairAt_12 : decode cX7_pairAt 12 = .ok (.invokevirtual 50, 3) := by decide +kernel
theorem dX7_pairAt_15 : decode cX7_pairAt 15 = .ok (.ior, 1) := by decide +kernel
theorem dX7_pairAt_16 : decode cX7_pairAt 16 = .ok (.ireturn, 1) := by decide +kernel
abbrev wcX7_pairAt : List Cond := .code yX7_pairAt cX7_pairAt 2 (some .int) :: wsL_law
def fX7_pairAt (v0 : Nat) (v1 : Int32) (g : hs_S) : Option (Int32 × hs_S) :=
  if hs_kd g v0 = 6 then
  hs_bd (fX7_valueAt v0 v1 g) fun r3 g2 =>
  if hs_kd g2 v0 = 6 then
  hs_bd (fX7_valueAt v0 (v1 + (1 : Int32)) g2) fun r7 g6 =>
  some (((r3 <<< ((8 : Int32) &&& 31)) ||| r7), g6)
  else none else none
abbrev rmX7_pairAt : Room := { frames := 2, cells := 0, slots := 0, locals := 42 }
set_option maxHeartbeats 4000000 in
set_option maxRecDepth 100000 in
theorem ctX7_pairAt (l : Launch) (B : Nat) (D : va_G) (E : Nat → ClassId) (v0 : Nat) (v1 : Int32) (g : hs_S) (o : Int32 × hs_S) (hf : fX7_pairAt v0 v1 g = some o) : Met l yX7_pairAt wcX7_pairAt rmX7_pairAt (hs_Pc B D E g [.ref (B + v0), .int v1]) (hs_Qi B D E o) (0) (0) (hs_F B) := by
  refine Met.ofW (cc := cX7_pairAt) (maxL := 2) (ret := (some .int)) (by decide) rfl ?_
  intro p e s m args below meth c s₁ Bd hml hv
  obtain ⟨rfl, hP, hK⟩ := hv
  have hx := Bd.exec
  have hb := Bd.bytes
  have hr := Bd.returns
  have hts := atoms_spec (ws := wcX7_pairAt) Bd.pre
  have hown : s.vm.findClass RX7 = some m.cls := findClass_of_methodNamed Bd.named
  have hlocks := Bd.notSynchronized
  have hS : hs_Sx B s.heap s.heap [] := va_S.rf
  have hX : hs_cx cX7_pairAt (some .int) 2 RX7 wcX7_pairAt p s m (List.toArray [.ref (B + v0), .int v1]) meth c D E := ⟨hx, hb, hr, hml, hown, hts, hlocks, hK⟩
  have hl := lv_entry ([.ref (B + v0), .int v1]) (n := 2) (Nat.le_of_ble_eq_true rfl)
  rw [lg_entry_eq]
  generalize (lg_sl ([.ref (B + v0), .int v1]) ++ List.replicate (2 - (lg_sl ([.ref (B + v0), .int v1])).length) Slot.unset).toArray = ls at hl ⊢
  have hl : lv_has ls 2 [(0, .ref (B + v0)), (1, .int v1)] := hl
  have hP : hs_P B D E g s.heap := hP
  unfold fX7_pairAt at hf
  refine lv_aload_n hx hb dX7_pairAt_0 rfl (lv_at hl 0 rfl) ?_
  refine lv_iload_n hx hb dX7_pairAt_1 rfl (lv_at hl 1 rfl) ?_
  obtain ⟨h1, hf⟩ := hs_ck hf
  obtain ⟨r3, g2, h4, hf⟩ := hs_bd_some hf
  refine hs_calli (va_runV (As := [.int v1]) (rest := []) ⟨hx, hb, hml, hown, hts⟩ (ctX7_valueAt l B D E v0 v1 g _ h4) (cwV 1 hts (hs_gV (fun _ h => List.mem_cons_of_mem _ h) wq248 wq249 wq250 wq43 wq251) rfl rfl rfl (by decide +kernel) ⟨Nat.le_of_ble_eq_true rfl, Nat.le_of_ble_eq_true rfl⟩) (hs_preV (r := (RX7, TX7, 11)) hP hK h1 (by decide) rfl) rfl rfl hl.1 rfl (lv_room (Nat.le_of_ble_eq_true rfl)) dX7_pairAt_2 ⟨(Nat.le_of_ble_eq_true rfl), (Nat.le_of_ble_eq_true rfl)⟩) hS (fun H locs hP hS => ?_)
  refine lv_bipush (v := 8) hx hb dX7_pairAt_5 (by decide) ?_
  refine lv_ishl hx hb dX7_pairAt_7 ?_
  refine lv_aload_n hx hb dX7_pairAt_8 rfl (lv_at hl 0 rfl) ?_
  refine lv_iload_n hx hb dX7_pairAt_9 rfl (lv_at hl 1 rfl) ?_
  refine lv_iconst (v := 1) hx hb dX7_pairAt_10 (by decide) ?_
  refine lv_iadd hx hb dX7_pairAt_11 ?_
  obtain ⟨h5, hf⟩ := hs_ck hf
  obtain ⟨r7, g6, h8, hf⟩ := hs_bd_some hf
  refine hs_calli (va_runV (As := [.int (v1 + (1 : Int32))]) (rest := [.int (r3 <<< ((8 : Int32) &&& 31))]) ⟨hx, hb, hml, hown, hts⟩ (ctX7_valueAt l B D E v0 (v1 + (1 : Int32)) g2 _ h8) (cwV 1 hts (hs_gV (fun _ h => List.mem_cons_of_mem _ h) wq248 wq249 wq250 wq43 wq251) rfl rfl rfl (by decide +kernel) ⟨Nat.le_of_ble_eq_true rfl, Nat.le_of_ble_eq_true rfl⟩) (hs_preV (r := (RX7, TX7, 11)) hP hK h5 (by decide) rfl) rfl rfl hl.1 rfl (lv_room (Nat.le_of_ble_eq_true rfl)) dX7_pairAt_12 ⟨(Nat.le_of_ble_eq_true rfl), (Nat.le_of_ble_eq_true rfl)⟩) hS (fun H locs hP hS => ?_)
  refine lv_ior hx hb dX7_pairAt_15 ?_
  exact hs_iret hx hb hr hlocks rfl hK hP hS hf dX7_pairAt_16

theorem dX7_fourAt_0 : decode cX7_fourAt 0 = .ok (.aload_n 0, 1) := by decide +kernel
theorem dX7_fourAt_1 : decode cX7_fourAt 1 = .ok (.iload_n 1, 1) := by decide +kernel
theorem dX7_fourAt_2 : decode cX7_fourAt 2 = .ok (.invokevirtual 54, 3) := by decide +kernel
theorem dX7_fourAt_5 : decode cX7_fourAt 5 = .ok (.bipush 16, 2) := by decide +kernel
theorem dX7_fourAt_7 : decode cX7_fourAt 7 = .ok (.ishl, 1) := by decide +kernel
theorem dX7_fourAt_8 : decode cX7_fourAt 8 = .ok (.aload_n 0, 1) := by decide +kernel
theorem dX7_fourAt_9 : decode cX7_fourAt 9 = .ok (.iload_n 1, 1) := by decide +kernel
theorem dX7_fourAt_10 : decode cX7_fourAt 10 = .ok (.iconst 2, 1) := by decide +kernel
theorem dX7_fourAt_11 : decode cX7_fourAt 11 = .ok (.iadd, 1) := by decide +kernel
theorem dX7_fourAt_12 : decode cX7_fourAt 12 = .ok (.invokevirtual 54, 3) := by decide +kernel
theorem dX7_fourAt_15 : decode cX7_fourAt 15 = .ok (.ior, 1) := by decide +kernel
theorem dX7_fourAt_16 : decode cX7_fourAt 16 = .ok (.ireturn, 1) := by decide +kernel
abbrev wcX7_fourAt : List Cond := .code yX7_fourAt cX7_fourAt 2 (some .int) :: wsL_law
def fX7_fourAt (v0 : Nat) (v1 : Int32) (g : hs_S) : Option (Int32 × hs_S) :=
  if hs_kd g v0 = 6 then
  hs_bd (fX7_pairAt v0 v1 g) fun r3 g2 =>
  if hs_kd g2 v0 = 6 then
  hs_bd (fX7_pairAt v0 (v1 + (2 : Int32)) g2) fun r7 g6 =>
  some (((r3 <<< ((16 : Int32) &&& 31)) ||| r7), g6)
  else none else none
abbrev rmX7_fourAt : Room := { frames := 3, cells := 0, slots := 0, locals := 63 }
set_option maxHeartbeats 4000000 in
set_option maxRecDepth 100000 in
theorem ctX7_fourAt (l : Launch) (B : Nat) (D : va_G) (E : Nat → ClassId) (v0 : Nat) (v1 : Int32) (g : hs_S) (o : Int32 × hs_S) (hf : fX7_fourAt v0 v1 g = some o) : Met l yX7_fourAt wcX7_fourAt rmX7_fourAt (hs_Pc B D E g [.ref (B + v0), .int v1]) (hs_Qi B D E o) (0) (0) (hs_F B) := by
  refine Met.ofW (cc := cX7_fourAt) (maxL := 2) (ret := (some .int)) (by decide) rfl ?_
  intro p e s m args below meth c s₁ Bd hml hv
  obtain ⟨rfl, hP, hK⟩ := hv
  have hx := Bd.exec
  have hb := Bd.bytes
  have hr := Bd.returns
  have hts := atoms_spec (ws := wcX7_fourAt) Bd.pre
  have hown : s.vm.findClass RX7 = some m.cls := findClass_of_methodNamed Bd.named
  have hlocks := Bd.notSynchronized
  have hS : hs_Sx B s.heap s.heap [] := va_S.rf
  have hX : hs_cx cX7_fourAt (some .int) 2 RX7 wcX7_fourAt p s m (List.toArray [.ref (B + v0), .int v1]) meth c D E := ⟨hx, hb, hr, hml, hown, hts, hlocks, hK⟩
  have hl := lv_entry ([.ref (B + v0), .int v1]) (n := 2) (Nat.le_of_ble_eq_true rfl)
  rw [lg_entry_eq]
  generalize (lg_sl ([.ref (B + v0), .int v1]) ++ List.replicate (2 - (lg_sl ([.ref (B + v0), .int v1])).length) Slot.unset).toArray = ls at hl ⊢
  have hl : lv_has ls 2 [(0, .ref (B + v0)), (1, .int v1)] := hl
  have hP : hs_P B D E g s.heap := hP
  unfold fX7_fourAt at hf
  refine lv_aload_n hx hb dX7_fourAt_0 rfl (lv_at hl 0 rfl) ?_
  refine lv_iload_n hx hb dX7_fourAt_1 rfl (lv_at hl 1 rfl) ?_
  obtain ⟨h1, hf⟩ := hs_ck hf
  obtain ⟨r3, g2, h4, hf⟩ := hs_bd_some hf
  refine hs_calli (va_runV (As := [.int v1]) (rest := []) ⟨hx, hb, hml, hown, hts⟩ (ctX7_pairAt l B D E v0 v1 g _ h4) (cwV 1 hts (hs_gV (fun _ h => List.mem_cons_of_mem _ h) wq746 wq747 wq748 wq43 wq749) rfl rfl rfl (by decide +kernel) ⟨Nat.le_of_ble_eq_true rfl, Nat.le_of_ble_eq_true rfl⟩) (hs_preV (r := (RX7, TX7, 11)) hP hK h1 (by decide) rfl) rfl rfl hl.1 rfl (lv_room (Nat.le_of_ble_eq_true rfl)) dX7_fourAt_2 ⟨(Nat.le_of_ble_eq_true rfl), (Nat.le_of_ble_eq_true rfl)⟩) hS (fun H locs hP hS => ?_)
  refine lv_bipush (v := 16) hx hb dX7_fourAt_5 (by decide) ?_
  refine lv_ishl hx hb dX7_fourAt_7 ?_
  refine lv_aload_n hx hb dX7_fourAt_8 rfl (lv_at hl 0 rfl) ?_
  refine lv_iload_n hx hb dX7_fourAt_9 rfl (lv_at hl 1 rfl) ?_
  refine lv_iconst (v := 2) hx hb dX7_fourAt_10 (by decide) ?_
  refine lv_iadd hx hb dX7_fourAt_11 ?_
  obtain ⟨h5, hf⟩ := hs_ck hf
  obtain ⟨r7, g6, h8, hf⟩ := hs_bd_some hf
  refine hs_calli (va_runV (As := [.int (v1 + (2 : Int32))]) (rest := [.int (r3 <<< ((16 : Int32) &&& 31))]) ⟨hx, hb, hml, hown, hts⟩ (ctX7_pairAt l B D E v0 (v1 + (2 : Int32)) g2 _ h8) (cwV 1 hts (hs_gV (fun _ h => List.mem_cons_of_mem _ h) wq746 wq747 wq748 wq43 wq749) rfl rfl rfl (by decide +kernel) ⟨Nat.le_of_ble_eq_true rfl, Nat.le_of_ble_eq_true rfl⟩) (hs_preV (r := (RX7, TX7, 11)) hP hK h5 (by decide) rfl) rfl rfl hl.1 rfl (lv_room (Nat.le_of_ble_eq_true rfl)) dX7_fourAt_12 ⟨(Nat.le_of_ble_eq_true rfl), (Nat.le_of_ble_eq_true rfl)⟩) hS (fun H locs hP hS => ?_)
  refine lv_ior hx hb dX7_fourAt_15 ?_
  exact hs_iret hx hb hr hlocks rfl hK hP hS hf dX7_fourAt_16

