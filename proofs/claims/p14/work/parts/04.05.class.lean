theorem dX5_takeSums_0 : decode cX5_takeSums 0 = .ok (.aload_n 0, 1) := by decide +kernel
theorem dX5_takeSums_1 : decode cX5_takeSums 1 = .ok (.getfield 9, 3) := by decide +kernel
theorem dX5_takeSums_4 : decode cX5_takeSums 4 = .ok (.iconst 0, 1) := by decide +kernel
theorem dX5_takeSums_5 : decode cX5_takeSums 5 = .ok (.invokestatic 32, 3) := by decide +kernel
theorem dX5_takeSums_8 : decode cX5_takeSums 8 = .ok (.iconst 0, 1) := by decide +kernel
theorem dX5_takeSums_9 : decode cX5_takeSums 9 = .ok (.istore_n 3, 1) := by decide +kernel
theorem dX5_takeSums_10 : decode cX5_takeSums 10 = .ok (.aload_n 0, 1) := by decide +kernel
theorem dX5_takeSums_11 : decode cX5_takeSums 11 = .ok (.getfield 24, 3) := by decide +kernel
theorem dX5_takeSums_14 : decode cX5_takeSums 14 = .ok (.ifCond .eq 39, 3) := by decide +kernel
theorem dX5_takeSums_17 : decode cX5_takeSums 17 = .ok (.iload_n 3, 1) := by decide +kernel
theorem dX5_takeSums_18 : decode cX5_takeSums 18 = .ok (.aload_n 1, 1) := by decide +kernel
theorem dX5_takeSums_19 : decode cX5_takeSums 19 = .ok (.getfield 42, 3) := by decide +kernel
theorem dX5_takeSums_22 : decode cX5_takeSums 22 = .ok (.if_icmp .ge 31, 3) := by decide +kernel
theorem dX5_takeSums_25 : decode cX5_takeSums 25 = .ok (.aload_n 1, 1) := by decide +kernel
theorem dX5_takeSums_26 : decode cX5_takeSums 26 = .ok (.iload_n 3, 1) := by decide +kernel
theorem dX5_takeSums_27 : decode cX5_takeSums 27 = .ok (.invokevirtual 84, 3) := by decide +kernel
theorem dX5_takeSums_30 : decode cX5_takeSums 30 = .ok (.ifCond .eq 17, 3) := by decide +kernel
theorem dX5_takeSums_33 : decode cX5_takeSums 33 = .ok (.aload_n 0, 1) := by decide +kernel
theorem dX5_takeSums_34 : decode cX5_takeSums 34 = .ok (.getfield 9, 3) := by decide +kernel
theorem dX5_takeSums_37 : decode cX5_takeSums 37 = .ok (.iload_n 3, 1) := by decide +kernel
theorem dX5_takeSums_38 : decode cX5_takeSums 38 = .ok (.aload_n 1, 1) := by decide +kernel
theorem dX5_takeSums_39 : decode cX5_takeSums 39 = .ok (.iload_n 3, 1) := by decide +kernel
theorem dX5_takeSums_40 : decode cX5_takeSums 40 = .ok (.aload_n 2, 1) := by decide +kernel
theorem dX5_takeSums_41 : decode cX5_takeSums 41 = .ok (.invokevirtual 87, 3) := by decide +kernel
theorem dX5_takeSums_44 : decode cX5_takeSums 44 = .ok (.invokestatic 91, 3) := by decide +kernel
theorem dX5_takeSums_47 : decode cX5_takeSums 47 = .ok (.iinc 3 1, 3) := by decide +kernel
theorem dX5_takeSums_50 : decode cX5_takeSums 50 = .ok (.goto (-40), 3) := by decide +kernel
theorem dX5_takeSums_53 : decode cX5_takeSums 53 = .ok (.return_, 1) := by decide +kernel
abbrev wcX5_takeSums : List Cond := .code yX5_takeSums cX5_takeSums 4 none :: wsL_law
def jX5_takeSums_47 (rec : Int32 → hs_S → Option (hs_S)) (v0 : Nat) (v1 : Nat) (v2 : Nat) (v3 : Int32) (g : hs_S) : Option (hs_S) :=
  rec (v3 + (1 : Int32)) g
def lX5_takeSums_10 : Nat → Nat → Nat → Nat → Int32 → hs_S → Option (hs_S)
  | 0, _, _, _, _, _ => none
  | n + 1, v0, v1, v2, v3, g =>
    if hs_kd g v0 = 4 then
    if (hs_I g v0 4) = 0 then (
      some g
    ) else (
      if hs_kd g v1 = 6 then
      if (hs_I g v1 3) ≤ v3 then (
        some g
      ) else (
        hs_bd (fX7_beginsBlock v1 v3 g) fun r9 g8 =>
        if r9 = 0 then (
          jX5_takeSums_47 (fun y0 g => lX5_takeSums_10 n v0 v1 v2 y0 g) v0 v1 v2 v3 g8
        ) else (
          if hs_kd g8 v0 = 4 then
          if ¬ (hs_R g8 v0 0) = 0 then
          if hs_kd g8 v1 = 6 then
          hs_bd (fX7_sumFrom v1 v3 v2 g8) fun r15 g14 =>
          hs_bv (fX9_put ((hs_R g8 v0 0) - 1) v3 r15 g14) fun g17 =>
          jX5_takeSums_47 (fun y0 g => lX5_takeSums_10 n v0 v1 v2 y0 g) v0 v1 v2 v3 g17
          else none else none else none
        )
      )
      else none
    )
    else none
theorem lX5_takeSums_10_s (n : Nat) (v0 : Nat) (v1 : Nat) (v2 : Nat) (v3 : Int32) (g : hs_S) : lX5_takeSums_10 (n + 1) v0 v1 v2 v3 g =
    if hs_kd g v0 = 4 then
    if (hs_I g v0 4) = 0 then (
      some g
    ) else (
      if hs_kd g v1 = 6 then
      if (hs_I g v1 3) ≤ v3 then (
        some g
      ) else (
        hs_bd (fX7_beginsBlock v1 v3 g) fun r9 g8 =>
        if r9 = 0 then (
          jX5_takeSums_47 (fun y0 g => lX5_takeSums_10 n v0 v1 v2 y0 g) v0 v1 v2 v3 g8
        ) else (
          if hs_kd g8 v0 = 4 then
          if ¬ (hs_R g8 v0 0) = 0 then
          if hs_kd g8 v1 = 6 then
          hs_bd (fX7_sumFrom v1 v3 v2 g8) fun r15 g14 =>
          hs_bv (fX9_put ((hs_R g8 v0 0) - 1) v3 r15 g14) fun g17 =>
          jX5_takeSums_47 (fun y0 g => lX5_takeSums_10 n v0 v1 v2 y0 g) v0 v1 v2 v3 g17
          else none else none else none
        )
      )
      else none
    )
    else none := rfl
def fX5_takeSums (v0 : Nat) (v1 : Nat) (v2 : Nat) (g : hs_S) : Option (hs_S) :=
  if hs_kd g v0 = 4 then
  if ¬ (hs_R g v0 0) = 0 then
  hs_bv (fJ7_fill_53178 ((hs_R g v0 0) - 1) (0 : Int32) g) fun g3 =>
  hs_bv (lX5_takeSums_10 hs_N v0 v1 v2 (0 : Int32) g3) fun g21 =>
  some g21
  else none else none
abbrev rmX5_takeSums : Room := { frames := 3, cells := 0, slots := 0, locals := 66 }
set_option maxHeartbeats 4000000 in
set_option maxRecDepth 100000 in
theorem wX5_takeSums_j47 {p : Program} {l : Launch} {e : Env} {s : State} {m : MethodId} {args : Array Value} {below : List Frame} {meth : Method} {c : Code} {B : Nat} {D : va_G} {E : Nat → ClassId} (hX : hs_cx cX5_takeSums none 4 RX5 wcX5_takeSums p s m args meth c D E) {Q : State → Prop} {o : hs_S} {rec : Int32 → hs_S → Option (hs_S)} {v0 : Nat} {v1 : Nat} {v2 : Nat} {v3 : Int32}  (hrec : ∀ (y0 : Int32) (g : hs_S) (H : Heap) (locs : List Loc) (ls : Array Slot), rec y0 g = some o → hs_P B D E g H → hs_Sx B s.heap H locs → lv_has ls 4 [(0, .ref (B + v0)), (1, .ref (B + v1)), (2, .ref (B + v2)), (3, .int y0)] → W p l e rmX5_takeSums s m args below meth c H locs 0 0 Q (F0 m 10 ls [])) (hex0 : ∀ (H : Heap) (locs : List Loc) (ls : Array Slot), hs_P B D E (o) H → hs_Sx B s.heap H locs → lv_has ls 4 [] → W p l e rmX5_takeSums s m args below meth c H locs 0 0 Q (F0 m 53 ls [])) {g : hs_S} {H : Heap} {locs : List Loc} {ls : Array Slot} (hf : jX5_takeSums_47 rec v0 v1 v2 v3 g = some o) (hP : hs_P B D E g H) (hS : hs_Sx B s.heap H locs) (hl : lv_has ls 4 [(0, .ref (B + v0)), (1, .ref (B + v1)), (2, .ref (B + v2)), (3, .int v3)]) : W p l e rmX5_takeSums s m args below meth c H locs 0 0 Q (F0 m 47 ls []) := by
  obtain ⟨hx, hb, hr, hml, hown, hts, hlocks, hK⟩ := id hX
  unfold jX5_takeSums_47 at hf
  refine lv_iinc (v := (v3 + (1 : Int32))) (lv' := [(3, .int (v3 + (1 : Int32))), (0, .ref (B + v0)), (1, .ref (B + v1)), (2, .ref (B + v2))]) hx hb dX5_takeSums_47 hl (k := 3) rfl (by rfl) (by decide) rfl (fun ls hl => ?_)
  refine lv_goto (tgt := 10) hx hb dX5_takeSums_50 (by decide) ?_
  exact hrec _ _ _ _ _ hf hP hS (lv_sub hl [1, 2, 3, 0] rfl)

set_option maxHeartbeats 4000000 in
set_option maxRecDepth 100000 in
theorem wX5_takeSums_10 {p : Program} {l : Launch} {e : Env} {s : State} {m : MethodId} {args : Array Value} {below : List Frame} {meth : Method} {c : Code} {B : Nat} {D : va_G} {E : Nat → ClassId} (hX : hs_cx cX5_takeSums none 4 RX5 wcX5_takeSums p s m args meth c D E) {Q : State → Prop} {o : hs_S} {v0 : Nat} {v1 : Nat} {v2 : Nat} (hex0 : ∀ (H : Heap) (locs : List Loc) (ls : Array Slot), hs_P B D E (o) H → hs_Sx B s.heap H locs → lv_has ls 4 [] → W p l e rmX5_takeSums s m args below meth c H locs 0 0 Q (F0 m 53 ls [])) : ∀ (n : Nat) (v3 : Int32) (g : hs_S), lX5_takeSums_10 n v0 v1 v2 v3 g = some o → ∀ (H : Heap) (locs : List Loc) (ls : Array Slot), hs_P B D E g H → hs_Sx B s.heap H locs → lv_has ls 4 [(0, .ref (B + v0)), (1, .ref (B + v1)), (2, .ref (B + v2)), (3, .int v3)] → W p l e rmX5_takeSums s m args below meth c H locs 0 0 Q (F0 m 10 ls []) := by
  obtain ⟨hx, hb, hr, hml, hown, hts, hlocks, hK⟩ := id hX
  intro n
  induction n with
  | zero =>
    intro v3 g hf
    cases hf
  | succ n ih =>
    intro v3 g hf H locs ls hP hS hl
    replace hf := (lX5_takeSums_10_s n v0 v1 v2 v3 g).symm.trans hf
    refine lv_aload_n hx hb dX5_takeSums_10 rfl (lv_at hl 0 rfl) ?_
    obtain ⟨h6, hf⟩ := hs_ck hf
    refine hs_geti (C := RX5) (T := TX5) (N := 5) hx hb hts (fun w h => List.mem_cons_of_mem _ (inlX5 w h)) hown hK.1 hP h6 (by decide) rfl 4 (by decide) (hts _ (List.mem_cons_of_mem _ wq493)) (fun _ h => h) rfl dX5_takeSums_11 ?_
    refine lv_if_eq (tgt := 53) hx hb dX5_takeSums_14 (by decide) (fun hc => ?_) (fun hc => ?_)
    · replace hf := hs_t hf hc
      obtain rfl := Option.some.inj hf
      exact hex0 _ _ _ hP hS (lv_sub hl [] rfl)
    · replace hf := hs_f hf hc
      refine lv_iload_n hx hb dX5_takeSums_17 rfl (lv_at hl 3 rfl) ?_
      refine lv_aload_n hx hb dX5_takeSums_18 rfl (lv_at hl 1 rfl) ?_
      obtain ⟨h7, hf⟩ := hs_ck hf
      refine hs_geti (C := RX7) (T := TX7) (N := 11) hx hb hts (fun w h => List.mem_cons_of_mem _ (inlX7 w h)) hown hK.1 hP h7 (by decide) rfl 3 (by decide) (hts _ (List.mem_cons_of_mem _ wq494)) (fun _ h => h) rfl dX5_takeSums_19 ?_
      refine lv_icmp_ge (tgt := 53) hx hb dX5_takeSums_22 (by decide) (fun hc => ?_) (fun hc => ?_)
      · replace hf := hs_t hf hc
        obtain rfl := Option.some.inj hf
        exact hex0 _ _ _ hP hS (lv_sub hl [] rfl)
      · replace hf := hs_f hf hc
        refine lv_aload_n hx hb dX5_takeSums_25 rfl (lv_at hl 1 rfl) ?_
        refine lv_iload_n hx hb dX5_takeSums_26 rfl (lv_at hl 3 rfl) ?_
        obtain ⟨r9, g8, h10, hf⟩ := hs_bd_some hf
        refine hs_calli (va_runV (As := [.int v3]) (rest := []) ⟨hx, hb, hml, hown, hts⟩ (ctX7_beginsBlock l B D E v1 v3 g _ h10) (cwV 1 hts (hs_gV (fun _ h => List.mem_cons_of_mem _ h) wq500 wq327 wq328 wq43 wq329) rfl rfl rfl (by decide +kernel) ⟨Nat.le_of_ble_eq_true rfl, Nat.le_of_ble_eq_true rfl⟩) (hs_preV (r := (RX7, TX7, 11)) hP hK h7 (by decide) rfl) rfl rfl hl.1 rfl (lv_room (Nat.le_of_ble_eq_true rfl)) dX5_takeSums_27 ⟨(Nat.le_of_ble_eq_true rfl), (Nat.le_of_ble_eq_true rfl)⟩) hS (fun H locs hP hS => ?_)
        refine lv_if_eq (tgt := 47) hx hb dX5_takeSums_30 (by decide) (fun hc => ?_) (fun hc => ?_)
        · replace hf := hs_t hf hc
          exact wX5_takeSums_j47 hX (fun z0 g H locs ls hf hP hS hl => ih z0 g hf H locs ls hP hS hl) hex0 hf hP hS (lv_sub hl [0, 1, 2, 3] rfl)
        · replace hf := hs_f hf hc
          refine lv_aload_n hx hb dX5_takeSums_33 rfl (lv_at hl 0 rfl) ?_
          obtain ⟨h11, hf⟩ := hs_ck hf
          obtain ⟨h12, hf⟩ := hs_ck hf
          refine hs_getr (C := RX5) (T := TX5) (N := 5) hx hb hts (fun w h => List.mem_cons_of_mem _ (inlX5 w h)) hown hK.1 hP h11 (by decide) rfl 0 (by decide) (hts _ (List.mem_cons_of_mem _ wq85)) (fun _ h => h) rfl h12 dX5_takeSums_34 ?_
          refine lv_iload_n hx hb dX5_takeSums_37 rfl (lv_at hl 3 rfl) ?_
          refine lv_aload_n hx hb dX5_takeSums_38 rfl (lv_at hl 1 rfl) ?_
          refine lv_iload_n hx hb dX5_takeSums_39 rfl (lv_at hl 3 rfl) ?_
          refine lv_aload_n hx hb dX5_takeSums_40 rfl (lv_at hl 2 rfl) ?_
          obtain ⟨h13, hf⟩ := hs_ck hf
          obtain ⟨r15, g14, h16, hf⟩ := hs_bd_some hf
          refine hs_calli (va_runV (As := [.int v3, .ref (B + v2)]) (rest := [.int v3, .ref (B + ((hs_R g8 v0 0) - 1))]) ⟨hx, hb, hml, hown, hts⟩ (ctX7_sumFrom l B D E v1 v3 v2 g8 _ h16) (cwV 2 hts (hs_gV (fun _ h => List.mem_cons_of_mem _ h) wq501 wq502 wq503 wq43 wq504) rfl rfl rfl (by decide +kernel) ⟨Nat.le_of_ble_eq_true rfl, Nat.le_of_ble_eq_true rfl⟩) (hs_preV (r := (RX7, TX7, 11)) hP hK h13 (by decide) rfl) rfl rfl hl.1 rfl (lv_room (Nat.le_of_ble_eq_true rfl)) dX5_takeSums_41 ⟨(Nat.le_of_ble_eq_true rfl), (Nat.le_of_ble_eq_true rfl)⟩) hS (fun H locs hP hS => ?_)
          obtain ⟨g17, h19, hf⟩ := hs_bv_some hf
          refine hs_callv (va_runS (As := [.ref (B + ((hs_R g8 v0 0) - 1)), .int v3, .int r15]) (rest := []) ⟨hx, hb, hml, hown, hts⟩ (ctX9_put l B D E ((hs_R g8 v0 0) - 1) v3 r15 g14 _ h19) (va_cwS 3 hts (hs_gS (fun _ h => List.mem_cons_of_mem _ h) wq507 wq67 wq68 wq69) rfl rfl rfl (by decide +kernel) ⟨Nat.le_of_ble_eq_true rfl, Nat.le_of_ble_eq_true rfl⟩) (hs_pre hP hK) rfl rfl hl.1 rfl (lv_room (Nat.le_of_ble_eq_true rfl)) dX5_takeSums_44 ⟨(Nat.le_of_ble_eq_true rfl), (Nat.le_of_ble_eq_true rfl)⟩) hS (fun H locs hP hS => ?_)
          exact wX5_takeSums_j47 hX (fun z0 g H locs ls hf hP hS hl => ih z0 g hf H locs ls hP hS hl) hex0 hf hP hS (lv_sub hl [0, 1, 2, 3] rfl)

set_option maxHeartbeats 4000000 in
set_option maxRecDepth 100000 in
theorem ctX5_takeSums (l : Launch) (B : Nat) (D : va_G) (E : Nat → ClassId) (v0 : Nat) (v1 : Nat) (v2 : Nat) (g : hs_S) (o : hs_S) (hf : fX5_takeSums v0 v1 v2 g = some o) : Met l yX5_takeSums wcX5_takeSums rmX5_takeSums (hs_Pc B D E g [.ref (B + v0), .ref (B + v1), .ref (B + v2)]) (hs_Qv B D E o) (0) (0) (hs_F B) := by
  refine Met.ofW (cc := cX5_takeSums) (maxL := 4) (ret := none) (by decide) rfl ?_
  intro p e s m args below meth c s₁ Bd hml hv
  obtain ⟨rfl, hP, hK⟩ := hv
  have hx := Bd.exec
  have hb := Bd.bytes
  have hr := Bd.returns
  have hts := atoms_spec (ws := wcX5_takeSums) Bd.pre
  have hown : s.vm.findClass RX5 = some m.cls := findClass_of_methodNamed Bd.named
  have hlocks := Bd.notSynchronized
  have hS : hs_Sx B s.heap s.heap [] := va_S.rf
  have hX : hs_cx cX5_takeSums none 4 RX5 wcX5_takeSums p s m (List.toArray [.ref (B + v0), .ref (B + v1), .ref (B + v2)]) meth c D E := ⟨hx, hb, hr, hml, hown, hts, hlocks, hK⟩
  have hl := lv_entry ([.ref (B + v0), .ref (B + v1), .ref (B + v2)]) (n := 4) (Nat.le_of_ble_eq_true rfl)
  rw [lg_entry_eq]
  generalize (lg_sl ([.ref (B + v0), .ref (B + v1), .ref (B + v2)]) ++ List.replicate (4 - (lg_sl ([.ref (B + v0), .ref (B + v1), .ref (B + v2)])).length) Slot.unset).toArray = ls at hl ⊢
  have hl : lv_has ls 4 [(0, .ref (B + v0)), (1, .ref (B + v1)), (2, .ref (B + v2))] := hl
  have hP : hs_P B D E g s.heap := hP
  unfold fX5_takeSums at hf
  refine lv_aload_n hx hb dX5_takeSums_0 rfl (lv_at hl 0 rfl) ?_
  obtain ⟨h1, hf⟩ := hs_ck hf
  obtain ⟨h2, hf⟩ := hs_ck hf
  refine hs_getr (C := RX5) (T := TX5) (N := 5) hx hb hts (fun w h => List.mem_cons_of_mem _ (inlX5 w h)) hown hK.1 hP h1 (by decide) rfl 0 (by decide) (hts _ (List.mem_cons_of_mem _ wq85)) (fun _ h => h) rfl h2 dX5_takeSums_1 ?_
  refine lv_iconst (v := 0) hx hb dX5_takeSums_4 (by decide) ?_
  obtain ⟨g3, h5, hf⟩ := hs_bv_some hf
  refine hs_callv (va_runS (As := [.ref (B + ((hs_R g v0 0) - 1)), .int (0 : Int32)]) (rest := []) ⟨hx, hb, hml, hown, hts⟩ (ctJ7_fill_53178 l B D E ((hs_R g v0 0) - 1) (0 : Int32) g _ h5) (va_cwS 2 hts (hs_gS (fun _ h => List.mem_cons_of_mem _ h) wq499 wq63 wq64 wq65) rfl rfl rfl (by decide +kernel) ⟨Nat.le_of_ble_eq_true rfl, Nat.le_of_ble_eq_true rfl⟩) (hs_pre hP hK) rfl rfl hl.1 rfl (lv_room (Nat.le_of_ble_eq_true rfl)) dX5_takeSums_5 ⟨(Nat.le_of_ble_eq_true rfl), (Nat.le_of_ble_eq_true rfl)⟩) hS (fun H locs hP hS => ?_)
  refine lv_iconst (v := 0) hx hb dX5_takeSums_8 (by decide) ?_
  refine lv_istore_n (lv' := [(3, .int (0 : Int32)), (0, .ref (B + v0)), (1, .ref (B + v1)), (2, .ref (B + v2))]) hx hb dX5_takeSums_9 rfl hl (by decide) rfl (fun ls hl => ?_)
  obtain ⟨g21, h22, hf⟩ := hs_bv_some hf
  refine wX5_takeSums_10 hX (fun H locs ls hP hS hl => ?_) hs_N _ _ h22 _ _ _ hP hS (lv_sub hl [1, 2, 3, 0] rfl)
  exact hs_vret hx hb hr hlocks hK hP hS hf dX5_takeSums_53

theorem dX5_sumBytes_0 : decode cX5_sumBytes 0 = .ok (.aload_n 0, 1) := by decide +kernel
theorem dX5_sumBytes_1 : decode cX5_sumBytes 1 = .ok (.getfield 9, 3) := by decide +kernel
theorem dX5_sumBytes_4 : decode cX5_sumBytes 4 = .ok (.iload_n 1, 1) := by decide +kernel
theorem dX5_sumBytes_5 : decode cX5_sumBytes 5 = .ok (.invokestatic 113, 3) := by decide +kernel
theorem dX5_sumBytes_8 : decode cX5_sumBytes 8 = .ok (.ifCond .le 7, 3) := by decide +kernel
theorem dX5_sumBytes_11 : decode cX5_sumBytes 11 = .ok (.iconst 5, 1) := by decide +kernel
theorem dX5_sumBytes_12 : decode cX5_sumBytes 12 = .ok (.goto 4, 3) := by decide +kernel
theorem dX5_sumBytes_15 : decode cX5_sumBytes 15 = .ok (.iconst 0, 1) := by decide +kernel
theorem dX5_sumBytes_16 : decode cX5_sumBytes 16 = .ok (.ireturn, 1) := by decide +kernel
abbrev wcX5_sumBytes : List Cond := .code yX5_sumBytes cX5_sumBytes 2 (some .int) :: wsL_law
def fX5_sumBytes (v0 : Nat) (v1 : Int32) (g : hs_S) : Option (Int32 × hs_S) :=
  if hs_kd g v0 = 4 then
  if ¬ (hs_R g v0 0) = 0 then
  hs_bd (fX9_at ((hs_R g v0 0) - 1) v1 g) fun r4 g3 =>
  if r4 ≤ 0 then (
    some ((0 : Int32), g3)
  ) else (
    some ((5 : Int32), g3)
  )
  else none else none
abbrev rmX5_sumBytes : Room := { frames := 1, cells := 0, slots := 0, locals := 21 }
set_option maxHeartbeats 4000000 in
set_option maxRecDepth 100000 in
theorem ctX5_sumBytes (l : Launch) (B : Nat) (D : va_G) (E : Nat → ClassId) (v0 : Nat) (v1 : Int32) (g : hs_S) (o : Int32 × hs_S) (hf : fX5_sumBytes v0 v1 g = some o) : Met l yX5_sumBytes wcX5_sumBytes rmX5_sumBytes (hs_Pc B D E g [.ref (B + v0), .int v1]) (hs_Qi B D E o) (0) (0) (hs_F B) := by
  refine Met.ofW (cc := cX5_sumBytes) (maxL := 2) (ret := (some .int)) (by decide) rfl ?_
  intro p e s m args below meth c s₁ Bd hml hv
  obtain ⟨rfl, hP, hK⟩ := hv
  have hx := Bd.exec
  have hb := Bd.bytes
  have hr := Bd.returns
  have hts := atoms_spec (ws := wcX5_sumBytes) Bd.pre
  have hown : s.vm.findClass RX5 = some m.cls := findClass_of_methodNamed Bd.named
  have hlocks := Bd.notSynchronized
  have hS : hs_Sx B s.heap s.heap [] := va_S.rf
  have hX : hs_cx cX5_sumBytes (some .int) 2 RX5 wcX5_sumBytes p s m (List.toArray [.ref (B + v0), .int v1]) meth c D E := ⟨hx, hb, hr, hml, hown, hts, hlocks, hK⟩
  have hl := lv_entry ([.ref (B + v0), .int v1]) (n := 2) (Nat.le_of_ble_eq_true rfl)
  rw [lg_entry_eq]
  generalize (lg_sl ([.ref (B + v0), .int v1]) ++ List.replicate (2 - (lg_sl ([.ref (B + v0), .int v1])).length) Slot.unset).toArray = ls at hl ⊢
  have hl : lv_has ls 2 [(0, .ref (B + v0)), (1, .int v1)] := hl
  have hP : hs_P B D E g s.heap := hP
  unfold fX5_sumBytes at hf
  refine lv_aload_n hx hb dX5_sumBytes_0 rfl (lv_at hl 0 rfl) ?_
  obtain ⟨h1, hf⟩ := hs_ck hf
  obtain ⟨h2, hf⟩ := hs_ck hf
  refine hs_getr (C := RX5) (T := TX5) (N := 5) hx hb hts (fun w h => List.mem_cons_of_mem _ (inlX5 w h)) hown hK.1 hP h1 (by decide) rfl 0 (by decide) (hts _ (List.mem_cons_of_mem _ wq85)) (fun _ h => h) rfl h2 dX5_sumBytes_1 ?_
  refine lv_iload_n hx hb dX5_sumBytes_4 rfl (lv_at hl 1 rfl) ?_
  obtain ⟨r4, g3, h5, hf⟩ := hs_bd_some hf
  refine hs_calli (va_runS (As := [.ref (B + ((hs_R g v0 0) - 1)), .int v1]) (rest := []) ⟨hx, hb, hml, hown, hts⟩ (ctX9_at l B D E ((hs_R g v0 0) - 1) v1 g _ h5) (va_cwS 2 hts (hs_gS (fun _ h => List.mem_cons_of_mem _ h) wq521 wq193 wq68 wq194) rfl rfl rfl (by decide +kernel) ⟨Nat.le_of_ble_eq_true rfl, Nat.le_of_ble_eq_true rfl⟩) (hs_pre hP hK) rfl rfl hl.1 rfl (lv_room (Nat.le_of_ble_eq_true rfl)) dX5_sumBytes_5 ⟨(Nat.le_of_ble_eq_true rfl), (Nat.le_of_ble_eq_true rfl)⟩) hS (fun H locs hP hS => ?_)
  refine lv_if_le (tgt := 15) hx hb dX5_sumBytes_8 (by decide) (fun hc => ?_) (fun hc => ?_)
  · replace hf := hs_t hf hc
    refine lv_iconst (v := 0) hx hb dX5_sumBytes_15 (by decide) ?_
    exact hs_iret hx hb hr hlocks rfl hK hP hS hf dX5_sumBytes_16
  · replace hf := hs_f hf hc
    refine lv_iconst (v := 5) hx hb dX5_sumBytes_11 (by decide) ?_
    refine lv_goto (tgt := 16) hx hb dX5_sumBytes_12 (by decide) ?_
    exact hs_iret hx hb hr hlocks rfl hK hP hS hf dX5_sumBytes_16

theorem dX5_paysTop_0 : decode cX5_paysTop 0 = .ok (.aload_n 0, 1) := by decide +kernel
theorem dX5_paysTop_1 : decode cX5_paysTop 1 = .ok (.getfield 24, 3) := by decide +kernel
theorem dX5_paysTop_4 : decode cX5_paysTop 4 = .ok (.ifCond .eq 18, 3) := by decide +kernel
theorem dX5_paysTop_7 : decode cX5_paysTop 7 = .ok (.aload_n 1, 1) := by decide +kernel
theorem dX5_paysTop_8 : decode cX5_paysTop 8 = .ok (.iload_n 2, 1) := by decide +kernel
theorem dX5_paysTop_9 : decode cX5_paysTop 9 = .ok (.invokevirtual 117, 3) := by decide +kernel
theorem dX5_paysTop_12 : decode cX5_paysTop 12 = .ok (.sipush 188, 3) := by decide +kernel
theorem dX5_paysTop_15 : decode cX5_paysTop 15 = .ok (.if_icmp .ne 7, 3) := by decide +kernel
theorem dX5_paysTop_18 : decode cX5_paysTop 18 = .ok (.iconst 1, 1) := by decide +kernel
theorem dX5_paysTop_19 : decode cX5_paysTop 19 = .ok (.goto 4, 3) := by decide +kernel
theorem dX5_paysTop_22 : decode cX5_paysTop 22 = .ok (.iconst 0, 1) := by decide +kernel
theorem dX5_paysTop_23 : decode cX5_paysTop 23 = .ok (.ireturn, 1) := by decide +kernel
abbrev wcX5_paysTop : List Cond := .code yX5_paysTop cX5_paysTop 3 (some .boolean) :: wsL_law
def fX5_paysTop (v0 : Nat) (v1 : Nat) (v2 : Int32) (g : hs_S) : Option (Int32 × hs_S) :=
  if hs_kd g v0 = 4 then
  if (hs_I g v0 4) = 0 then (
    some ((0 : Int32), g)
  ) else (
    if hs_kd g v1 = 6 then
    hs_bd (fX7_valueAt v1 v2 g) fun r4 g3 =>
    if r4 = (188 : Int32) then (
      some ((1 : Int32), g3)
    ) else (
      some ((0 : Int32), g3)
    )
    else none
  )
  else none
abbrev rmX5_paysTop : Room := { frames := 2, cells := 0, slots := 0, locals := 42 }
set_option maxHeartbeats 4000000 in
set_option maxRecDepth 100000 in
theorem ctX5_paysTop (l : Launch) (B : Nat) (D : va_G) (E : Nat → ClassId) (v0 : Nat) (v1 : Nat) (v2 : Int32) (g : hs_S) (o : Int32 × hs_S) (hf : fX5_paysTop v0 v1 v2 g = some o) : Met l yX5_paysTop wcX5_paysTop rmX5_paysTop (hs_Pc B D E g [.ref (B + v0), .ref (B + v1), .int v2]) (hs_Qi B D E o) (0) (0) (hs_F B) := by
  refine Met.ofW (cc := cX5_paysTop) (maxL := 3) (ret := (some .boolean)) (by decide) rfl ?_
  intro p e s m args below meth c s₁ Bd hml hv
  obtain ⟨rfl, hP, hK⟩ := hv
  have hx := Bd.exec
  have hb := Bd.bytes
  have hr := Bd.returns
  have hts := atoms_spec (ws := wcX5_paysTop) Bd.pre
  have hown : s.vm.findClass RX5 = some m.cls := findClass_of_methodNamed Bd.named
  have hlocks := Bd.notSynchronized
  have hS : hs_Sx B s.heap s.heap [] := va_S.rf
  have hX : hs_cx cX5_paysTop (some .boolean) 3 RX5 wcX5_paysTop p s m (List.toArray [.ref (B + v0), .ref (B + v1), .int v2]) meth c D E := ⟨hx, hb, hr, hml, hown, hts, hlocks, hK⟩
  have hl := lv_entry ([.ref (B + v0), .ref (B + v1), .int v2]) (n := 3) (Nat.le_of_ble_eq_true rfl)
  rw [lg_entry_eq]
  generalize (lg_sl ([.ref (B + v0), .ref (B + v1), .int v2]) ++ List.replicate (3 - (lg_sl ([.ref (B + v0), .ref (B + v1), .int v2])).length) Slot.unset).toArray = ls at hl ⊢
  have hl : lv_has ls 3 [(0, .ref (B + v0)), (1, .ref (B + v1)), (2, .int v2)] := hl
  have hP : hs_P B D E g s.heap := hP
  unfold fX5_paysTop at hf
  refine lv_aload_n hx hb dX5_paysTop_0 rfl (lv_at hl 0 rfl) ?_
  obtain ⟨h1, hf⟩ := hs_ck hf
  refine hs_geti (C := RX5) (T := TX5) (N := 5) hx hb hts (fun w h => List.mem_cons_of_mem _ (inlX5 w h)) hown hK.1 hP h1 (by decide) rfl 4 (by decide) (hts _ (List.mem_cons_of_mem _ wq493)) (fun _ h => h) rfl dX5_paysTop_1 ?_
  refine lv_if_eq (tgt := 22) hx hb dX5_paysTop_4 (by decide) (fun hc => ?_) (fun hc => ?_)
  · replace hf := hs_t hf hc
    refine lv_iconst (v := 0) hx hb dX5_paysTop_22 (by decide) ?_
    exact hs_iret hx hb hr hlocks (hs_01_nar (rfl)) hK hP hS hf dX5_paysTop_23
  · replace hf := hs_f hf hc
    refine lv_aload_n hx hb dX5_paysTop_7 rfl (lv_at hl 1 rfl) ?_
    refine lv_iload_n hx hb dX5_paysTop_8 rfl (lv_at hl 2 rfl) ?_
    obtain ⟨h2, hf⟩ := hs_ck hf
    obtain ⟨r4, g3, h5, hf⟩ := hs_bd_some hf
    refine hs_calli (va_runV (As := [.int v2]) (rest := []) ⟨hx, hb, hml, hown, hts⟩ (ctX7_valueAt l B D E v1 v2 g _ h5) (cwV 1 hts (hs_gV (fun _ h => List.mem_cons_of_mem _ h) wq526 wq249 wq250 wq43 wq251) rfl rfl rfl (by decide +kernel) ⟨Nat.le_of_ble_eq_true rfl, Nat.le_of_ble_eq_true rfl⟩) (hs_preV (r := (RX7, TX7, 11)) hP hK h2 (by decide) rfl) rfl rfl hl.1 rfl (lv_room (Nat.le_of_ble_eq_true rfl)) dX5_paysTop_9 ⟨(Nat.le_of_ble_eq_true rfl), (Nat.le_of_ble_eq_true rfl)⟩) hS (fun H locs hP hS => ?_)
    refine lv_sipush (v := 188) hx hb dX5_paysTop_12 (by decide) ?_
    refine lv_icmp_ne (tgt := 22) hx hb dX5_paysTop_15 (by decide) (fun hc => ?_) (fun hc => ?_)
    · replace hf := hs_f hf hc
      refine lv_iconst (v := 0) hx hb dX5_paysTop_22 (by decide) ?_
      exact hs_iret hx hb hr hlocks (hs_01_nar (rfl)) hK hP hS hf dX5_paysTop_23
    · replace hf := hs_t hf hc
      refine lv_iconst (v := 1) hx hb dX5_paysTop_18 (by decide) ?_
      refine lv_goto (tgt := 23) hx hb dX5_paysTop_19 (by decide) ?_
      exact hs_iret hx hb hr hlocks (hs_01_nar (rfl)) hK hP hS hf dX5_paysTop_23

theorem dX5_bytesAhead_0 : decode cX5_bytesAhead 0 = .ok (.aload_n 0, 1) := by decide +kernel
theorem dX5_bytesAhead_1 : decode cX5_bytesAhead 1 = .ok (.iload_n 2, 1) := by decide +kernel
theorem dX5_bytesAhead_2 : decode cX5_bytesAhead 2 = .ok (.invokevirtual 123, 3) := by decide +kernel
theorem dX5_bytesAhead_5 : decode cX5_bytesAhead 5 = .ok (.aload_n 0, 1) := by decide +kernel
theorem dX5_bytesAhead_6 : decode cX5_bytesAhead 6 = .ok (.aload_n 1, 1) := by decide +kernel
theorem dX5_bytesAhead_7 : decode cX5_bytesAhead 7 = .ok (.iload_n 2, 1) := by decide +kernel
theorem dX5_bytesAhead_8 : decode cX5_bytesAhead 8 = .ok (.invokevirtual 126, 3) := by decide +kernel
theorem dX5_bytesAhead_11 : decode cX5_bytesAhead 11 = .ok (.ifCond .eq 7, 3) := by decide +kernel
theorem dX5_bytesAhead_14 : decode cX5_bytesAhead 14 = .ok (.iconst 1, 1) := by decide +kernel
theorem dX5_bytesAhead_15 : decode cX5_bytesAhead 15 = .ok (.goto 4, 3) := by decide +kernel
theorem dX5_bytesAhead_18 : decode cX5_bytesAhead 18 = .ok (.iconst 0, 1) := by decide +kernel
theorem dX5_bytesAhead_19 : decode cX5_bytesAhead 19 = .ok (.iadd, 1) := by decide +kernel
theorem dX5_bytesAhead_20 : decode cX5_bytesAhead 20 = .ok (.ireturn, 1) := by decide +kernel
abbrev wcX5_bytesAhead : List Cond := .code yX5_bytesAhead cX5_bytesAhead 3 (some .int) :: wsL_law
def fX5_bytesAhead (v0 : Nat) (v1 : Nat) (v2 : Int32) (g : hs_S) : Option (Int32 × hs_S) :=
  if hs_kd g v0 = 4 then
  hs_bd (fX5_sumBytes v0 v2 g) fun r3 g2 =>
  if hs_kd g2 v0 = 4 then
  hs_bd (fX5_paysTop v0 v1 v2 g2) fun r7 g6 =>
  if r7 = 0 then (
    some ((r3 + (0 : Int32)), g6)
  ) else (
    some ((r3 + (1 : Int32)), g6)
  )
  else none else none
abbrev rmX5_bytesAhead : Room := { frames := 3, cells := 0, slots := 0, locals := 64 }
set_option maxHeartbeats 4000000 in
set_option maxRecDepth 100000 in
theorem ctX5_bytesAhead (l : Launch) (B : Nat) (D : va_G) (E : Nat → ClassId) (v0 : Nat) (v1 : Nat) (v2 : Int32) (g : hs_S) (o : Int32 × hs_S) (hf : fX5_bytesAhead v0 v1 v2 g = some o) : Met l yX5_bytesAhead wcX5_bytesAhead rmX5_bytesAhead (hs_Pc B D E g [.ref (B + v0), .ref (B + v1), .int v2]) (hs_Qi B D E o) (0) (0) (hs_F B) := by
  refine Met.ofW (cc := cX5_bytesAhead) (maxL := 3) (ret := (some .int)) (by decide) rfl ?_
  intro p e s m args below meth c s₁ Bd hml hv
  obtain ⟨rfl, hP, hK⟩ := hv
  have hx := Bd.exec
  have hb := Bd.bytes
  have hr := Bd.returns
  have hts := atoms_spec (ws := wcX5_bytesAhead) Bd.pre
  have hown : s.vm.findClass RX5 = some m.cls := findClass_of_methodNamed Bd.named
  have hlocks := Bd.notSynchronized
  have hS : hs_Sx B s.heap s.heap [] := va_S.rf
  have hX : hs_cx cX5_bytesAhead (some .int) 3 RX5 wcX5_bytesAhead p s m (List.toArray [.ref (B + v0), .ref (B + v1), .int v2]) meth c D E := ⟨hx, hb, hr, hml, hown, hts, hlocks, hK⟩
  have hl := lv_entry ([.ref (B + v0), .ref (B + v1), .int v2]) (n := 3) (Nat.le_of_ble_eq_true rfl)
  rw [lg_entry_eq]
  generalize (lg_sl ([.ref (B + v0), .ref (B + v1), .int v2]) ++ List.replicate (3 - (lg_sl ([.ref (B + v0), .ref (B + v1), .int v2])).length) Slot.unset).toArray = ls at hl ⊢
  have hl : lv_has ls 3 [(0, .ref (B + v0)), (1, .ref (B + v1)), (2, .int v2)] := hl
  have hP : hs_P B D E g s.heap := hP
  unfold fX5_bytesAhead at hf
  refine lv_aload_n hx hb dX5_bytesAhead_0 rfl (lv_at hl 0 rfl) ?_
  refine lv_iload_n hx hb dX5_bytesAhead_1 rfl (lv_at hl 2 rfl) ?_
  obtain ⟨h1, hf⟩ := hs_ck hf
  obtain ⟨r3, g2, h4, hf⟩ := hs_bd_some hf
  refine hs_calli (va_runV (As := [.int v2]) (rest := []) ⟨hx, hb, hml, hown, hts⟩ (ctX5_sumBytes l B D E v0 v2 g _ h4) (cwV 1 hts (hs_gV (fun _ h => List.mem_cons_of_mem _ h) wq517 wq518 wq519 wq30 wq520) rfl rfl rfl (by decide +kernel) ⟨Nat.le_of_ble_eq_true rfl, Nat.le_of_ble_eq_true rfl⟩) (hs_preV (r := (RX5, TX5, 5)) hP hK h1 (by decide) rfl) rfl rfl hl.1 rfl (lv_room (Nat.le_of_ble_eq_true rfl)) dX5_bytesAhead_2 ⟨(Nat.le_of_ble_eq_true rfl), (Nat.le_of_ble_eq_true rfl)⟩) hS (fun H locs hP hS => ?_)
  refine lv_aload_n hx hb dX5_bytesAhead_5 rfl (lv_at hl 0 rfl) ?_
  refine lv_aload_n hx hb dX5_bytesAhead_6 rfl (lv_at hl 1 rfl) ?_
  refine lv_iload_n hx hb dX5_bytesAhead_7 rfl (lv_at hl 2 rfl) ?_
  obtain ⟨h5, hf⟩ := hs_ck hf
  obtain ⟨r7, g6, h8, hf⟩ := hs_bd_some hf
  refine hs_calli (va_runV (As := [.ref (B + v1), .int v2]) (rest := [.int r3]) ⟨hx, hb, hml, hown, hts⟩ (ctX5_paysTop l B D E v0 v1 v2 g2 _ h8) (cwV 2 hts (hs_gV (fun _ h => List.mem_cons_of_mem _ h) wq522 wq523 wq524 wq30 wq525) rfl rfl rfl (by decide +kernel) ⟨Nat.le_of_ble_eq_true rfl, Nat.le_of_ble_eq_true rfl⟩) (hs_preV (r := (RX5, TX5, 5)) hP hK h5 (by decide) rfl) rfl rfl hl.1 rfl (lv_room (Nat.le_of_ble_eq_true rfl)) dX5_bytesAhead_8 ⟨(Nat.le_of_ble_eq_true rfl), (Nat.le_of_ble_eq_true rfl)⟩) hS (fun H locs hP hS => ?_)
  refine lv_if_eq (tgt := 18) hx hb dX5_bytesAhead_11 (by decide) (fun hc => ?_) (fun hc => ?_)
  · replace hf := hs_t hf hc
    refine lv_iconst (v := 0) hx hb dX5_bytesAhead_18 (by decide) ?_
    refine lv_iadd hx hb dX5_bytesAhead_19 ?_
    exact hs_iret hx hb hr hlocks rfl hK hP hS hf dX5_bytesAhead_20
  · replace hf := hs_f hf hc
    refine lv_iconst (v := 1) hx hb dX5_bytesAhead_14 (by decide) ?_
    refine lv_goto (tgt := 19) hx hb dX5_bytesAhead_15 (by decide) ?_
    refine lv_iadd hx hb dX5_bytesAhead_19 ?_
    exact hs_iret hx hb hr hlocks rfl hK hP hS hf dX5_bytesAhead_20

theorem dX5_isLong_0 : decode cX5_isLong 0 = .ok (.aload_n 0, 1) := by decide +kernel
theorem dX5_isLong_1 : decode cX5_isLong 1 = .ok (.getfield 21, 3) := by decide +kernel
theorem dX5_isLong_4 : decode cX5_isLong 4 = .ok (.iload_n 1, 1) := by decide +kernel
theorem dX5_isLong_5 : decode cX5_isLong 5 = .ok (.invokestatic 113, 3) := by decide +kernel
theorem dX5_isLong_8 : decode cX5_isLong 8 = .ok (.iconst 1, 1) := by decide +kernel
theorem dX5_isLong_9 : decode cX5_isLong 9 = .ok (.if_icmp .ne 7, 3) := by decide +kernel
theorem dX5_isLong_12 : decode cX5_isLong 12 = .ok (.iconst 1, 1) := by decide +kernel
theorem dX5_isLong_13 : decode cX5_isLong 13 = .ok (.goto 4, 3) := by decide +kernel
theorem dX5_isLong_16 : decode cX5_isLong 16 = .ok (.iconst 0, 1) := by decide +kernel
theorem dX5_isLong_17 : decode cX5_isLong 17 = .ok (.ireturn, 1) := by decide +kernel
abbrev wcX5_isLong : List Cond := .code yX5_isLong cX5_isLong 2 (some .boolean) :: wsL_law
def fX5_isLong (v0 : Nat) (v1 : Int32) (g : hs_S) : Option (Int32 × hs_S) :=
  if hs_kd g v0 = 4 then
  if ¬ (hs_R g v0 3) = 0 then
  hs_bd (fX9_at ((hs_R g v0 3) - 1) v1 g) fun r4 g3 =>
  if r4 = (1 : Int32) then (
    some ((1 : Int32), g3)
  ) else (
    some ((0 : Int32), g3)
  )
  else none else none
abbrev rmX5_isLong : Room := { frames := 1, cells := 0, slots := 0, locals := 21 }
set_option maxHeartbeats 4000000 in
set_option maxRecDepth 100000 in
theorem ctX5_isLong (l : Launch) (B : Nat) (D : va_G) (E : Nat → ClassId) (v0 : Nat) (v1 : Int32) (g : hs_S) (o : Int32 × hs_S) (hf : fX5_isLong v0 v1 g = some o) : Met l yX5_isLong wcX5_isLong rmX5_isLong (hs_Pc B D E g [.ref (B + v0), .int v1]) (hs_Qi B D E o) (0) (0) (hs_F B) := by
  refine Met.ofW (cc := cX5_isLong) (maxL := 2) (ret := (some .boolean)) (by decide) rfl ?_
  intro p e s m args below meth c s₁ Bd hml hv
  obtain ⟨rfl, hP, hK⟩ := hv
  have hx := Bd.exec
  have hb := Bd.bytes
  have hr := Bd.returns
  have hts := atoms_spec (ws := wcX5_isLong) Bd.pre
  have hown : s.vm.findClass RX5 = some m.cls := findClass_of_methodNamed Bd.named
  have hlocks := Bd.notSynchronized
  have hS : hs_Sx B s.heap s.heap [] := va_S.rf
  have hX : hs_cx cX5_isLong (some .boolean) 2 RX5 wcX5_isLong p s m (List.toArray [.ref (B + v0), .int v1]) meth c D E := ⟨hx, hb, hr, hml, hown, hts, hlocks, hK⟩
  have hl := lv_entry ([.ref (B + v0), .int v1]) (n := 2) (Nat.le_of_ble_eq_true rfl)
  rw [lg_entry_eq]
  generalize (lg_sl ([.ref (B + v0), .int v1]) ++ List.replicate (2 - (lg_sl ([.ref (B + v0), .int v1])).length) Slot.unset).toArray = ls at hl ⊢
  have hl : lv_has ls 2 [(0, .ref (B + v0)), (1, .int v1)] := hl
  have hP : hs_P B D E g s.heap := hP
  unfold fX5_isLong at hf
  refine lv_aload_n hx hb dX5_isLong_0 rfl (lv_at hl 0 rfl) ?_
  obtain ⟨h1, hf⟩ := hs_ck hf
  obtain ⟨h2, hf⟩ := hs_ck hf
  refine hs_getr (C := RX5) (T := TX5) (N := 5) hx hb hts (fun w h => List.mem_cons_of_mem _ (inlX5 w h)) hown hK.1 hP h1 (by decide) rfl 3 (by decide) (hts _ (List.mem_cons_of_mem _ wq88)) (fun _ h => h) rfl h2 dX5_isLong_1 ?_
  refine lv_iload_n hx hb dX5_isLong_4 rfl (lv_at hl 1 rfl) ?_
  obtain ⟨r4, g3, h5, hf⟩ := hs_bd_some hf
  refine hs_calli (va_runS (As := [.ref (B + ((hs_R g v0 3) - 1)), .int v1]) (rest := []) ⟨hx, hb, hml, hown, hts⟩ (ctX9_at l B D E ((hs_R g v0 3) - 1) v1 g _ h5) (va_cwS 2 hts (hs_gS (fun _ h => List.mem_cons_of_mem _ h) wq521 wq193 wq68 wq194) rfl rfl rfl (by decide +kernel) ⟨Nat.le_of_ble_eq_true rfl, Nat.le_of_ble_eq_true rfl⟩) (hs_pre hP hK) rfl rfl hl.1 rfl (lv_room (Nat.le_of_ble_eq_true rfl)) dX5_isLong_5 ⟨(Nat.le_of_ble_eq_true rfl), (Nat.le_of_ble_eq_true rfl)⟩) hS (fun H locs hP hS => ?_)
  refine lv_iconst (v := 1) hx hb dX5_isLong_8 (by decide) ?_
  refine lv_icmp_ne (tgt := 16) hx hb dX5_isLong_9 (by decide) (fun hc => ?_) (fun hc => ?_)
  · replace hf := hs_f hf hc
    refine lv_iconst (v := 0) hx hb dX5_isLong_16 (by decide) ?_
    exact hs_iret hx hb hr hlocks (hs_01_nar (rfl)) hK hP hS hf dX5_isLong_17
  · replace hf := hs_t hf hc
    refine lv_iconst (v := 1) hx hb dX5_isLong_12 (by decide) ?_
    refine lv_goto (tgt := 17) hx hb dX5_isLong_13 (by decide) ?_
    exact hs_iret hx hb hr hlocks (hs_01_nar (rfl)) hK hP hS hf dX5_isLong_17

theorem dX5_bytesOf_0 : decode cX5_bytesOf 0 = .ok (.aload_n 1, 1) := by decide +kernel
theorem dX5_bytesOf_1 : decode cX5_bytesOf 1 = .ok (.iload_n 2, 1) := by decide +kernel
theorem dX5_bytesOf_2 : decode cX5_bytesOf 2 = .ok (.invokevirtual 117, 3) := by decide +kernel
theorem dX5_bytesOf_5 : decode cX5_bytesOf 5 = .ok (.istore_n 3, 1) := by decide +kernel
theorem dX5_bytesOf_6 : decode cX5_bytesOf 6 = .ok (.iload_n 3, 1) := by decide +kernel
theorem dX5_bytesOf_7 : decode cX5_bytesOf 7 = .ok (.invokestatic 130, 3) := by decide +kernel
theorem dX5_bytesOf_10 : decode cX5_bytesOf 10 = .ok (.ifCond .ne 8, 3) := by decide +kernel
theorem dX5_bytesOf_13 : decode cX5_bytesOf 13 = .ok (.iload_n 3, 1) := by decide +kernel
theorem dX5_bytesOf_14 : decode cX5_bytesOf 14 = .ok (.invokestatic 133, 3) := by decide +kernel
theorem dX5_bytesOf_17 : decode cX5_bytesOf 17 = .ok (.ireturn, 1) := by decide +kernel
theorem dX5_bytesOf_18 : decode cX5_bytesOf 18 = .ok (.aload_n 0, 1) := by decide +kernel
theorem dX5_bytesOf_19 : decode cX5_bytesOf 19 = .ok (.iload_n 2, 1) := by decide +kernel
theorem dX5_bytesOf_20 : decode cX5_bytesOf 20 = .ok (.invokevirtual 110, 3) := by decide +kernel
theorem dX5_bytesOf_23 : decode cX5_bytesOf 23 = .ok (.ifCond .ne 5, 3) := by decide +kernel
theorem dX5_bytesOf_26 : decode cX5_bytesOf 26 = .ok (.iconst 2, 1) := by decide +kernel
theorem dX5_bytesOf_27 : decode cX5_bytesOf 27 = .ok (.ireturn, 1) := by decide +kernel
theorem dX5_bytesOf_28 : decode cX5_bytesOf 28 = .ok (.iload_n 3, 1) := by decide +kernel
theorem dX5_bytesOf_29 : decode cX5_bytesOf 29 = .ok (.invokestatic 136, 3) := by decide +kernel
theorem dX5_bytesOf_32 : decode cX5_bytesOf 32 = .ok (.ifCond .eq 7, 3) := by decide +kernel
theorem dX5_bytesOf_35 : decode cX5_bytesOf 35 = .ok (.iconst 5, 1) := by decide +kernel
theorem dX5_bytesOf_36 : decode cX5_bytesOf 36 = .ok (.goto 9, 3) := by decide +kernel
theorem dX5_bytesOf_39 : decode cX5_bytesOf 39 = .ok (.sipush 168, 3) := by decide +kernel
theorem dX5_bytesOf_42 : decode cX5_bytesOf 42 = .ok (.invokestatic 133, 3) := by decide +kernel
theorem dX5_bytesOf_45 : decode cX5_bytesOf 45 = .ok (.ireturn, 1) := by decide +kernel
abbrev wcX5_bytesOf : List Cond := .code yX5_bytesOf cX5_bytesOf 4 (some .int) :: wsL_law
def fX5_bytesOf (v0 : Nat) (v1 : Nat) (v2 : Int32) (g : hs_S) : Option (Int32 × hs_S) :=
  if hs_kd g v1 = 6 then
  hs_bd (fX7_valueAt v1 v2 g) fun r3 g2 =>
  hs_bd (fX4_isJump r3 g2) fun r6 g5 =>
  if r6 = 0 then (
    hs_bd (fX4_sizeOf r3 g5) fun r19 g18 =>
    some (r19, g18)
  ) else (
    if hs_kd g5 v0 = 4 then
    hs_bd (fX5_isLong v0 v2 g5) fun r10 g9 =>
    if r10 = 0 then (
      some ((2 : Int32), g9)
    ) else (
      hs_bd (fX4_isBranch r3 g9) fun r13 g12 =>
      if r13 = 0 then (
        hs_bd (fX4_sizeOf (168 : Int32) g12) fun r16 g15 =>
        some (r16, g15)
      ) else (
        some ((5 : Int32), g12)
      )
    )
    else none
  )
  else none
abbrev rmX5_bytesOf : Room := { frames := 2, cells := 0, slots := 0, locals := 42 }
set_option maxHeartbeats 4000000 in
set_option maxRecDepth 100000 in
theorem ctX5_bytesOf (l : Launch) (B : Nat) (D : va_G) (E : Nat → ClassId) (v0 : Nat) (v1 : Nat) (v2 : Int32) (g : hs_S) (o : Int32 × hs_S) (hf : fX5_bytesOf v0 v1 v2 g = some o) : Met l yX5_bytesOf wcX5_bytesOf rmX5_bytesOf (hs_Pc B D E g [.ref (B + v0), .ref (B + v1), .int v2]) (hs_Qi B D E o) (0) (0) (hs_F B) := by
  refine Met.ofW (cc := cX5_bytesOf) (maxL := 4) (ret := (some .int)) (by decide) rfl ?_
  intro p e s m args below meth c s₁ Bd hml hv
  obtain ⟨rfl, hP, hK⟩ := hv
  have hx := Bd.exec
  have hb := Bd.bytes
  have hr := Bd.returns
  have hts := atoms_spec (ws := wcX5_bytesOf) Bd.pre
  have hown : s.vm.findClass RX5 = some m.cls := findClass_of_methodNamed Bd.named
  have hlocks := Bd.notSynchronized
  have hS : hs_Sx B s.heap s.heap [] := va_S.rf
  have hX : hs_cx cX5_bytesOf (some .int) 4 RX5 wcX5_bytesOf p s m (List.toArray [.ref (B + v0), .ref (B + v1), .int v2]) meth c D E := ⟨hx, hb, hr, hml, hown, hts, hlocks, hK⟩
  have hl := lv_entry ([.ref (B + v0), .ref (B + v1), .int v2]) (n := 4) (Nat.le_of_ble_eq_true rfl)
  rw [lg_entry_eq]
  generalize (lg_sl ([.ref (B + v0), .ref (B + v1), .int v2]) ++ List.replicate (4 - (lg_sl ([.ref (B + v0), .ref (B + v1), .int v2])).length) Slot.unset).toArray = ls at hl ⊢
  have hl : lv_has ls 4 [(0, .ref (B + v0)), (1, .ref (B + v1)), (2, .int v2)] := hl
  have hP : hs_P B D E g s.heap := hP
  unfold fX5_bytesOf at hf
  refine lv_aload_n hx hb dX5_bytesOf_0 rfl (lv_at hl 1 rfl) ?_
  refine lv_iload_n hx hb dX5_bytesOf_1 rfl (lv_at hl 2 rfl) ?_
  obtain ⟨h1, hf⟩ := hs_ck hf
  obtain ⟨r3, g2, h4, hf⟩ := hs_bd_some hf
  refine hs_calli (va_runV (As := [.int v2]) (rest := []) ⟨hx, hb, hml, hown, hts⟩ (ctX7_valueAt l B D E v1 v2 g _ h4) (cwV 1 hts (hs_gV (fun _ h => List.mem_cons_of_mem _ h) wq526 wq249 wq250 wq43 wq251) rfl rfl rfl (by decide +kernel) ⟨Nat.le_of_ble_eq_true rfl, Nat.le_of_ble_eq_true rfl⟩) (hs_preV (r := (RX7, TX7, 11)) hP hK h1 (by decide) rfl) rfl rfl hl.1 rfl (lv_room (Nat.le_of_ble_eq_true rfl)) dX5_bytesOf_2 ⟨(Nat.le_of_ble_eq_true rfl), (Nat.le_of_ble_eq_true rfl)⟩) hS (fun H locs hP hS => ?_)
  refine lv_istore_n (lv' := [(3, .int r3), (0, .ref (B + v0)), (1, .ref (B + v1)), (2, .int v2)]) hx hb dX5_bytesOf_5 rfl hl (by decide) rfl (fun ls hl => ?_)
  refine lv_iload_n hx hb dX5_bytesOf_6 rfl (lv_at hl 0 rfl) ?_
  obtain ⟨r6, g5, h7, hf⟩ := hs_bd_some hf
  refine hs_calli (va_runS (As := [.int r3]) (rest := []) ⟨hx, hb, hml, hown, hts⟩ (ctX4_isJump l B D E r3 g2 _ h7) (va_cwS 1 hts (hs_gS (fun _ h => List.mem_cons_of_mem _ h) wq531 wq307 wq258 wq308) rfl rfl rfl (by decide +kernel) ⟨Nat.le_of_ble_eq_true rfl, Nat.le_of_ble_eq_true rfl⟩) (hs_pre hP hK) rfl rfl hl.1 rfl (lv_room (Nat.le_of_ble_eq_true rfl)) dX5_bytesOf_7 ⟨(Nat.le_of_ble_eq_true rfl), (Nat.le_of_ble_eq_true rfl)⟩) hS (fun H locs hP hS => ?_)
  refine lv_if_ne (tgt := 18) hx hb dX5_bytesOf_10 (by decide) (fun hc => ?_) (fun hc => ?_)
  · replace hf := hs_f hf hc
    refine lv_aload_n hx hb dX5_bytesOf_18 rfl (lv_at hl 1 rfl) ?_
    refine lv_iload_n hx hb dX5_bytesOf_19 rfl (lv_at hl 3 rfl) ?_
    obtain ⟨h8, hf⟩ := hs_ck hf
    obtain ⟨r10, g9, h11, hf⟩ := hs_bd_some hf
    refine hs_calli (va_runV (As := [.int v2]) (rest := []) ⟨hx, hb, hml, hown, hts⟩ (ctX5_isLong l B D E v0 v2 g5 _ h11) (cwV 1 hts (hs_gV (fun _ h => List.mem_cons_of_mem _ h) wq533 wq534 wq535 wq30 wq536) rfl rfl rfl (by decide +kernel) ⟨Nat.le_of_ble_eq_true rfl, Nat.le_of_ble_eq_true rfl⟩) (hs_preV (r := (RX5, TX5, 5)) hP hK h8 (by decide) rfl) rfl rfl hl.1 rfl (lv_room (Nat.le_of_ble_eq_true rfl)) dX5_bytesOf_20 ⟨(Nat.le_of_ble_eq_true rfl), (Nat.le_of_ble_eq_true rfl)⟩) hS (fun H locs hP hS => ?_)
    refine lv_if_ne (tgt := 28) hx hb dX5_bytesOf_23 (by decide) (fun hc => ?_) (fun hc => ?_)
    · replace hf := hs_f hf hc
      refine lv_iload_n hx hb dX5_bytesOf_28 rfl (lv_at hl 0 rfl) ?_
      obtain ⟨r13, g12, h14, hf⟩ := hs_bd_some hf
      refine hs_calli (va_runS (As := [.int r3]) (rest := []) ⟨hx, hb, hml, hown, hts⟩ (ctX4_isBranch l B D E r3 g9 _ h14) (va_cwS 1 hts (hs_gS (fun _ h => List.mem_cons_of_mem _ h) wq537 wq264 wq258 wq265) rfl rfl rfl (by decide +kernel) ⟨Nat.le_of_ble_eq_true rfl, Nat.le_of_ble_eq_true rfl⟩) (hs_pre hP hK) rfl rfl hl.1 rfl (lv_room (Nat.le_of_ble_eq_true rfl)) dX5_bytesOf_29 ⟨(Nat.le_of_ble_eq_true rfl), (Nat.le_of_ble_eq_true rfl)⟩) hS (fun H locs hP hS => ?_)
      refine lv_if_eq (tgt := 39) hx hb dX5_bytesOf_32 (by decide) (fun hc => ?_) (fun hc => ?_)
      · replace hf := hs_t hf hc
        refine lv_sipush (v := 168) hx hb dX5_bytesOf_39 (by decide) ?_
        obtain ⟨r16, g15, h17, hf⟩ := hs_bd_some hf
        refine hs_calli (va_runS (As := [.int (168 : Int32)]) (rest := []) ⟨hx, hb, hml, hown, hts⟩ (ctX4_sizeOf l B D E (168 : Int32) g12 _ h17) (va_cwS 1 hts (hs_gS (fun _ h => List.mem_cons_of_mem _ h) wq532 wq257 wq258 wq259) rfl rfl rfl (by decide +kernel) ⟨Nat.le_of_ble_eq_true rfl, Nat.le_of_ble_eq_true rfl⟩) (hs_pre hP hK) rfl rfl hl.1 rfl (lv_room (Nat.le_of_ble_eq_true rfl)) dX5_bytesOf_42 ⟨(Nat.le_of_ble_eq_true rfl), (Nat.le_of_ble_eq_true rfl)⟩) hS (fun H locs hP hS => ?_)
        exact hs_iret hx hb hr hlocks rfl hK hP hS hf dX5_bytesOf_45
      · replace hf := hs_f hf hc
        refine lv_iconst (v := 5) hx hb dX5_bytesOf_35 (by decide) ?_
        refine lv_goto (tgt := 45) hx hb dX5_bytesOf_36 (by decide) ?_
        exact hs_iret hx hb hr hlocks rfl hK hP hS hf dX5_bytesOf_45
    · replace hf := hs_t hf hc
      refine lv_iconst (v := 2) hx hb dX5_bytesOf_26 (by decide) ?_
      exact hs_iret hx hb hr hlocks rfl hK hP hS hf dX5_bytesOf_27
  · replace hf := hs_t hf hc
    refine lv_iload_n hx hb dX5_bytesOf_13 rfl (lv_at hl 0 rfl) ?_
    obtain ⟨r19, g18, h20, hf⟩ := hs_bd_some hf
    refine hs_calli (va_runS (As := [.int r3]) (rest := []) ⟨hx, hb, hml, hown, hts⟩ (ctX4_sizeOf l B D E r3 g5 _ h20) (va_cwS 1 hts (hs_gS (fun _ h => List.mem_cons_of_mem _ h) wq532 wq257 wq258 wq259) rfl rfl rfl (by decide +kernel) ⟨Nat.le_of_ble_eq_true rfl, Nat.le_of_ble_eq_true rfl⟩) (hs_pre hP hK) rfl rfl hl.1 rfl (lv_room (Nat.le_of_ble_eq_true rfl)) dX5_bytesOf_14 ⟨(Nat.le_of_ble_eq_true rfl), (Nat.le_of_ble_eq_true rfl)⟩) hS (fun H locs hP hS => ?_)
    exact hs_iret hx hb hr hlocks rfl hK hP hS hf dX5_bytesOf_17

theorem dX5_placeAll_0 : decode cX5_placeAll 0 = .ok (.iconst 0, 1) := by decide +kernel
theorem dX5_placeAll_1 : decode cX5_placeAll 1 = .ok (.istore_n 2, 1) := by decide +kernel
theorem dX5_placeAll_2 : decode cX5_placeAll 2 = .ok (.iconst 0, 1) := by decide +kernel
theorem dX5_placeAll_3 : decode cX5_placeAll 3 = .ok (.istore_n 3, 1) := by decide +kernel
theorem dX5_placeAll_4 : decode cX5_placeAll 4 = .ok (.iload_n 3, 1) := by decide +kernel
theorem dX5_placeAll_5 : decode cX5_placeAll 5 = .ok (.aload_n 1, 1) := by decide +kernel
theorem dX5_placeAll_6 : decode cX5_placeAll 6 = .ok (.getfield 42, 3) := by decide +kernel
theorem dX5_placeAll_9 : decode cX5_placeAll 9 = .ok (.if_icmp .ge 42, 3) := by decide +kernel
theorem dX5_placeAll_12 : decode cX5_placeAll 12 = .ok (.aload_n 1, 1) := by decide +kernel
theorem dX5_placeAll_13 : decode cX5_placeAll 13 = .ok (.iload_n 3, 1) := by decide +kernel
theorem dX5_placeAll_14 : decode cX5_placeAll 14 = .ok (.invokevirtual 72, 3) := by decide +kernel
theorem dX5_placeAll_17 : decode cX5_placeAll 17 = .ok (.ifCond .eq 28, 3) := by decide +kernel
theorem dX5_placeAll_20 : decode cX5_placeAll 20 = .ok (.aload_n 0, 1) := by decide +kernel
theorem dX5_placeAll_21 : decode cX5_placeAll 21 = .ok (.getfield 15, 3) := by decide +kernel
theorem dX5_placeAll_24 : decode cX5_placeAll 24 = .ok (.iload_n 3, 1) := by decide +kernel
theorem dX5_placeAll_25 : decode cX5_placeAll 25 = .ok (.iload_n 2, 1) := by decide +kernel
theorem dX5_placeAll_26 : decode cX5_placeAll 26 = .ok (.invokestatic 91, 3) := by decide +kernel
theorem dX5_placeAll_29 : decode cX5_placeAll 29 = .ok (.iload_n 2, 1) := by decide +kernel
theorem dX5_placeAll_30 : decode cX5_placeAll 30 = .ok (.aload_n 0, 1) := by decide +kernel
theorem dX5_placeAll_31 : decode cX5_placeAll 31 = .ok (.aload_n 1, 1) := by decide +kernel
theorem dX5_placeAll_32 : decode cX5_placeAll 32 = .ok (.iload_n 3, 1) := by decide +kernel
theorem dX5_placeAll_33 : decode cX5_placeAll 33 = .ok (.invokevirtual 97, 3) := by decide +kernel
theorem dX5_placeAll_36 : decode cX5_placeAll 36 = .ok (.aload_n 0, 1) := by decide +kernel
theorem dX5_placeAll_37 : decode cX5_placeAll 37 = .ok (.aload_n 1, 1) := by decide +kernel
theorem dX5_placeAll_38 : decode cX5_placeAll 38 = .ok (.iload_n 3, 1) := by decide +kernel
theorem dX5_placeAll_39 : decode cX5_placeAll 39 = .ok (.invokevirtual 101, 3) := by decide +kernel
theorem dX5_placeAll_42 : decode cX5_placeAll 42 = .ok (.iadd, 1) := by decide +kernel
theorem dX5_placeAll_43 : decode cX5_placeAll 43 = .ok (.iadd, 1) := by decide +kernel
theorem dX5_placeAll_44 : decode cX5_placeAll 44 = .ok (.istore_n 2, 1) := by decide +kernel
theorem dX5_placeAll_45 : decode cX5_placeAll 45 = .ok (.iinc 3 1, 3) := by decide +kernel
theorem dX5_placeAll_48 : decode cX5_placeAll 48 = .ok (.goto (-44), 3) := by decide +kernel
theorem dX5_placeAll_51 : decode cX5_placeAll 51 = .ok (.aload_n 0, 1) := by decide +kernel
theorem dX5_placeAll_52 : decode cX5_placeAll 52 = .ok (.getfield 15, 3) := by decide +kernel
theorem dX5_placeAll_55 : decode cX5_placeAll 55 = .ok (.aload_n 1, 1) := by decide +kernel
theorem dX5_placeAll_56 : decode cX5_placeAll 56 = .ok (.getfield 42, 3) := by decide +kernel
theorem dX5_placeAll_59 : decode cX5_placeAll 59 = .ok (.iload_n 2, 1) := by decide +kernel
theorem dX5_placeAll_60 : decode cX5_placeAll 60 = .ok (.invokestatic 91, 3) := by decide +kernel
theorem dX5_placeAll_63 : decode cX5_placeAll 63 = .ok (.iload_n 2, 1) := by decide +kernel
theorem dX5_placeAll_64 : decode cX5_placeAll 64 = .ok (.ireturn, 1) := by decide +kernel
abbrev wcX5_placeAll : List Cond := .code yX5_placeAll cX5_placeAll 4 (some .int) :: wsL_law
def jX5_placeAll_45 (rec : Int32 → Int32 → hs_S → Option (Int32 × hs_S)) (v0 : Nat) (v1 : Nat) (v2 : Int32) (v3 : Int32) (g : hs_S) : Option (Int32 × hs_S) :=
  rec v2 (v3 + (1 : Int32)) g
def lX5_placeAll_4 : Nat → Nat → Nat → Int32 → Int32 → hs_S → Option (Int32 × hs_S)
  | 0, _, _, _, _, _ => none
  | n + 1, v0, v1, v2, v3, g =>
    if hs_kd g v1 = 6 then
    if (hs_I g v1 3) ≤ v3 then (
      some (v2, g)
    ) else (
      hs_bd (fX7_begins v1 v3 g) fun r3 g2 =>
      if r3 = 0 then (
        jX5_placeAll_45 (fun y0 y1 g => lX5_placeAll_4 n v0 v1 y0 y1 g) v0 v1 v2 v3 g2
      ) else (
        if hs_kd g2 v0 = 4 then
        if ¬ (hs_R g2 v0 1) = 0 then
        hs_bv (fX9_put ((hs_R g2 v0 1) - 1) v3 v2 g2) fun g7 =>
        if hs_kd g7 v0 = 4 then
        hs_bd (fX5_bytesAhead v0 v1 v3 g7) fun r12 g11 =>
        if hs_kd g11 v0 = 4 then
        hs_bd (fX5_bytesOf v0 v1 v3 g11) fun r16 g15 =>
        jX5_placeAll_45 (fun y0 y1 g => lX5_placeAll_4 n v0 v1 y0 y1 g) v0 v1 (v2 + (r12 + r16)) v3 g15
        else none else none else none else none
      )
    )
    else none
theorem lX5_placeAll_4_s (n : Nat) (v0 : Nat) (v1 : Nat) (v2 : Int32) (v3 : Int32) (g : hs_S) : lX5_placeAll_4 (n + 1) v0 v1 v2 v3 g =
    if hs_kd g v1 = 6 then
    if (hs_I g v1 3) ≤ v3 then (
      some (v2, g)
    ) else (
      hs_bd (fX7_begins v1 v3 g) fun r3 g2 =>
      if r3 = 0 then (
        jX5_placeAll_45 (fun y0 y1 g => lX5_placeAll_4 n v0 v1 y0 y1 g) v0 v1 v2 v3 g2
      ) else (
        if hs_kd g2 v0 = 4 then
        if ¬ (hs_R g2 v0 1) = 0 then
        hs_bv (fX9_put ((hs_R g2 v0 1) - 1) v3 v2 g2) fun g7 =>
        if hs_kd g7 v0 = 4 then
        hs_bd (fX5_bytesAhead v0 v1 v3 g7) fun r12 g11 =>
        if hs_kd g11 v0 = 4 then
        hs_bd (fX5_bytesOf v0 v1 v3 g11) fun r16 g15 =>
        jX5_placeAll_45 (fun y0 y1 g => lX5_placeAll_4 n v0 v1 y0 y1 g) v0 v1 (v2 + (r12 + r16)) v3 g15
        else none else none else none else none
      )
    )
    else none := rfl
def fX5_placeAll (v0 : Nat) (v1 : Nat) (g : hs_S) : Option (Int32 × hs_S) :=
  hs_bd (lX5_placeAll_4 hs_N v0 v1 (0 : Int32) (0 : Int32) g) fun x18 g20 =>
  if hs_kd g20 v0 = 4 then
  if ¬ (hs_R g20 v0 1) = 0 then
  if hs_kd g20 v1 = 6 then
  hs_bv (fX9_put ((hs_R g20 v0 1) - 1) (hs_I g20 v1 3) x18 g20) fun g25 =>
  some (x18, g25)
  else none else none else none
abbrev rmX5_placeAll : Room := { frames := 4, cells := 0, slots := 0, locals := 86 }
set_option maxHeartbeats 4000000 in
set_option maxRecDepth 100000 in
theorem wX5_placeAll_j45 {p : Program} {l : Launch} {e : Env} {s : State} {m : MethodId} {args : Array Value} {below : List Frame} {meth : Method} {c : Code} {B : Nat} {D : va_G} {E : Nat → ClassId} (hX : hs_cx cX5_placeAll (some .int) 4 RX5 wcX5_placeAll p s m args meth c D E) {Q : State → Prop} {o : Int32 × hs_S} {rec : Int32 → Int32 → hs_S → Option (Int32 × hs_S)} {v0 : Nat} {v1 : Nat} {v2 : Int32} {v3 : Int32}  (hrec : ∀ (y0 : Int32) (y1 : Int32) (g : hs_S) (H : Heap) (locs : List Loc) (ls : Array Slot), rec y0 y1 g = some o → hs_P B D E g H → hs_Sx B s.heap H locs → lv_has ls 4 [(0, .ref (B + v0)), (1, .ref (B + v1)), (2, .int y0), (3, .int y1)] → W p l e rmX5_placeAll s m args below meth c H locs 0 0 Q (F0 m 4 ls [])) (hex0 : ∀ (H : Heap) (locs : List Loc) (ls : Array Slot), hs_P B D E (o.2) H → hs_Sx B s.heap H locs → lv_has ls 4 [(0, .ref (B + v0)), (1, .ref (B + v1)), (2, .int (o.1))] → W p l e rmX5_placeAll s m args below meth c H locs 0 0 Q (F0 m 51 ls [])) {g : hs_S} {H : Heap} {locs : List Loc} {ls : Array Slot} (hf : jX5_placeAll_45 rec v0 v1 v2 v3 g = some o) (hP : hs_P B D E g H) (hS : hs_Sx B s.heap H locs) (hl : lv_has ls 4 [(0, .ref (B + v0)), (1, .ref (B + v1)), (2, .int v2), (3, .int v3)]) : W p l e rmX5_placeAll s m args below meth c H locs 0 0 Q (F0 m 45 ls []) := by
  obtain ⟨hx, hb, hr, hml, hown, hts, hlocks, hK⟩ := id hX
  unfold jX5_placeAll_45 at hf
  refine lv_iinc (v := (v3 + (1 : Int32))) (lv' := [(3, .int (v3 + (1 : Int32))), (0, .ref (B + v0)), (1, .ref (B + v1)), (2, .int v2)]) hx hb dX5_placeAll_45 hl (k := 3) rfl (by rfl) (by decide) rfl (fun ls hl => ?_)
  refine lv_goto (tgt := 4) hx hb dX5_placeAll_48 (by decide) ?_
  exact hrec _ _ _ _ _ _ hf hP hS (lv_sub hl [1, 2, 3, 0] rfl)

set_option maxHeartbeats 4000000 in
set_option maxRecDepth 100000 in
theorem wX5_placeAll_4 {p : Program} {l : Launch} {e : Env} {s : State} {m : MethodId} {args : Array Value} {below : List Frame} {meth : Method} {c : Code} {B : Nat} {D : va_G} {E : Nat → ClassId} (hX : hs_cx cX5_placeAll (some .int) 4 RX5 wcX5_placeAll p s m args meth c D E) {Q : State → Prop} {o : Int32 × hs_S} {v0 : Nat} {v1 : Nat} (hex0 : ∀ (H : Heap) (locs : List Loc) (ls : Array Slot), hs_P B D E (o.2) H → hs_Sx B s.heap H locs → lv_has ls 4 [(0, .ref (B + v0)), (1, .ref (B + v1)), (2, .int (o.1))] → W p l e rmX5_placeAll s m args below meth c H locs 0 0 Q (F0 m 51 ls [])) : ∀ (n : Nat) (v2 : Int32) (v3 : Int32) (g : hs_S), lX5_placeAll_4 n v0 v1 v2 v3 g = some o → ∀ (H : Heap) (locs : List Loc) (ls : Array Slot), hs_P B D E g H → hs_Sx B s.heap H locs → lv_has ls 4 [(0, .ref (B + v0)), (1, .ref (B + v1)), (2, .int v2), (3, .int v3)] → W p l e rmX5_placeAll s m args below meth c H locs 0 0 Q (F0 m 4 ls []) := by
  obtain ⟨hx, hb, hr, hml, hown, hts, hlocks, hK⟩ := id hX
  intro n
  induction n with
  | zero =>
    intro v2 v3 g hf
    cases hf
  | succ n ih =>
    intro v2 v3 g hf H locs ls hP hS hl
    replace hf := (lX5_placeAll_4_s n v0 v1 v2 v3 g).symm.trans hf
    refine lv_iload_n hx hb dX5_placeAll_4 rfl (lv_at hl 3 rfl) ?_
    refine lv_aload_n hx hb dX5_placeAll_5 rfl (lv_at hl 1 rfl) ?_
    obtain ⟨h1, hf⟩ := hs_ck hf
    refine hs_geti (C := RX7) (T := TX7) (N := 11) hx hb hts (fun w h => List.mem_cons_of_mem _ (inlX7 w h)) hown hK.1 hP h1 (by decide) rfl 3 (by decide) (hts _ (List.mem_cons_of_mem _ wq494)) (fun _ h => h) rfl dX5_placeAll_6 ?_
    refine lv_icmp_ge (tgt := 51) hx hb dX5_placeAll_9 (by decide) (fun hc => ?_) (fun hc => ?_)
    · replace hf := hs_t hf hc
      obtain rfl := Option.some.inj hf
      exact hex0 _ _ _ hP hS (lv_sub hl [0, 1, 2] rfl)
    · replace hf := hs_f hf hc
      refine lv_aload_n hx hb dX5_placeAll_12 rfl (lv_at hl 1 rfl) ?_
      refine lv_iload_n hx hb dX5_placeAll_13 rfl (lv_at hl 3 rfl) ?_
      obtain ⟨r3, g2, h4, hf⟩ := hs_bd_some hf
      refine hs_calli (va_runV (As := [.int v3]) (rest := []) ⟨hx, hb, hml, hown, hts⟩ (ctX7_begins l B D E v1 v3 g _ h4) (cwV 1 hts (hs_gV (fun _ h => List.mem_cons_of_mem _ h) wq512 wq289 wq290 wq43 wq291) rfl rfl rfl (by decide +kernel) ⟨Nat.le_of_ble_eq_true rfl, Nat.le_of_ble_eq_true rfl⟩) (hs_preV (r := (RX7, TX7, 11)) hP hK h1 (by decide) rfl) rfl rfl hl.1 rfl (lv_room (Nat.le_of_ble_eq_true rfl)) dX5_placeAll_14 ⟨(Nat.le_of_ble_eq_true rfl), (Nat.le_of_ble_eq_true rfl)⟩) hS (fun H locs hP hS => ?_)
      refine lv_if_eq (tgt := 45) hx hb dX5_placeAll_17 (by decide) (fun hc => ?_) (fun hc => ?_)
      · replace hf := hs_t hf hc
        exact wX5_placeAll_j45 hX (fun z0 z1 g H locs ls hf hP hS hl => ih z0 z1 g hf H locs ls hP hS hl) hex0 hf hP hS (lv_sub hl [0, 1, 2, 3] rfl)
      · replace hf := hs_f hf hc
        refine lv_aload_n hx hb dX5_placeAll_20 rfl (lv_at hl 0 rfl) ?_
        obtain ⟨h5, hf⟩ := hs_ck hf
        obtain ⟨h6, hf⟩ := hs_ck hf
        refine hs_getr (C := RX5) (T := TX5) (N := 5) hx hb hts (fun w h => List.mem_cons_of_mem _ (inlX5 w h)) hown hK.1 hP h5 (by decide) rfl 1 (by decide) (hts _ (List.mem_cons_of_mem _ wq86)) (fun _ h => h) rfl h6 dX5_placeAll_21 ?_
        refine lv_iload_n hx hb dX5_placeAll_24 rfl (lv_at hl 3 rfl) ?_
        refine lv_iload_n hx hb dX5_placeAll_25 rfl (lv_at hl 2 rfl) ?_
        obtain ⟨g7, h9, hf⟩ := hs_bv_some hf
        refine hs_callv (va_runS (As := [.ref (B + ((hs_R g2 v0 1) - 1)), .int v3, .int v2]) (rest := []) ⟨hx, hb, hml, hown, hts⟩ (ctX9_put l B D E ((hs_R g2 v0 1) - 1) v3 v2 g2 _ h9) (va_cwS 3 hts (hs_gS (fun _ h => List.mem_cons_of_mem _ h) wq507 wq67 wq68 wq69) rfl rfl rfl (by decide +kernel) ⟨Nat.le_of_ble_eq_true rfl, Nat.le_of_ble_eq_true rfl⟩) (hs_pre hP hK) rfl rfl hl.1 rfl (lv_room (Nat.le_of_ble_eq_true rfl)) dX5_placeAll_26 ⟨(Nat.le_of_ble_eq_true rfl), (Nat.le_of_ble_eq_true rfl)⟩) hS (fun H locs hP hS => ?_)
        refine lv_iload_n hx hb dX5_placeAll_29 rfl (lv_at hl 2 rfl) ?_
        refine lv_aload_n hx hb dX5_placeAll_30 rfl (lv_at hl 0 rfl) ?_
        refine lv_aload_n hx hb dX5_placeAll_31 rfl (lv_at hl 1 rfl) ?_
        refine lv_iload_n hx hb dX5_placeAll_32 rfl (lv_at hl 3 rfl) ?_
        obtain ⟨h10, hf⟩ := hs_ck hf
        obtain ⟨r12, g11, h13, hf⟩ := hs_bd_some hf
        refine hs_calli (va_runV (As := [.ref (B + v1), .int v3]) (rest := [.int v2]) ⟨hx, hb, hml, hown, hts⟩ (ctX5_bytesAhead l B D E v0 v1 v3 g7 _ h13) (cwV 2 hts (hs_gV (fun _ h => List.mem_cons_of_mem _ h) wq513 wq514 wq515 wq30 wq516) rfl rfl rfl (by decide +kernel) ⟨Nat.le_of_ble_eq_true rfl, Nat.le_of_ble_eq_true rfl⟩) (hs_preV (r := (RX5, TX5, 5)) hP hK h10 (by decide) rfl) rfl rfl hl.1 rfl (lv_room (Nat.le_of_ble_eq_true rfl)) dX5_placeAll_33 ⟨(Nat.le_of_ble_eq_true rfl), (Nat.le_of_ble_eq_true rfl)⟩) hS (fun H locs hP hS => ?_)
        refine lv_aload_n hx hb dX5_placeAll_36 rfl (lv_at hl 0 rfl) ?_
        refine lv_aload_n hx hb dX5_placeAll_37 rfl (lv_at hl 1 rfl) ?_
        refine lv_iload_n hx hb dX5_placeAll_38 rfl (lv_at hl 3 rfl) ?_
        obtain ⟨h14, hf⟩ := hs_ck hf
        obtain ⟨r16, g15, h17, hf⟩ := hs_bd_some hf
        refine hs_calli (va_runV (As := [.ref (B + v1), .int v3]) (rest := [.int r12, .int v2]) ⟨hx, hb, hml, hown, hts⟩ (ctX5_bytesOf l B D E v0 v1 v3 g11 _ h17) (cwV 2 hts (hs_gV (fun _ h => List.mem_cons_of_mem _ h) wq527 wq528 wq529 wq30 wq530) rfl rfl rfl (by decide +kernel) ⟨Nat.le_of_ble_eq_true rfl, Nat.le_of_ble_eq_true rfl⟩) (hs_preV (r := (RX5, TX5, 5)) hP hK h14 (by decide) rfl) rfl rfl hl.1 rfl (lv_room (Nat.le_of_ble_eq_true rfl)) dX5_placeAll_39 ⟨(Nat.le_of_ble_eq_true rfl), (Nat.le_of_ble_eq_true rfl)⟩) hS (fun H locs hP hS => ?_)
        refine lv_iadd hx hb dX5_placeAll_42 ?_
        refine lv_iadd hx hb dX5_placeAll_43 ?_
        refine lv_istore_n (lv' := [(2, .int (v2 + (r12 + r16))), (0, .ref (B + v0)), (1, .ref (B + v1)), (3, .int v3)]) hx hb dX5_placeAll_44 rfl hl (by decide) rfl (fun ls hl => ?_)
        exact wX5_placeAll_j45 hX (fun z0 z1 g H locs ls hf hP hS hl => ih z0 z1 g hf H locs ls hP hS hl) hex0 hf hP hS (lv_sub hl [1, 2, 0, 3] rfl)

set_option maxHeartbeats 4000000 in
set_option maxRecDepth 100000 in
theorem ctX5_placeAll (l : Launch) (B : Nat) (D : va_G) (E : Nat → ClassId) (v0 : Nat) (v1 : Nat) (g : hs_S) (o : Int32 × hs_S) (hf : fX5_placeAll v0 v1 g = some o) : Met l yX5_placeAll wcX5_placeAll rmX5_placeAll (hs_Pc B D E g [.ref (B + v0), .ref (B + v1)]) (hs_Qi B D E o) (0) (0) (hs_F B) := by
  refine Met.ofW (cc := cX5_placeAll) (maxL := 4) (ret := (some .int)) (by decide) rfl ?_
  intro p e s m args below meth c s₁ Bd hml hv
  obtain ⟨rfl, hP, hK⟩ := hv
  have hx := Bd.exec
  have hb := Bd.bytes
  have hr := Bd.returns
  have hts := atoms_spec (ws := wcX5_placeAll) Bd.pre
  have hown : s.vm.findClass RX5 = some m.cls := findClass_of_methodNamed Bd.named
  have hlocks := Bd.notSynchronized
  have hS : hs_Sx B s.heap s.heap [] := va_S.rf
  have hX : hs_cx cX5_placeAll (some .int) 4 RX5 wcX5_placeAll p s m (List.toArray [.ref (B + v0), .ref (B + v1)]) meth c D E := ⟨hx, hb, hr, hml, hown, hts, hlocks, hK⟩
  have hl := lv_entry ([.ref (B + v0), .ref (B + v1)]) (n := 4) (Nat.le_of_ble_eq_true rfl)
  rw [lg_entry_eq]
  generalize (lg_sl ([.ref (B + v0), .ref (B + v1)]) ++ List.replicate (4 - (lg_sl ([.ref (B + v0), .ref (B + v1)])).length) Slot.unset).toArray = ls at hl ⊢
  have hl : lv_has ls 4 [(0, .ref (B + v0)), (1, .ref (B + v1))] := hl
  have hP : hs_P B D E g s.heap := hP
  unfold fX5_placeAll at hf
  refine lv_iconst (v := 0) hx hb dX5_placeAll_0 (by decide) ?_
  refine lv_istore_n (lv' := [(2, .int (0 : Int32)), (0, .ref (B + v0)), (1, .ref (B + v1))]) hx hb dX5_placeAll_1 rfl hl (by decide) rfl (fun ls hl => ?_)
  refine lv_iconst (v := 0) hx hb dX5_placeAll_2 (by decide) ?_
  refine lv_istore_n (lv' := [(3, .int (0 : Int32)), (2, .int (0 : Int32)), (0, .ref (B + v0)), (1, .ref (B + v1))]) hx hb dX5_placeAll_3 rfl hl (by decide) rfl (fun ls hl => ?_)
  obtain ⟨x18, g20, h21, hf⟩ := hs_bd_some hf
  refine wX5_placeAll_4 hX (fun H locs ls hP hS hl => ?_) hs_N _ _ _ h21 _ _ _ hP hS (lv_sub hl [2, 3, 1, 0] rfl)
  refine lv_aload_n hx hb dX5_placeAll_51 rfl (lv_at hl 0 rfl) ?_
  obtain ⟨h22, hf⟩ := hs_ck hf
  obtain ⟨h23, hf⟩ := hs_ck hf
  refine hs_getr (C := RX5) (T := TX5) (N := 5) hx hb hts (fun w h => List.mem_cons_of_mem _ (inlX5 w h)) hown hK.1 hP h22 (by decide) rfl 1 (by decide) (hts _ (List.mem_cons_of_mem _ wq86)) (fun _ h => h) rfl h23 dX5_placeAll_52 ?_
  refine lv_aload_n hx hb dX5_placeAll_55 rfl (lv_at hl 1 rfl) ?_
  obtain ⟨h24, hf⟩ := hs_ck hf
  refine hs_geti (C := RX7) (T := TX7) (N := 11) hx hb hts (fun w h => List.mem_cons_of_mem _ (inlX7 w h)) hown hK.1 hP h24 (by decide) rfl 3 (by decide) (hts _ (List.mem_cons_of_mem _ wq494)) (fun _ h => h) rfl dX5_placeAll_56 ?_
  refine lv_iload_n hx hb dX5_placeAll_59 rfl (lv_at hl 2 rfl) ?_
  obtain ⟨g25, h27, hf⟩ := hs_bv_some hf
  refine hs_callv (va_runS (As := [.ref (B + ((hs_R g20 v0 1) - 1)), .int (hs_I g20 v1 3), .int x18]) (rest := []) ⟨hx, hb, hml, hown, hts⟩ (ctX9_put l B D E ((hs_R g20 v0 1) - 1) (hs_I g20 v1 3) x18 g20 _ h27) (va_cwS 3 hts (hs_gS (fun _ h => List.mem_cons_of_mem _ h) wq507 wq67 wq68 wq69) rfl rfl rfl (by decide +kernel) ⟨Nat.le_of_ble_eq_true rfl, Nat.le_of_ble_eq_true rfl⟩) (hs_pre hP hK) rfl rfl hl.1 rfl (lv_room (Nat.le_of_ble_eq_true rfl)) dX5_placeAll_60 ⟨(Nat.le_of_ble_eq_true rfl), (Nat.le_of_ble_eq_true rfl)⟩) hS (fun H locs hP hS => ?_)
  refine lv_iload_n hx hb dX5_placeAll_63 rfl (lv_at hl 2 rfl) ?_
  exact hs_iret hx hb hr hlocks rfl hK hP hS hf dX5_placeAll_64

theorem dX5_wayOf_0 : decode cX5_wayOf 0 = .ok (.aload_n 0, 1) := by decide +kernel
theorem dX5_wayOf_1 : decode cX5_wayOf 1 = .ok (.getfield 15, 3) := by decide +kernel
theorem dX5_wayOf_4 : decode cX5_wayOf 4 = .ok (.iload_n 2, 1) := by decide +kernel
theorem dX5_wayOf_5 : decode cX5_wayOf 5 = .ok (.invokestatic 113, 3) := by decide +kernel
theorem dX5_wayOf_8 : decode cX5_wayOf 8 = .ok (.aload_n 0, 1) := by decide +kernel
theorem dX5_wayOf_9 : decode cX5_wayOf 9 = .ok (.iload_n 2, 1) := by decide +kernel
theorem dX5_wayOf_10 : decode cX5_wayOf 10 = .ok (.invokevirtual 123, 3) := by decide +kernel
theorem dX5_wayOf_13 : decode cX5_wayOf 13 = .ok (.iadd, 1) := by decide +kernel
theorem dX5_wayOf_14 : decode cX5_wayOf 14 = .ok (.istore_n 3, 1) := by decide +kernel
theorem dX5_wayOf_15 : decode cX5_wayOf 15 = .ok (.aload_n 0, 1) := by decide +kernel
theorem dX5_wayOf_16 : decode cX5_wayOf 16 = .ok (.getfield 15, 3) := by decide +kernel
theorem dX5_wayOf_19 : decode cX5_wayOf 19 = .ok (.aload_n 1, 1) := by decide +kernel
theorem dX5_wayOf_20 : decode cX5_wayOf 20 = .ok (.iload_n 2, 1) := by decide +kernel
theorem dX5_wayOf_21 : decode cX5_wayOf 21 = .ok (.invokevirtual 139, 3) := by decide +kernel
theorem dX5_wayOf_24 : decode cX5_wayOf 24 = .ok (.invokestatic 113, 3) := by decide +kernel
theorem dX5_wayOf_27 : decode cX5_wayOf 27 = .ok (.iload_n 3, 1) := by decide +kernel
theorem dX5_wayOf_28 : decode cX5_wayOf 28 = .ok (.isub, 1) := by decide +kernel
theorem dX5_wayOf_29 : decode cX5_wayOf 29 = .ok (.ireturn, 1) := by decide +kernel
abbrev wcX5_wayOf : List Cond := .code yX5_wayOf cX5_wayOf 4 (some .int) :: wsL_law
def fX5_wayOf (v0 : Nat) (v1 : Nat) (v2 : Int32) (g : hs_S) : Option (Int32 × hs_S) :=
  if hs_kd g v0 = 4 then
  if ¬ (hs_R g v0 1) = 0 then
  hs_bd (fX9_at ((hs_R g v0 1) - 1) v2 g) fun r4 g3 =>
  if hs_kd g3 v0 = 4 then
  hs_bd (fX5_sumBytes v0 v2 g3) fun r8 g7 =>
  if hs_kd g7 v0 = 4 then
  if ¬ (hs_R g7 v0 1) = 0 then
  if hs_kd g7 v1 = 6 then
  hs_bd (fX7_targetOf v1 v2 g7) fun r14 g13 =>
  hs_bd (fX9_at ((hs_R g7 v0 1) - 1) r14 g13) fun r17 g16 =>
  some ((r17 - (r4 + r8)), g16)
  else none else none else none else none else none else none
abbrev rmX5_wayOf : Room := { frames := 3, cells := 0, slots := 0, locals := 64 }
set_option maxHeartbeats 4000000 in
set_option maxRecDepth 100000 in
theorem ctX5_wayOf (l : Launch) (B : Nat) (D : va_G) (E : Nat → ClassId) (v0 : Nat) (v1 : Nat) (v2 : Int32) (g : hs_S) (o : Int32 × hs_S) (hf : fX5_wayOf v0 v1 v2 g = some o) : Met l yX5_wayOf wcX5_wayOf rmX5_wayOf (hs_Pc B D E g [.ref (B + v0), .ref (B + v1), .int v2]) (hs_Qi B D E o) (0) (0) (hs_F B) := by
  refine Met.ofW (cc := cX5_wayOf) (maxL := 4) (ret := (some .int)) (by decide) rfl ?_
  intro p e s m args below meth c s₁ Bd hml hv
  obtain ⟨rfl, hP, hK⟩ := hv
  have hx := Bd.exec
  have hb := Bd.bytes
  have hr := Bd.returns
  have hts := atoms_spec (ws := wcX5_wayOf) Bd.pre
  have hown : s.vm.findClass RX5 = some m.cls := findClass_of_methodNamed Bd.named
  have hlocks := Bd.notSynchronized
  have hS : hs_Sx B s.heap s.heap [] := va_S.rf
  have hX : hs_cx cX5_wayOf (some .int) 4 RX5 wcX5_wayOf p s m (List.toArray [.ref (B + v0), .ref (B + v1), .int v2]) meth c D E := ⟨hx, hb, hr, hml, hown, hts, hlocks, hK⟩
  have hl := lv_entry ([.ref (B + v0), .ref (B + v1), .int v2]) (n := 4) (Nat.le_of_ble_eq_true rfl)
  rw [lg_entry_eq]
  generalize (lg_sl ([.ref (B + v0), .ref (B + v1), .int v2]) ++ List.replicate (4 - (lg_sl ([.ref (B + v0), .ref (B + v1), .int v2])).length) Slot.unset).toArray = ls at hl ⊢
  have hl : lv_has ls 4 [(0, .ref (B + v0)), (1, .ref (B + v1)), (2, .int v2)] := hl
  have hP : hs_P B D E g s.heap := hP
  unfold fX5_wayOf at hf
  refine lv_aload_n hx hb dX5_wayOf_0 rfl (lv_at hl 0 rfl) ?_
  obtain ⟨h1, hf⟩ := hs_ck hf
  obtain ⟨h2, hf⟩ := hs_ck hf
  refine hs_getr (C := RX5) (T := TX5) (N := 5) hx hb hts (fun w h => List.mem_cons_of_mem _ (inlX5 w h)) hown hK.1 hP h1 (by decide) rfl 1 (by decide) (hts _ (List.mem_cons_of_mem _ wq86)) (fun _ h => h) rfl h2 dX5_wayOf_1 ?_
  refine lv_iload_n hx hb dX5_wayOf_4 rfl (lv_at hl 2 rfl) ?_
  obtain ⟨r4, g3, h5, hf⟩ := hs_bd_some hf
  refine hs_calli (va_runS (As := [.ref (B + ((hs_R g v0 1) - 1)), .int v2]) (rest := []) ⟨hx, hb, hml, hown, hts⟩ (ctX9_at l B D E ((hs_R g v0 1) - 1) v2 g _ h5) (va_cwS 2 hts (hs_gS (fun _ h => List.mem_cons_of_mem _ h) wq521 wq193 wq68 wq194) rfl rfl rfl (by decide +kernel) ⟨Nat.le_of_ble_eq_true rfl, Nat.le_of_ble_eq_true rfl⟩) (hs_pre hP hK) rfl rfl hl.1 rfl (lv_room (Nat.le_of_ble_eq_true rfl)) dX5_wayOf_5 ⟨(Nat.le_of_ble_eq_true rfl), (Nat.le_of_ble_eq_true rfl)⟩) hS (fun H locs hP hS => ?_)
  refine lv_aload_n hx hb dX5_wayOf_8 rfl (lv_at hl 0 rfl) ?_
  refine lv_iload_n hx hb dX5_wayOf_9 rfl (lv_at hl 2 rfl) ?_
  obtain ⟨h6, hf⟩ := hs_ck hf
  obtain ⟨r8, g7, h9, hf⟩ := hs_bd_some hf
  refine hs_calli (va_runV (As := [.int v2]) (rest := [.int r4]) ⟨hx, hb, hml, hown, hts⟩ (ctX5_sumBytes l B D E v0 v2 g3 _ h9) (cwV 1 hts (hs_gV (fun _ h => List.mem_cons_of_mem _ h) wq517 wq518 wq519 wq30 wq520) rfl rfl rfl (by decide +kernel) ⟨Nat.le_of_ble_eq_true rfl, Nat.le_of_ble_eq_true rfl⟩) (hs_preV (r := (RX5, TX5, 5)) hP hK h6 (by decide) rfl) rfl rfl hl.1 rfl (lv_room (Nat.le_of_ble_eq_true rfl)) dX5_wayOf_10 ⟨(Nat.le_of_ble_eq_true rfl), (Nat.le_of_ble_eq_true rfl)⟩) hS (fun H locs hP hS => ?_)
  refine lv_iadd hx hb dX5_wayOf_13 ?_
  refine lv_istore_n (lv' := [(3, .int (r4 + r8)), (0, .ref (B + v0)), (1, .ref (B + v1)), (2, .int v2)]) hx hb dX5_wayOf_14 rfl hl (by decide) rfl (fun ls hl => ?_)
  refine lv_aload_n hx hb dX5_wayOf_15 rfl (lv_at hl 1 rfl) ?_
  obtain ⟨h10, hf⟩ := hs_ck hf
  obtain ⟨h11, hf⟩ := hs_ck hf
  refine hs_getr (C := RX5) (T := TX5) (N := 5) hx hb hts (fun w h => List.mem_cons_of_mem _ (inlX5 w h)) hown hK.1 hP h10 (by decide) rfl 1 (by decide) (hts _ (List.mem_cons_of_mem _ wq86)) (fun _ h => h) rfl h11 dX5_wayOf_16 ?_
  refine lv_aload_n hx hb dX5_wayOf_19 rfl (lv_at hl 2 rfl) ?_
  refine lv_iload_n hx hb dX5_wayOf_20 rfl (lv_at hl 3 rfl) ?_
  obtain ⟨h12, hf⟩ := hs_ck hf
  obtain ⟨r14, g13, h15, hf⟩ := hs_bd_some hf
  refine hs_calli (va_runV (As := [.int v2]) (rest := [.ref (B + ((hs_R g7 v0 1) - 1))]) ⟨hx, hb, hml, hown, hts⟩ (ctX7_targetOf l B D E v1 v2 g7 _ h15) (cwV 1 hts (hs_gV (fun _ h => List.mem_cons_of_mem _ h) wq547 wq310 wq311 wq43 wq312) rfl rfl rfl (by decide +kernel) ⟨Nat.le_of_ble_eq_true rfl, Nat.le_of_ble_eq_true rfl⟩) (hs_preV (r := (RX7, TX7, 11)) hP hK h12 (by decide) rfl) rfl rfl hl.1 rfl (lv_room (Nat.le_of_ble_eq_true rfl)) dX5_wayOf_21 ⟨(Nat.le_of_ble_eq_true rfl), (Nat.le_of_ble_eq_true rfl)⟩) hS (fun H locs hP hS => ?_)
  obtain ⟨r17, g16, h18, hf⟩ := hs_bd_some hf
  refine hs_calli (va_runS (As := [.ref (B + ((hs_R g7 v0 1) - 1)), .int r14]) (rest := []) ⟨hx, hb, hml, hown, hts⟩ (ctX9_at l B D E ((hs_R g7 v0 1) - 1) r14 g13 _ h18) (va_cwS 2 hts (hs_gS (fun _ h => List.mem_cons_of_mem _ h) wq521 wq193 wq68 wq194) rfl rfl rfl (by decide +kernel) ⟨Nat.le_of_ble_eq_true rfl, Nat.le_of_ble_eq_true rfl⟩) (hs_pre hP hK) rfl rfl hl.1 rfl (lv_room (Nat.le_of_ble_eq_true rfl)) dX5_wayOf_24 ⟨(Nat.le_of_ble_eq_true rfl), (Nat.le_of_ble_eq_true rfl)⟩) hS (fun H locs hP hS => ?_)
  refine lv_iload_n hx hb dX5_wayOf_27 rfl (lv_at hl 0 rfl) ?_
  refine lv_isub hx hb dX5_wayOf_28 ?_
  exact hs_iret hx hb hr hlocks rfl hK hP hS hf dX5_wayOf_29

theorem dX5_lengthen_0 : decode cX5_lengthen 0 = .ok (.iconst 0, 1) := by decide +kernel
theorem dX5_lengthen_1 : decode cX5_lengthen 1 = .ok (.istore_n 2, 1) := by decide +kernel
theorem dX5_lengthen_2 : decode cX5_lengthen 2 = .ok (.iconst 0, 1) := by decide +kernel
theorem dX5_lengthen_3 : decode cX5_lengthen 3 = .ok (.istore_n 3, 1) := by decide +kernel
theorem dX5_lengthen_4 : decode cX5_lengthen 4 = .ok (.iload_n 3, 1) := by decide +kernel
theorem dX5_lengthen_5 : decode cX5_lengthen 5 = .ok (.aload_n 1, 1) := by decide +kernel
theorem dX5_lengthen_6 : decode cX5_lengthen 6 = .ok (.getfield 42, 3) := by decide +kernel
theorem dX5_lengthen_9 : decode cX5_lengthen 9 = .ok (.if_icmp .ge 68, 3) := by decide +kernel
theorem dX5_lengthen_12 : decode cX5_lengthen 12 = .ok (.aload_n 1, 1) := by decide +kernel
theorem dX5_lengthen_13 : decode cX5_lengthen 13 = .ok (.iload_n 3, 1) := by decide +kernel
theorem dX5_lengthen_14 : decode cX5_lengthen 14 = .ok (.invokevirtual 104, 3) := by decide +kernel
theorem dX5_lengthen_17 : decode cX5_lengthen 17 = .ok (.ifCond .eq 54, 3) := by decide +kernel
theorem dX5_lengthen_20 : decode cX5_lengthen 20 = .ok (.aload_n 0, 1) := by decide +kernel
theorem dX5_lengthen_21 : decode cX5_lengthen 21 = .ok (.aload_n 1, 1) := by decide +kernel
theorem dX5_lengthen_22 : decode cX5_lengthen 22 = .ok (.iload_n 3, 1) := by decide +kernel
theorem dX5_lengthen_23 : decode cX5_lengthen 23 = .ok (.invokevirtual 107, 3) := by decide +kernel
theorem dX5_lengthen_26 : decode cX5_lengthen 26 = .ok (.istore 4, 2) := by decide +kernel
theorem dX5_lengthen_28 : decode cX5_lengthen 28 = .ok (.aload_n 0, 1) := by decide +kernel
theorem dX5_lengthen_29 : decode cX5_lengthen 29 = .ok (.getfield 18, 3) := by decide +kernel
theorem dX5_lengthen_32 : decode cX5_lengthen 32 = .ok (.iload_n 3, 1) := by decide +kernel
theorem dX5_lengthen_33 : decode cX5_lengthen 33 = .ok (.iload 4, 2) := by decide +kernel
theorem dX5_lengthen_35 : decode cX5_lengthen 35 = .ok (.invokestatic 91, 3) := by decide +kernel
theorem dX5_lengthen_38 : decode cX5_lengthen 38 = .ok (.aload_n 0, 1) := by decide +kernel
theorem dX5_lengthen_39 : decode cX5_lengthen 39 = .ok (.iload_n 3, 1) := by decide +kernel
theorem dX5_lengthen_40 : decode cX5_lengthen 40 = .ok (.invokevirtual 110, 3) := by decide +kernel
theorem dX5_lengthen_43 : decode cX5_lengthen 43 = .ok (.ifCond .ne 28, 3) := by decide +kernel
theorem dX5_lengthen_46 : decode cX5_lengthen 46 = .ok (.iload 4, 2) := by decide +kernel
theorem dX5_lengthen_48 : decode cX5_lengthen 48 = .ok (.bipush (-128), 2) := by decide +kernel
theorem dX5_lengthen_50 : decode cX5_lengthen 50 = .ok (.if_icmp .lt 10, 3) := by decide +kernel
theorem dX5_lengthen_53 : decode cX5_lengthen 53 = .ok (.iload 4, 2) := by decide +kernel
theorem dX5_lengthen_55 : decode cX5_lengthen 55 = .ok (.bipush 127, 2) := by decide +kernel
theorem dX5_lengthen_57 : decode cX5_lengthen 57 = .ok (.if_icmp .le 14, 3) := by decide +kernel
theorem dX5_lengthen_60 : decode cX5_lengthen 60 = .ok (.aload_n 0, 1) := by decide +kernel
theorem dX5_lengthen_61 : decode cX5_lengthen 61 = .ok (.getfield 21, 3) := by decide +kernel
theorem dX5_lengthen_64 : decode cX5_lengthen 64 = .ok (.iload_n 3, 1) := by decide +kernel
theorem dX5_lengthen_65 : decode cX5_lengthen 65 = .ok (.iconst 1, 1) := by decide +kernel
theorem dX5_lengthen_66 : decode cX5_lengthen 66 = .ok (.invokestatic 91, 3) := by decide +kernel
theorem dX5_lengthen_69 : decode cX5_lengthen 69 = .ok (.iconst 1, 1) := by decide +kernel
theorem dX5_lengthen_70 : decode cX5_lengthen 70 = .ok (.istore_n 2, 1) := by decide +kernel
theorem dX5_lengthen_71 : decode cX5_lengthen 71 = .ok (.iinc 3 1, 3) := by decide +kernel
theorem dX5_lengthen_74 : decode cX5_lengthen 74 = .ok (.goto (-70), 3) := by decide +kernel
theorem dX5_lengthen_77 : decode cX5_lengthen 77 = .ok (.iload_n 2, 1) := by decide +kernel
theorem dX5_lengthen_78 : decode cX5_lengthen 78 = .ok (.ireturn, 1) := by decide +kernel
abbrev wcX5_lengthen : List Cond := .code yX5_lengthen cX5_lengthen 5 (some .boolean) :: wsL_law
def jX5_lengthen_71 (rec : Int32 → Int32 → hs_S → Option (Int32 × hs_S)) (v0 : Nat) (v1 : Nat) (v2 : Int32) (v3 : Int32) (g : hs_S) : Option (Int32 × hs_S) :=
  rec v2 (v3 + (1 : Int32)) g
def jX5_lengthen_60 (rec : Int32 → Int32 → hs_S → Option (Int32 × hs_S)) (v0 : Nat) (v1 : Nat) (v3 : Int32) (g : hs_S) : Option (Int32 × hs_S) :=
  if hs_kd g v0 = 4 then
  if ¬ (hs_R g v0 3) = 0 then
  hs_bv (fX9_put ((hs_R g v0 3) - 1) v3 (1 : Int32) g) fun g20 =>
  jX5_lengthen_71 rec v0 v1 (1 : Int32) v3 g20
  else none else none
def lX5_lengthen_4 : Nat → Nat → Nat → Int32 → Int32 → hs_S → Option (Int32 × hs_S)
  | 0, _, _, _, _, _ => none
  | n + 1, v0, v1, v2, v3, g =>
    if hs_kd g v1 = 6 then
    if (hs_I g v1 3) ≤ v3 then (
      some (v2, g)
    ) else (
      hs_bd (fX7_jumpsAt v1 v3 g) fun r3 g2 =>
      if r3 = 0 then (
        jX5_lengthen_71 (fun y0 y1 g => lX5_lengthen_4 n v0 v1 y0 y1 g) v0 v1 v2 v3 g2
      ) else (
        if hs_kd g2 v0 = 4 then
        hs_bd (fX5_wayOf v0 v1 v3 g2) fun r7 g6 =>
        if hs_kd g6 v0 = 4 then
        if ¬ (hs_R g6 v0 2) = 0 then
        hs_bv (fX9_put ((hs_R g6 v0 2) - 1) v3 r7 g6) fun g11 =>
        if hs_kd g11 v0 = 4 then
        hs_bd (fX5_isLong v0 v3 g11) fun r16 g15 =>
        if r16 = 0 then (
          if r7 < (-128 : Int32) then (
            jX5_lengthen_60 (fun y0 y1 g => lX5_lengthen_4 n v0 v1 y0 y1 g) v0 v1 v3 g15
          ) else (
            if r7 ≤ (127 : Int32) then (
              jX5_lengthen_71 (fun y0 y1 g => lX5_lengthen_4 n v0 v1 y0 y1 g) v0 v1 v2 v3 g15
            ) else (
              jX5_lengthen_60 (fun y0 y1 g => lX5_lengthen_4 n v0 v1 y0 y1 g) v0 v1 v3 g15
            )
          )
        ) else (
          jX5_lengthen_71 (fun y0 y1 g => lX5_lengthen_4 n v0 v1 y0 y1 g) v0 v1 v2 v3 g15
        )
        else none else none else none else none
      )
    )
    else none
theorem lX5_lengthen_4_s (n : Nat) (v0 : Nat) (v1 : Nat) (v2 : Int32) (v3 : Int32) (g : hs_S) : lX5_lengthen_4 (n + 1) v0 v1 v2 v3 g =
    if hs_kd g v1 = 6 then
    if (hs_I g v1 3) ≤ v3 then (
      some (v2, g)
    ) else (
      hs_bd (fX7_jumpsAt v1 v3 g) fun r3 g2 =>
      if r3 = 0 then (
        jX5_lengthen_71 (fun y0 y1 g => lX5_lengthen_4 n v0 v1 y0 y1 g) v0 v1 v2 v3 g2
      ) else (
        if hs_kd g2 v0 = 4 then
        hs_bd (fX5_wayOf v0 v1 v3 g2) fun r7 g6 =>
        if hs_kd g6 v0 = 4 then
        if ¬ (hs_R g6 v0 2) = 0 then
        hs_bv (fX9_put ((hs_R g6 v0 2) - 1) v3 r7 g6) fun g11 =>
        if hs_kd g11 v0 = 4 then
        hs_bd (fX5_isLong v0 v3 g11) fun r16 g15 =>
        if r16 = 0 then (
          if r7 < (-128 : Int32) then (
            jX5_lengthen_60 (fun y0 y1 g => lX5_lengthen_4 n v0 v1 y0 y1 g) v0 v1 v3 g15
          ) else (
            if r7 ≤ (127 : Int32) then (
              jX5_lengthen_71 (fun y0 y1 g => lX5_lengthen_4 n v0 v1 y0 y1 g) v0 v1 v2 v3 g15
            ) else (
              jX5_lengthen_60 (fun y0 y1 g => lX5_lengthen_4 n v0 v1 y0 y1 g) v0 v1 v3 g15
            )
          )
        ) else (
          jX5_lengthen_71 (fun y0 y1 g => lX5_lengthen_4 n v0 v1 y0 y1 g) v0 v1 v2 v3 g15
        )
        else none else none else none else none
      )
    )
    else none := rfl
def fX5_lengthen (v0 : Nat) (v1 : Nat) (g : hs_S) : Option (Int32 × hs_S) :=
  hs_bd (lX5_lengthen_4 hs_N v0 v1 (0 : Int32) (0 : Int32) g) fun x23 g25 =>
  if hs_01 x23 = true then
  some (x23, g25)
  else none
abbrev rmX5_lengthen : Room := { frames := 4, cells := 0, slots := 0, locals := 87 }
set_option maxHeartbeats 4000000 in
set_option maxRecDepth 100000 in
theorem wX5_lengthen_j71 {p : Program} {l : Launch} {e : Env} {s : State} {m : MethodId} {args : Array Value} {below : List Frame} {meth : Method} {c : Code} {B : Nat} {D : va_G} {E : Nat → ClassId} (hX : hs_cx cX5_lengthen (some .boolean) 5 RX5 wcX5_lengthen p s m args meth c D E) {Q : State → Prop} {o : Int32 × hs_S} {rec : Int32 → Int32 → hs_S → Option (Int32 × hs_S)} {v0 : Nat} {v1 : Nat} {v2 : Int32} {v3 : Int32}  (hrec : ∀ (y0 : Int32) (y1 : Int32) (g : hs_S) (H : Heap) (locs : List Loc) (ls : Array Slot), rec y0 y1 g = some o → hs_P B D E g H → hs_Sx B s.heap H locs → lv_has ls 5 [(0, .ref (B + v0)), (1, .ref (B + v1)), (2, .int y0), (3, .int y1)] → W p l e rmX5_lengthen s m args below meth c H locs 0 0 Q (F0 m 4 ls [])) (hex0 : ∀ (H : Heap) (locs : List Loc) (ls : Array Slot), hs_P B D E (o.2) H → hs_Sx B s.heap H locs → lv_has ls 5 [(2, .int (o.1))] → W p l e rmX5_lengthen s m args below meth c H locs 0 0 Q (F0 m 77 ls [])) {g : hs_S} {H : Heap} {locs : List Loc} {ls : Array Slot} (hf : jX5_lengthen_71 rec v0 v1 v2 v3 g = some o) (hP : hs_P B D E g H) (hS : hs_Sx B s.heap H locs) (hl : lv_has ls 5 [(0, .ref (B + v0)), (1, .ref (B + v1)), (2, .int v2), (3, .int v3)]) : W p l e rmX5_lengthen s m args below meth c H locs 0 0 Q (F0 m 71 ls []) := by
  obtain ⟨hx, hb, hr, hml, hown, hts, hlocks, hK⟩ := id hX
  unfold jX5_lengthen_71 at hf
  refine lv_iinc (v := (v3 + (1 : Int32))) (lv' := [(3, .int (v3 + (1 : Int32))), (0, .ref (B + v0)), (1, .ref (B + v1)), (2, .int v2)]) hx hb dX5_lengthen_71 hl (k := 3) rfl (by rfl) (by decide) rfl (fun ls hl => ?_)
  refine lv_goto (tgt := 4) hx hb dX5_lengthen_74 (by decide) ?_
  exact hrec _ _ _ _ _ _ hf hP hS (lv_sub hl [1, 2, 3, 0] rfl)

set_option maxHeartbeats 4000000 in
set_option maxRecDepth 100000 in
theorem wX5_lengthen_j60 {p : Program} {l : Launch} {e : Env} {s : State} {m : MethodId} {args : Array Value} {below : List Frame} {meth : Method} {c : Code} {B : Nat} {D : va_G} {E : Nat → ClassId} (hX : hs_cx cX5_lengthen (some .boolean) 5 RX5 wcX5_lengthen p s m args meth c D E) {Q : State → Prop} {o : Int32 × hs_S} {rec : Int32 → Int32 → hs_S → Option (Int32 × hs_S)} {v0 : Nat} {v1 : Nat} {v3 : Int32}  (hrec : ∀ (y0 : Int32) (y1 : Int32) (g : hs_S) (H : Heap) (locs : List Loc) (ls : Array Slot), rec y0 y1 g = some o → hs_P B D E g H → hs_Sx B s.heap H locs → lv_has ls 5 [(0, .ref (B + v0)), (1, .ref (B + v1)), (2, .int y0), (3, .int y1)] → W p l e rmX5_lengthen s m args below meth c H locs 0 0 Q (F0 m 4 ls [])) (hex0 : ∀ (H : Heap) (locs : List Loc) (ls : Array Slot), hs_P B D E (o.2) H → hs_Sx B s.heap H locs → lv_has ls 5 [(2, .int (o.1))] → W p l e rmX5_lengthen s m args below meth c H locs 0 0 Q (F0 m 77 ls [])) {g : hs_S} {H : Heap} {locs : List Loc} {ls : Array Slot} (hf : jX5_lengthen_60 rec v0 v1 v3 g = some o) (hP : hs_P B D E g H) (hS : hs_Sx B s.heap H locs) (hl : lv_has ls 5 [(0, .ref (B + v0)), (1, .ref (B + v1)), (3, .int v3)]) : W p l e rmX5_lengthen s m args below meth c H locs 0 0 Q (F0 m 60 ls []) := by
  obtain ⟨hx, hb, hr, hml, hown, hts, hlocks, hK⟩ := id hX
  unfold jX5_lengthen_60 at hf
  refine lv_aload_n hx hb dX5_lengthen_60 rfl (lv_at hl 0 rfl) ?_
  obtain ⟨h18, hf⟩ := hs_ck hf
  obtain ⟨h19, hf⟩ := hs_ck hf
  refine hs_getr (C := RX5) (T := TX5) (N := 5) hx hb hts (fun w h => List.mem_cons_of_mem _ (inlX5 w h)) hown hK.1 hP h18 (by decide) rfl 3 (by decide) (hts _ (List.mem_cons_of_mem _ wq88)) (fun _ h => h) rfl h19 dX5_lengthen_61 ?_
  refine lv_iload_n hx hb dX5_lengthen_64 rfl (lv_at hl 2 rfl) ?_
  refine lv_iconst (v := 1) hx hb dX5_lengthen_65 (by decide) ?_
  obtain ⟨g20, h22, hf⟩ := hs_bv_some hf
  refine hs_callv (va_runS (As := [.ref (B + ((hs_R g v0 3) - 1)), .int v3, .int (1 : Int32)]) (rest := []) ⟨hx, hb, hml, hown, hts⟩ (ctX9_put l B D E ((hs_R g v0 3) - 1) v3 (1 : Int32) g _ h22) (va_cwS 3 hts (hs_gS (fun _ h => List.mem_cons_of_mem _ h) wq507 wq67 wq68 wq69) rfl rfl rfl (by decide +kernel) ⟨Nat.le_of_ble_eq_true rfl, Nat.le_of_ble_eq_true rfl⟩) (hs_pre hP hK) rfl rfl hl.1 rfl (lv_room (Nat.le_of_ble_eq_true rfl)) dX5_lengthen_66 ⟨(Nat.le_of_ble_eq_true rfl), (Nat.le_of_ble_eq_true rfl)⟩) hS (fun H locs hP hS => ?_)
  refine lv_iconst (v := 1) hx hb dX5_lengthen_69 (by decide) ?_
  refine lv_istore_n (lv' := [(2, .int (1 : Int32)), (0, .ref (B + v0)), (1, .ref (B + v1)), (3, .int v3)]) hx hb dX5_lengthen_70 rfl hl (by decide) rfl (fun ls hl => ?_)
  exact wX5_lengthen_j71 hX hrec hex0 hf hP hS (lv_sub hl [1, 2, 0, 3] rfl)

set_option maxHeartbeats 4000000 in
set_option maxRecDepth 100000 in
theorem wX5_lengthen_4 {p : Program} {l : Launch} {e : Env} {s : State} {m : MethodId} {args : Array Value} {below : List Frame} {meth : Method} {c : Code} {B : Nat} {D : va_G} {E : Nat → ClassId} (hX : hs_cx cX5_lengthen (some .boolean) 5 RX5 wcX5_lengthen p s m args meth c D E) {Q : State → Prop} {o : Int32 × hs_S} {v0 : Nat} {v1 : Nat} (hex0 : ∀ (H : Heap) (locs : List Loc) (ls : Array Slot), hs_P B D E (o.2) H → hs_Sx B s.heap H locs → lv_has ls 5 [(2, .int (o.1))] → W p l e rmX5_lengthen s m args below meth c H locs 0 0 Q (F0 m 77 ls [])) : ∀ (n : Nat) (v2 : Int32) (v3 : Int32) (g : hs_S), lX5_lengthen_4 n v0 v1 v2 v3 g = some o → ∀ (H : Heap) (locs : List Loc) (ls : Array Slot), hs_P B D E g H → hs_Sx B s.heap H locs → lv_has ls 5 [(0, .ref (B + v0)), (1, .ref (B + v1)), (2, .int v2), (3, .int v3)] → W p l e rmX5_lengthen s m args below meth c H locs 0 0 Q (F0 m 4 ls []) := by
  obtain ⟨hx, hb, hr, hml, hown, hts, hlocks, hK⟩ := id hX
  intro n
  induction n with
  | zero =>
    intro v2 v3 g hf
    cases hf
  | succ n ih =>
    intro v2 v3 g hf H locs ls hP hS hl
    replace hf := (lX5_lengthen_4_s n v0 v1 v2 v3 g).symm.trans hf
    refine lv_iload_n hx hb dX5_lengthen_4 rfl (lv_at hl 3 rfl) ?_
    refine lv_aload_n hx hb dX5_lengthen_5 rfl (lv_at hl 1 rfl) ?_
    obtain ⟨h1, hf⟩ := hs_ck hf
    refine hs_geti (C := RX7) (T := TX7) (N := 11) hx hb hts (fun w h => List.mem_cons_of_mem _ (inlX7 w h)) hown hK.1 hP h1 (by decide) rfl 3 (by decide) (hts _ (List.mem_cons_of_mem _ wq494)) (fun _ h => h) rfl dX5_lengthen_6 ?_
    refine lv_icmp_ge (tgt := 77) hx hb dX5_lengthen_9 (by decide) (fun hc => ?_) (fun hc => ?_)
    · replace hf := hs_t hf hc
      obtain rfl := Option.some.inj hf
      exact hex0 _ _ _ hP hS (lv_sub hl [2] rfl)
    · replace hf := hs_f hf hc
      refine lv_aload_n hx hb dX5_lengthen_12 rfl (lv_at hl 1 rfl) ?_
      refine lv_iload_n hx hb dX5_lengthen_13 rfl (lv_at hl 3 rfl) ?_
      obtain ⟨r3, g2, h4, hf⟩ := hs_bd_some hf
      refine hs_calli (va_runV (As := [.int v3]) (rest := []) ⟨hx, hb, hml, hown, hts⟩ (ctX7_jumpsAt l B D E v1 v3 g _ h4) (cwV 1 hts (hs_gV (fun _ h => List.mem_cons_of_mem _ h) wq542 wq302 wq303 wq43 wq304) rfl rfl rfl (by decide +kernel) ⟨Nat.le_of_ble_eq_true rfl, Nat.le_of_ble_eq_true rfl⟩) (hs_preV (r := (RX7, TX7, 11)) hP hK h1 (by decide) rfl) rfl rfl hl.1 rfl (lv_room (Nat.le_of_ble_eq_true rfl)) dX5_lengthen_14 ⟨(Nat.le_of_ble_eq_true rfl), (Nat.le_of_ble_eq_true rfl)⟩) hS (fun H locs hP hS => ?_)
      refine lv_if_eq (tgt := 71) hx hb dX5_lengthen_17 (by decide) (fun hc => ?_) (fun hc => ?_)
      · replace hf := hs_t hf hc
        exact wX5_lengthen_j71 hX (fun z0 z1 g H locs ls hf hP hS hl => ih z0 z1 g hf H locs ls hP hS hl) hex0 hf hP hS (lv_sub hl [0, 1, 2, 3] rfl)
      · replace hf := hs_f hf hc
        refine lv_aload_n hx hb dX5_lengthen_20 rfl (lv_at hl 0 rfl) ?_
        refine lv_aload_n hx hb dX5_lengthen_21 rfl (lv_at hl 1 rfl) ?_
        refine lv_iload_n hx hb dX5_lengthen_22 rfl (lv_at hl 3 rfl) ?_
        obtain ⟨h5, hf⟩ := hs_ck hf
        obtain ⟨r7, g6, h8, hf⟩ := hs_bd_some hf
        refine hs_calli (va_runV (As := [.ref (B + v1), .int v3]) (rest := []) ⟨hx, hb, hml, hown, hts⟩ (ctX5_wayOf l B D E v0 v1 v3 g2 _ h8) (cwV 2 hts (hs_gV (fun _ h => List.mem_cons_of_mem _ h) wq543 wq544 wq545 wq30 wq546) rfl rfl rfl (by decide +kernel) ⟨Nat.le_of_ble_eq_true rfl, Nat.le_of_ble_eq_true rfl⟩) (hs_preV (r := (RX5, TX5, 5)) hP hK h5 (by decide) rfl) rfl rfl hl.1 rfl (lv_room (Nat.le_of_ble_eq_true rfl)) dX5_lengthen_23 ⟨(Nat.le_of_ble_eq_true rfl), (Nat.le_of_ble_eq_true rfl)⟩) hS (fun H locs hP hS => ?_)
        refine lv_istore (lv' := [(4, .int r7), (0, .ref (B + v0)), (1, .ref (B + v1)), (2, .int v2), (3, .int v3)]) hx hb dX5_lengthen_26 hl (by decide) rfl (fun ls hl => ?_)
        refine lv_aload_n hx hb dX5_lengthen_28 rfl (lv_at hl 1 rfl) ?_
        obtain ⟨h9, hf⟩ := hs_ck hf
        obtain ⟨h10, hf⟩ := hs_ck hf
        refine hs_getr (C := RX5) (T := TX5) (N := 5) hx hb hts (fun w h => List.mem_cons_of_mem _ (inlX5 w h)) hown hK.1 hP h9 (by decide) rfl 2 (by decide) (hts _ (List.mem_cons_of_mem _ wq87)) (fun _ h => h) rfl h10 dX5_lengthen_29 ?_
        refine lv_iload_n hx hb dX5_lengthen_32 rfl (lv_at hl 4 rfl) ?_
        refine lv_iload hx hb dX5_lengthen_33 (lv_at hl 0 rfl) ?_
        obtain ⟨g11, h13, hf⟩ := hs_bv_some hf
        refine hs_callv (va_runS (As := [.ref (B + ((hs_R g6 v0 2) - 1)), .int v3, .int r7]) (rest := []) ⟨hx, hb, hml, hown, hts⟩ (ctX9_put l B D E ((hs_R g6 v0 2) - 1) v3 r7 g6 _ h13) (va_cwS 3 hts (hs_gS (fun _ h => List.mem_cons_of_mem _ h) wq507 wq67 wq68 wq69) rfl rfl rfl (by decide +kernel) ⟨Nat.le_of_ble_eq_true rfl, Nat.le_of_ble_eq_true rfl⟩) (hs_pre hP hK) rfl rfl hl.1 rfl (lv_room (Nat.le_of_ble_eq_true rfl)) dX5_lengthen_35 ⟨(Nat.le_of_ble_eq_true rfl), (Nat.le_of_ble_eq_true rfl)⟩) hS (fun H locs hP hS => ?_)
        refine lv_aload_n hx hb dX5_lengthen_38 rfl (lv_at hl 1 rfl) ?_
        refine lv_iload_n hx hb dX5_lengthen_39 rfl (lv_at hl 4 rfl) ?_
        obtain ⟨h14, hf⟩ := hs_ck hf
        obtain ⟨r16, g15, h17, hf⟩ := hs_bd_some hf
        refine hs_calli (va_runV (As := [.int v3]) (rest := []) ⟨hx, hb, hml, hown, hts⟩ (ctX5_isLong l B D E v0 v3 g11 _ h17) (cwV 1 hts (hs_gV (fun _ h => List.mem_cons_of_mem _ h) wq533 wq534 wq535 wq30 wq536) rfl rfl rfl (by decide +kernel) ⟨Nat.le_of_ble_eq_true rfl, Nat.le_of_ble_eq_true rfl⟩) (hs_preV (r := (RX5, TX5, 5)) hP hK h14 (by decide) rfl) rfl rfl hl.1 rfl (lv_room (Nat.le_of_ble_eq_true rfl)) dX5_lengthen_40 ⟨(Nat.le_of_ble_eq_true rfl), (Nat.le_of_ble_eq_true rfl)⟩) hS (fun H locs hP hS => ?_)
        refine lv_if_ne (tgt := 71) hx hb dX5_lengthen_43 (by decide) (fun hc => ?_) (fun hc => ?_)
        · replace hf := hs_f hf hc
          exact wX5_lengthen_j71 hX (fun z0 z1 g H locs ls hf hP hS hl => ih z0 z1 g hf H locs ls hP hS hl) hex0 hf hP hS (lv_sub hl [1, 2, 3, 4] rfl)
        · replace hf := hs_t hf hc
          refine lv_iload hx hb dX5_lengthen_46 (lv_at hl 0 rfl) ?_
          refine lv_bipush (v := -128) hx hb dX5_lengthen_48 (by decide) ?_
          refine lv_icmp_lt (tgt := 60) hx hb dX5_lengthen_50 (by decide) (fun hc => ?_) (fun hc => ?_)
          · replace hf := hs_t hf hc
            exact wX5_lengthen_j60 hX (fun z0 z1 g H locs ls hf hP hS hl => ih z0 z1 g hf H locs ls hP hS hl) hex0 hf hP hS (lv_sub hl [1, 2, 4] rfl)
          · replace hf := hs_f hf hc
            refine lv_iload hx hb dX5_lengthen_53 (lv_at hl 0 rfl) ?_
            refine lv_bipush (v := 127) hx hb dX5_lengthen_55 (by decide) ?_
            refine lv_icmp_le (tgt := 71) hx hb dX5_lengthen_57 (by decide) (fun hc => ?_) (fun hc => ?_)
            · replace hf := hs_t hf hc
              exact wX5_lengthen_j71 hX (fun z0 z1 g H locs ls hf hP hS hl => ih z0 z1 g hf H locs ls hP hS hl) hex0 hf hP hS (lv_sub hl [1, 2, 3, 4] rfl)
            · replace hf := hs_f hf hc
              exact wX5_lengthen_j60 hX (fun z0 z1 g H locs ls hf hP hS hl => ih z0 z1 g hf H locs ls hP hS hl) hex0 hf hP hS (lv_sub hl [1, 2, 4] rfl)

set_option maxHeartbeats 4000000 in
set_option maxRecDepth 100000 in
theorem ctX5_lengthen (l : Launch) (B : Nat) (D : va_G) (E : Nat → ClassId) (v0 : Nat) (v1 : Nat) (g : hs_S) (o : Int32 × hs_S) (hf : fX5_lengthen v0 v1 g = some o) : Met l yX5_lengthen wcX5_lengthen rmX5_lengthen (hs_Pc B D E g [.ref (B + v0), .ref (B + v1)]) (hs_Qi B D E o) (0) (0) (hs_F B) := by
  refine Met.ofW (cc := cX5_lengthen) (maxL := 5) (ret := (some .boolean)) (by decide) rfl ?_
  intro p e s m args below meth c s₁ Bd hml hv
  obtain ⟨rfl, hP, hK⟩ := hv
  have hx := Bd.exec
  have hb := Bd.bytes
  have hr := Bd.returns
  have hts := atoms_spec (ws := wcX5_lengthen) Bd.pre
  have hown : s.vm.findClass RX5 = some m.cls := findClass_of_methodNamed Bd.named
  have hlocks := Bd.notSynchronized
  have hS : hs_Sx B s.heap s.heap [] := va_S.rf
  have hX : hs_cx cX5_lengthen (some .boolean) 5 RX5 wcX5_lengthen p s m (List.toArray [.ref (B + v0), .ref (B + v1)]) meth c D E := ⟨hx, hb, hr, hml, hown, hts, hlocks, hK⟩
  have hl := lv_entry ([.ref (B + v0), .ref (B + v1)]) (n := 5) (Nat.le_of_ble_eq_true rfl)
  rw [lg_entry_eq]
  generalize (lg_sl ([.ref (B + v0), .ref (B + v1)]) ++ List.replicate (5 - (lg_sl ([.ref (B + v0), .ref (B + v1)])).length) Slot.unset).toArray = ls at hl ⊢
  have hl : lv_has ls 5 [(0, .ref (B + v0)), (1, .ref (B + v1))] := hl
  have hP : hs_P B D E g s.heap := hP
  unfold fX5_lengthen at hf
  refine lv_iconst (v := 0) hx hb dX5_lengthen_0 (by decide) ?_
  refine lv_istore_n (lv' := [(2, .int (0 : Int32)), (0, .ref (B + v0)), (1, .ref (B + v1))]) hx hb dX5_lengthen_1 rfl hl (by decide) rfl (fun ls hl => ?_)
  refine lv_iconst (v := 0) hx hb dX5_lengthen_2 (by decide) ?_
  refine lv_istore_n (lv' := [(3, .int (0 : Int32)), (2, .int (0 : Int32)), (0, .ref (B + v0)), (1, .ref (B + v1))]) hx hb dX5_lengthen_3 rfl hl (by decide) rfl (fun ls hl => ?_)
  obtain ⟨x23, g25, h26, hf⟩ := hs_bd_some hf
  refine wX5_lengthen_4 hX (fun H locs ls hP hS hl => ?_) hs_N _ _ _ h26 _ _ _ hP hS (lv_sub hl [2, 3, 1, 0] rfl)
  refine lv_iload_n hx hb dX5_lengthen_77 rfl (lv_at hl 0 rfl) ?_
  obtain ⟨h27, hf⟩ := hs_ck hf
  exact hs_iret hx hb hr hlocks (hs_01_nar h27) hK hP hS hf dX5_lengthen_78

theorem dX5_plan_0 : decode cX5_plan 0 = .ok (.aload_n 0, 1) := by decide +kernel
theorem dX5_plan_1 : decode cX5_plan 1 = .ok (.iload_n 3, 1) := by decide +kernel
theorem dX5_plan_2 : decode cX5_plan 2 = .ok (.putfield 24, 3) := by decide +kernel
theorem dX5_plan_5 : decode cX5_plan 5 = .ok (.aload_n 0, 1) := by decide +kernel
theorem dX5_plan_6 : decode cX5_plan 6 = .ok (.aload_n 1, 1) := by decide +kernel
theorem dX5_plan_7 : decode cX5_plan 7 = .ok (.aload_n 2, 1) := by decide +kernel
theorem dX5_plan_8 : decode cX5_plan 8 = .ok (.invokevirtual 28, 3) := by decide +kernel
theorem dX5_plan_11 : decode cX5_plan 11 = .ok (.aload_n 0, 1) := by decide +kernel
theorem dX5_plan_12 : decode cX5_plan 12 = .ok (.getfield 21, 3) := by decide +kernel
theorem dX5_plan_15 : decode cX5_plan 15 = .ok (.iconst 0, 1) := by decide +kernel
theorem dX5_plan_16 : decode cX5_plan 16 = .ok (.invokestatic 32, 3) := by decide +kernel
theorem dX5_plan_19 : decode cX5_plan 19 = .ok (.aload_n 0, 1) := by decide +kernel
theorem dX5_plan_20 : decode cX5_plan 20 = .ok (.aload_n 1, 1) := by decide +kernel
theorem dX5_plan_21 : decode cX5_plan 21 = .ok (.invokevirtual 38, 3) := by decide +kernel
theorem dX5_plan_24 : decode cX5_plan 24 = .ok (.istore 4, 2) := by decide +kernel
theorem dX5_plan_26 : decode cX5_plan 26 = .ok (.iconst 0, 1) := by decide +kernel
theorem dX5_plan_27 : decode cX5_plan 27 = .ok (.istore 5, 2) := by decide +kernel
theorem dX5_plan_29 : decode cX5_plan 29 = .ok (.iload 5, 2) := by decide +kernel
theorem dX5_plan_31 : decode cX5_plan 31 = .ok (.aload_n 1, 1) := by decide +kernel
theorem dX5_plan_32 : decode cX5_plan 32 = .ok (.getfield 42, 3) := by decide +kernel
theorem dX5_plan_35 : decode cX5_plan 35 = .ok (.if_icmp .ge 24, 3) := by decide +kernel
theorem dX5_plan_38 : decode cX5_plan 38 = .ok (.aload_n 0, 1) := by decide +kernel
theorem dX5_plan_39 : decode cX5_plan 39 = .ok (.aload_n 1, 1) := by decide +kernel
theorem dX5_plan_40 : decode cX5_plan 40 = .ok (.invokevirtual 48, 3) := by decide +kernel
theorem dX5_plan_43 : decode cX5_plan 43 = .ok (.ifCond .eq 16, 3) := by decide +kernel
theorem dX5_plan_46 : decode cX5_plan 46 = .ok (.aload_n 0, 1) := by decide +kernel
theorem dX5_plan_47 : decode cX5_plan 47 = .ok (.aload_n 1, 1) := by decide +kernel
theorem dX5_plan_48 : decode cX5_plan 48 = .ok (.invokevirtual 38, 3) := by decide +kernel
theorem dX5_plan_51 : decode cX5_plan 51 = .ok (.istore 4, 2) := by decide +kernel
theorem dX5_plan_53 : decode cX5_plan 53 = .ok (.iinc 5 1, 3) := by decide +kernel
theorem dX5_plan_56 : decode cX5_plan 56 = .ok (.goto (-27), 3) := by decide +kernel
theorem dX5_plan_59 : decode cX5_plan 59 = .ok (.iload 4, 2) := by decide +kernel
theorem dX5_plan_61 : decode cX5_plan 61 = .ok (.ireturn, 1) := by decide +kernel
abbrev wcX5_plan : List Cond := .code yX5_plan cX5_plan 6 (some .int) :: wsL_law
def lX5_plan_29 : Nat → Nat → Nat → Int32 → Int32 → hs_S → Option (Int32 × hs_S)
  | 0, _, _, _, _, _ => none
  | n + 1, v0, v1, v4, v5, g =>
    if hs_kd g v1 = 6 then
    if (hs_I g v1 3) ≤ v5 then (
      some (v4, g)
    ) else (
      if hs_kd g v0 = 4 then
      hs_bd (fX5_lengthen v0 v1 g) fun r18 g17 =>
      if r18 = 0 then (
        some (v4, g17)
      ) else (
        if hs_kd g17 v0 = 4 then
        hs_bd (fX5_placeAll v0 v1 g17) fun r22 g21 =>
        lX5_plan_29 n v0 v1 r22 (v5 + (1 : Int32)) g21
        else none
      )
      else none
    )
    else none
theorem lX5_plan_29_s (n : Nat) (v0 : Nat) (v1 : Nat) (v4 : Int32) (v5 : Int32) (g : hs_S) : lX5_plan_29 (n + 1) v0 v1 v4 v5 g =
    if hs_kd g v1 = 6 then
    if (hs_I g v1 3) ≤ v5 then (
      some (v4, g)
    ) else (
      if hs_kd g v0 = 4 then
      hs_bd (fX5_lengthen v0 v1 g) fun r18 g17 =>
      if r18 = 0 then (
        some (v4, g17)
      ) else (
        if hs_kd g17 v0 = 4 then
        hs_bd (fX5_placeAll v0 v1 g17) fun r22 g21 =>
        lX5_plan_29 n v0 v1 r22 (v5 + (1 : Int32)) g21
        else none
      )
      else none
    )
    else none := rfl
def fX5_plan (v0 : Nat) (v1 : Nat) (v2 : Nat) (v3 : Int32) (g : hs_S) : Option (Int32 × hs_S) :=
  if hs_kd g v0 = 4 then
  if hs_01 v3 = true then
  hs_bv (fX5_takeSums v0 v1 v2 (hs_wI g v0 4 v3)) fun g3 =>
  if hs_kd g3 v0 = 4 then
  if ¬ (hs_R g3 v0 3) = 0 then
  hs_bv (fJ7_fill_53178 ((hs_R g3 v0 3) - 1) (0 : Int32) g3) fun g8 =>
  if hs_kd g8 v0 = 4 then
  hs_bd (fX5_placeAll v0 v1 g8) fun r13 g12 =>
  hs_bd (lX5_plan_29 hs_N v0 v1 r13 (0 : Int32) g12) fun x24 g26 =>
  some (x24, g26)
  else none else none else none else none else none
abbrev rmX5_plan : Room := { frames := 5, cells := 0, slots := 0, locals := 111 }
set_option maxHeartbeats 4000000 in
set_option maxRecDepth 100000 in
theorem wX5_plan_29 {p : Program} {l : Launch} {e : Env} {s : State} {m : MethodId} {args : Array Value} {below : List Frame} {meth : Method} {c : Code} {B : Nat} {D : va_G} {E : Nat → ClassId} (hX : hs_cx cX5_plan (some .int) 6 RX5 wcX5_plan p s m args meth c D E) {Q : State → Prop} {o : Int32 × hs_S} {v0 : Nat} {v1 : Nat} (hex0 : ∀ (H : Heap) (locs : List Loc) (ls : Array Slot), hs_P B D E (o.2) H → hs_Sx B s.heap H locs → lv_has ls 6 [(4, .int (o.1))] → W p l e rmX5_plan s m args below meth c H locs 0 0 Q (F0 m 59 ls [])) : ∀ (n : Nat) (v4 : Int32) (v5 : Int32) (g : hs_S), lX5_plan_29 n v0 v1 v4 v5 g = some o → ∀ (H : Heap) (locs : List Loc) (ls : Array Slot), hs_P B D E g H → hs_Sx B s.heap H locs → lv_has ls 6 [(0, .ref (B + v0)), (1, .ref (B + v1)), (4, .int v4), (5, .int v5)] → W p l e rmX5_plan s m args below meth c H locs 0 0 Q (F0 m 29 ls []) := by
  obtain ⟨hx, hb, hr, hml, hown, hts, hlocks, hK⟩ := id hX
  intro n
  induction n with
  | zero =>
    intro v4 v5 g hf
    cases hf
  | succ n ih =>
    intro v4 v5 g hf H locs ls hP hS hl
    replace hf := (lX5_plan_29_s n v0 v1 v4 v5 g).symm.trans hf
    refine lv_iload hx hb dX5_plan_29 (lv_at hl 3 rfl) ?_
    refine lv_aload_n hx hb dX5_plan_31 rfl (lv_at hl 1 rfl) ?_
    obtain ⟨h15, hf⟩ := hs_ck hf
    refine hs_geti (C := RX7) (T := TX7) (N := 11) hx hb hts (fun w h => List.mem_cons_of_mem _ (inlX7 w h)) hown hK.1 hP h15 (by decide) rfl 3 (by decide) (hts _ (List.mem_cons_of_mem _ wq494)) (fun _ h => h) rfl dX5_plan_32 ?_
    refine lv_icmp_ge (tgt := 59) hx hb dX5_plan_35 (by decide) (fun hc => ?_) (fun hc => ?_)
    · replace hf := hs_t hf hc
      obtain rfl := Option.some.inj hf
      exact hex0 _ _ _ hP hS (lv_sub hl [2] rfl)
    · replace hf := hs_f hf hc
      refine lv_aload_n hx hb dX5_plan_38 rfl (lv_at hl 0 rfl) ?_
      refine lv_aload_n hx hb dX5_plan_39 rfl (lv_at hl 1 rfl) ?_
      obtain ⟨h16, hf⟩ := hs_ck hf
      obtain ⟨r18, g17, h19, hf⟩ := hs_bd_some hf
      refine hs_calli (va_runV (As := [.ref (B + v1)]) (rest := []) ⟨hx, hb, hml, hown, hts⟩ (ctX5_lengthen l B D E v0 v1 g _ h19) (cwV 1 hts (hs_gV (fun _ h => List.mem_cons_of_mem _ h) wq538 wq539 wq540 wq30 wq541) rfl rfl rfl (by decide +kernel) ⟨Nat.le_of_ble_eq_true rfl, Nat.le_of_ble_eq_true rfl⟩) (hs_preV (r := (RX5, TX5, 5)) hP hK h16 (by decide) rfl) rfl rfl hl.1 rfl (lv_room (Nat.le_of_ble_eq_true rfl)) dX5_plan_40 ⟨(Nat.le_of_ble_eq_true rfl), (Nat.le_of_ble_eq_true rfl)⟩) hS (fun H locs hP hS => ?_)
      refine lv_if_eq (tgt := 59) hx hb dX5_plan_43 (by decide) (fun hc => ?_) (fun hc => ?_)
      · replace hf := hs_t hf hc
        obtain rfl := Option.some.inj hf
        exact hex0 _ _ _ hP hS (lv_sub hl [2] rfl)
      · replace hf := hs_f hf hc
        refine lv_aload_n hx hb dX5_plan_46 rfl (lv_at hl 0 rfl) ?_
        refine lv_aload_n hx hb dX5_plan_47 rfl (lv_at hl 1 rfl) ?_
        obtain ⟨h20, hf⟩ := hs_ck hf
        obtain ⟨r22, g21, h23, hf⟩ := hs_bd_some hf
        refine hs_calli (va_runV (As := [.ref (B + v1)]) (rest := []) ⟨hx, hb, hml, hown, hts⟩ (ctX5_placeAll l B D E v0 v1 g17 _ h23) (cwV 1 hts (hs_gV (fun _ h => List.mem_cons_of_mem _ h) wq508 wq509 wq510 wq30 wq511) rfl rfl rfl (by decide +kernel) ⟨Nat.le_of_ble_eq_true rfl, Nat.le_of_ble_eq_true rfl⟩) (hs_preV (r := (RX5, TX5, 5)) hP hK h20 (by decide) rfl) rfl rfl hl.1 rfl (lv_room (Nat.le_of_ble_eq_true rfl)) dX5_plan_48 ⟨(Nat.le_of_ble_eq_true rfl), (Nat.le_of_ble_eq_true rfl)⟩) hS (fun H locs hP hS => ?_)
        refine lv_istore (lv' := [(4, .int r22), (0, .ref (B + v0)), (1, .ref (B + v1)), (5, .int v5)]) hx hb dX5_plan_51 hl (by decide) rfl (fun ls hl => ?_)
        refine lv_iinc (v := (v5 + (1 : Int32))) (lv' := [(5, .int (v5 + (1 : Int32))), (4, .int r22), (0, .ref (B + v0)), (1, .ref (B + v1))]) hx hb dX5_plan_53 hl (k := 3) rfl (by rfl) (by decide) rfl (fun ls hl => ?_)
        refine lv_goto (tgt := 29) hx hb dX5_plan_56 (by decide) ?_
        exact ih _ _ _ hf _ _ _ hP hS (lv_sub hl [2, 3, 1, 0] rfl)

set_option maxHeartbeats 4000000 in
set_option maxRecDepth 100000 in
theorem ctX5_plan (l : Launch) (B : Nat) (D : va_G) (E : Nat → ClassId) (v0 : Nat) (v1 : Nat) (v2 : Nat) (v3 : Int32) (g : hs_S) (o : Int32 × hs_S) (hf : fX5_plan v0 v1 v2 v3 g = some o) : Met l yX5_plan wcX5_plan rmX5_plan (hs_Pc B D E g [.ref (B + v0), .ref (B + v1), .ref (B + v2), .int v3]) (hs_Qi B D E o) (0) (0) (hs_F B) := by
  refine Met.ofW (cc := cX5_plan) (maxL := 6) (ret := (some .int)) (by decide) rfl ?_
  intro p e s m args below meth c s₁ Bd hml hv
  obtain ⟨rfl, hP, hK⟩ := hv
  have hx := Bd.exec
  have hb := Bd.bytes
  have hr := Bd.returns
  have hts := atoms_spec (ws := wcX5_plan) Bd.pre
  have hown : s.vm.findClass RX5 = some m.cls := findClass_of_methodNamed Bd.named
  have hlocks := Bd.notSynchronized
  have hS : hs_Sx B s.heap s.heap [] := va_S.rf
  have hX : hs_cx cX5_plan (some .int) 6 RX5 wcX5_plan p s m (List.toArray [.ref (B + v0), .ref (B + v1), .ref (B + v2), .int v3]) meth c D E := ⟨hx, hb, hr, hml, hown, hts, hlocks, hK⟩
  have hl := lv_entry ([.ref (B + v0), .ref (B + v1), .ref (B + v2), .int v3]) (n := 6) (Nat.le_of_ble_eq_true rfl)
  rw [lg_entry_eq]
  generalize (lg_sl ([.ref (B + v0), .ref (B + v1), .ref (B + v2), .int v3]) ++ List.replicate (6 - (lg_sl ([.ref (B + v0), .ref (B + v1), .ref (B + v2), .int v3])).length) Slot.unset).toArray = ls at hl ⊢
  have hl : lv_has ls 6 [(0, .ref (B + v0)), (1, .ref (B + v1)), (2, .ref (B + v2)), (3, .int v3)] := hl
  have hP : hs_P B D E g s.heap := hP
  unfold fX5_plan at hf
  refine lv_aload_n hx hb dX5_plan_0 rfl (lv_at hl 0 rfl) ?_
  refine lv_iload_n hx hb dX5_plan_1 rfl (lv_at hl 3 rfl) ?_
  obtain ⟨h1, hf⟩ := hs_ck hf
  obtain ⟨h2, hf⟩ := hs_ck hf
  refine hs_puti (C := RX5) (T := TX5) (N := 5) hx hb hts (fun w h => List.mem_cons_of_mem _ (inlX5 w h)) tyX5 tyX5_ok nmX5 hown hK.1 hP hS h1 (by decide) rfl 4 (by decide) (hts _ (List.mem_cons_of_mem _ wq493)) (fun _ h => h) (Or.inl rfl) (hs_01_nar h2) (hs_01_fit h2) rfl dX5_plan_2 (fun H locs hP hS => ?_)
  refine lv_aload_n hx hb dX5_plan_5 rfl (lv_at hl 0 rfl) ?_
  refine lv_aload_n hx hb dX5_plan_6 rfl (lv_at hl 1 rfl) ?_
  refine lv_aload_n hx hb dX5_plan_7 rfl (lv_at hl 2 rfl) ?_
  obtain ⟨g3, h5, hf⟩ := hs_bv_some hf
  refine hs_callv (va_runV (As := [.ref (B + v1), .ref (B + v2)]) (rest := []) ⟨hx, hb, hml, hown, hts⟩ (ctX5_takeSums l B D E v0 v1 v2 (hs_wI g v0 4 v3) _ h5) (cwV 2 hts (hs_gV (fun _ h => List.mem_cons_of_mem _ h) wq495 wq496 wq497 wq30 wq498) rfl rfl rfl (by decide +kernel) ⟨Nat.le_of_ble_eq_true rfl, Nat.le_of_ble_eq_true rfl⟩) (hs_preV (r := (RX5, TX5, 5)) hP hK h1 (by decide) rfl) rfl rfl hl.1 rfl (lv_room (Nat.le_of_ble_eq_true rfl)) dX5_plan_8 ⟨(Nat.le_of_ble_eq_true rfl), (Nat.le_of_ble_eq_true rfl)⟩) hS (fun H locs hP hS => ?_)
  refine lv_aload_n hx hb dX5_plan_11 rfl (lv_at hl 0 rfl) ?_
  obtain ⟨h6, hf⟩ := hs_ck hf
  obtain ⟨h7, hf⟩ := hs_ck hf
  refine hs_getr (C := RX5) (T := TX5) (N := 5) hx hb hts (fun w h => List.mem_cons_of_mem _ (inlX5 w h)) hown hK.1 hP h6 (by decide) rfl 3 (by decide) (hts _ (List.mem_cons_of_mem _ wq88)) (fun _ h => h) rfl h7 dX5_plan_12 ?_
  refine lv_iconst (v := 0) hx hb dX5_plan_15 (by decide) ?_
  obtain ⟨g8, h10, hf⟩ := hs_bv_some hf
  refine hs_callv (va_runS (As := [.ref (B + ((hs_R g3 v0 3) - 1)), .int (0 : Int32)]) (rest := []) ⟨hx, hb, hml, hown, hts⟩ (ctJ7_fill_53178 l B D E ((hs_R g3 v0 3) - 1) (0 : Int32) g3 _ h10) (va_cwS 2 hts (hs_gS (fun _ h => List.mem_cons_of_mem _ h) wq499 wq63 wq64 wq65) rfl rfl rfl (by decide +kernel) ⟨Nat.le_of_ble_eq_true rfl, Nat.le_of_ble_eq_true rfl⟩) (hs_pre hP hK) rfl rfl hl.1 rfl (lv_room (Nat.le_of_ble_eq_true rfl)) dX5_plan_16 ⟨(Nat.le_of_ble_eq_true rfl), (Nat.le_of_ble_eq_true rfl)⟩) hS (fun H locs hP hS => ?_)
  refine lv_aload_n hx hb dX5_plan_19 rfl (lv_at hl 0 rfl) ?_
  refine lv_aload_n hx hb dX5_plan_20 rfl (lv_at hl 1 rfl) ?_
  obtain ⟨h11, hf⟩ := hs_ck hf
  obtain ⟨r13, g12, h14, hf⟩ := hs_bd_some hf
  refine hs_calli (va_runV (As := [.ref (B + v1)]) (rest := []) ⟨hx, hb, hml, hown, hts⟩ (ctX5_placeAll l B D E v0 v1 g8 _ h14) (cwV 1 hts (hs_gV (fun _ h => List.mem_cons_of_mem _ h) wq508 wq509 wq510 wq30 wq511) rfl rfl rfl (by decide +kernel) ⟨Nat.le_of_ble_eq_true rfl, Nat.le_of_ble_eq_true rfl⟩) (hs_preV (r := (RX5, TX5, 5)) hP hK h11 (by decide) rfl) rfl rfl hl.1 rfl (lv_room (Nat.le_of_ble_eq_true rfl)) dX5_plan_21 ⟨(Nat.le_of_ble_eq_true rfl), (Nat.le_of_ble_eq_true rfl)⟩) hS (fun H locs hP hS => ?_)
  refine lv_istore (lv' := [(4, .int r13), (0, .ref (B + v0)), (1, .ref (B + v1)), (2, .ref (B + v2)), (3, .int v3)]) hx hb dX5_plan_24 hl (by decide) rfl (fun ls hl => ?_)
  refine lv_iconst (v := 0) hx hb dX5_plan_26 (by decide) ?_
  refine lv_istore (lv' := [(5, .int (0 : Int32)), (4, .int r13), (0, .ref (B + v0)), (1, .ref (B + v1)), (2, .ref (B + v2)), (3, .int v3)]) hx hb dX5_plan_27 hl (by decide) rfl (fun ls hl => ?_)
  obtain ⟨x24, g26, h27, hf⟩ := hs_bd_some hf
  refine wX5_plan_29 hX (fun H locs ls hP hS hl => ?_) hs_N _ _ _ h27 _ _ _ hP hS (lv_sub hl [2, 3, 1, 0] rfl)
  refine lv_iload hx hb dX5_plan_59 (lv_at hl 0 rfl) ?_
  exact hs_iret hx hb hr hlocks rfl hK hP hS hf dX5_plan_61

theorem dX0_appendPair_0 : decode cX0_appendPair 0 = .ok (.aload_n 0, 1) := by decide +kernel
theorem dX0_appendPair_1 : decode cX0_appendPair 1 = .ok (.iload_n 1, 1) := by decide +kernel
theorem dX0_appendPair_2 : decode cX0_appendPair 2 = .ok (.bipush 8, 2) := by decide +kernel
theorem dX0_appendPair_4 : decode cX0_appendPair 4 = .ok (.ishr, 1) := by decide +kernel
theorem dX0_appendPair_5 : decode cX0_appendPair 5 = .ok (.invokevirtual 41, 3) := by decide +kernel
theorem dX0_appendPair_8 : decode cX0_appendPair 8 = .ok (.aload_n 0, 1) := by decide +kernel
theorem dX0_appendPair_9 : decode cX0_appendPair 9 = .ok (.iload_n 1, 1) := by decide +kernel
theorem dX0_appendPair_10 : decode cX0_appendPair 10 = .ok (.invokevirtual 41, 3) := by decide +kernel
theorem dX0_appendPair_13 : decode cX0_appendPair 13 = .ok (.return_, 1) := by decide +kernel
abbrev wcX0_appendPair : List Cond := .code yX0_appendPair cX0_appendPair 2 none :: wsL_law
def fX0_appendPair (v0 : Nat) (v1 : Int32) (g : hs_S) : Option (hs_S) :=
  if hs_kd g v0 = 0 then
  hs_bv (fX0_append v0 (v1 >>> ((8 : Int32) &&& 31)) g) fun g2 =>
  if hs_kd g2 v0 = 0 then
  hs_bv (fX0_append v0 v1 g2) fun g6 =>
  some g6
  else none else none
abbrev rmX0_appendPair : Room := { frames := 2, cells := 0, slots := 0, locals := 43 }
set_option maxHeartbeats 4000000 in
set_option maxRecDepth 100000 in
theorem ctX0_appendPair (l : Launch) (B : Nat) (D : va_G) (E : Nat → ClassId) (v0 : Nat) (v1 : Int32) (g : hs_S) (o : hs_S) (hf : fX0_appendPair v0 v1 g = some o) : Met l yX0_appendPair wcX0_appendPair rmX0_appendPair (hs_Pc B D E g [.ref (B + v0), .int v1]) (hs_Qv B D E o) (0) (0) (hs_F B) := by
  refine Met.ofW (cc := cX0_appendPair) (maxL := 2) (ret := none) (by decide) rfl ?_
  intro p e s m args below meth c s₁ Bd hml hv
  obtain ⟨rfl, hP, hK⟩ := hv
  have hx := Bd.exec
  have hb := Bd.bytes
  have hr := Bd.returns
  have hts := atoms_spec (ws := wcX0_appendPair) Bd.pre
  have hown : s.vm.findClass RX0 = some m.cls := findClass_of_methodNamed Bd.named
  have hlocks := Bd.notSynchronized
  have hS : hs_Sx B s.heap s.heap [] := va_S.rf
  have hX : hs_cx cX0_appendPair none 2 RX0 wcX0_appendPair p s m (List.toArray [.ref (B + v0), .int v1]) meth c D E := ⟨hx, hb, hr, hml, hown, hts, hlocks, hK⟩
  have hl := lv_entry ([.ref (B + v0), .int v1]) (n := 2) (Nat.le_of_ble_eq_true rfl)
  rw [lg_entry_eq]
  generalize (lg_sl ([.ref (B + v0), .int v1]) ++ List.replicate (2 - (lg_sl ([.ref (B + v0), .int v1])).length) Slot.unset).toArray = ls at hl ⊢
  have hl : lv_has ls 2 [(0, .ref (B + v0)), (1, .int v1)] := hl
  have hP : hs_P B D E g s.heap := hP
  unfold fX0_appendPair at hf
  refine lv_aload_n hx hb dX0_appendPair_0 rfl (lv_at hl 0 rfl) ?_
  refine lv_iload_n hx hb dX0_appendPair_1 rfl (lv_at hl 1 rfl) ?_
  refine lv_bipush (v := 8) hx hb dX0_appendPair_2 (by decide) ?_
  refine lv_ishr hx hb dX0_appendPair_4 ?_
  obtain ⟨h1, hf⟩ := hs_ck hf
  obtain ⟨g2, h4, hf⟩ := hs_bv_some hf
  refine hs_callv (va_runV (As := [.int (v1 >>> ((8 : Int32) &&& 31))]) (rest := []) ⟨hx, hb, hml, hown, hts⟩ (ctX0_append l B D E v0 (v1 >>> ((8 : Int32) &&& 31)) g _ h4) (cwV 1 hts (hs_gV (fun _ h => List.mem_cons_of_mem _ h) wq567 wq167 wq168 wq15 wq169) rfl rfl rfl (by decide +kernel) ⟨Nat.le_of_ble_eq_true rfl, Nat.le_of_ble_eq_true rfl⟩) (hs_preV (r := (RX0, TX0, 5)) hP hK h1 (by decide) rfl) rfl rfl hl.1 rfl (lv_room (Nat.le_of_ble_eq_true rfl)) dX0_appendPair_5 ⟨(Nat.le_of_ble_eq_true rfl), (Nat.le_of_ble_eq_true rfl)⟩) hS (fun H locs hP hS => ?_)
  refine lv_aload_n hx hb dX0_appendPair_8 rfl (lv_at hl 0 rfl) ?_
  refine lv_iload_n hx hb dX0_appendPair_9 rfl (lv_at hl 1 rfl) ?_
  obtain ⟨h5, hf⟩ := hs_ck hf
  obtain ⟨g6, h8, hf⟩ := hs_bv_some hf
  refine hs_callv (va_runV (As := [.int v1]) (rest := []) ⟨hx, hb, hml, hown, hts⟩ (ctX0_append l B D E v0 v1 g2 _ h8) (cwV 1 hts (hs_gV (fun _ h => List.mem_cons_of_mem _ h) wq567 wq167 wq168 wq15 wq169) rfl rfl rfl (by decide +kernel) ⟨Nat.le_of_ble_eq_true rfl, Nat.le_of_ble_eq_true rfl⟩) (hs_preV (r := (RX0, TX0, 5)) hP hK h5 (by decide) rfl) rfl rfl hl.1 rfl (lv_room (Nat.le_of_ble_eq_true rfl)) dX0_appendPair_10 ⟨(Nat.le_of_ble_eq_true rfl), (Nat.le_of_ble_eq_true rfl)⟩) hS (fun H locs hP hS => ?_)
  exact hs_vret hx hb hr hlocks hK hP hS hf dX0_appendPair_13

theorem dX4_opposite_0 : decode cX4_opposite 0 = .ok (.sipush 153, 3) := by decide +kernel
theorem dX4_opposite_3 : decode cX4_opposite 3 = .ok (.iload_n 0, 1) := by decide +kernel
theorem dX4_opposite_4 : decode cX4_opposite 4 = .ok (.sipush 153, 3) := by decide +kernel
theorem dX4_opposite_7 : decode cX4_opposite 7 = .ok (.isub, 1) := by decide +kernel
theorem dX4_opposite_8 : decode cX4_opposite 8 = .ok (.iconst 1, 1) := by decide +kernel
theorem dX4_opposite_9 : decode cX4_opposite 9 = .ok (.ixor, 1) := by decide +kernel
theorem dX4_opposite_10 : decode cX4_opposite 10 = .ok (.iadd, 1) := by decide +kernel
theorem dX4_opposite_11 : decode cX4_opposite 11 = .ok (.ireturn, 1) := by decide +kernel
abbrev wcX4_opposite : List Cond := .code yX4_opposite cX4_opposite 1 (some .int) :: wsL_law
def fX4_opposite (v0 : Int32) (g : hs_S) : Option (Int32 × hs_S) :=
  some (((153 : Int32) + ((v0 - (153 : Int32)) ^^^ (1 : Int32))), g)
abbrev rmX4_opposite : Room := { frames := 0, cells := 0, slots := 0, locals := 0 }
set_option maxHeartbeats 4000000 in
set_option maxRecDepth 100000 in
theorem ctX4_opposite (l : Launch) (B : Nat) (D : va_G) (E : Nat → ClassId) (v0 : Int32) (g : hs_S) (o : Int32 × hs_S) (hf : fX4_opposite v0 g = some o) : Met l yX4_opposite wcX4_opposite rmX4_opposite (hs_Pc B D E g [.int v0]) (hs_Qi B D E o) (0) (0) (hs_F B) := by
  refine Met.ofW (cc := cX4_opposite) (maxL := 1) (ret := (some .int)) (by decide) rfl ?_
  intro p e s m args below meth c s₁ Bd hml hv
  obtain ⟨rfl, hP, hK⟩ := hv
  have hx := Bd.exec
  have hb := Bd.bytes
  have hr := Bd.returns
  have hts := atoms_spec (ws := wcX4_opposite) Bd.pre
  have hown : s.vm.findClass RX4 = some m.cls := findClass_of_methodNamed Bd.named
  have hlocks := Bd.notSynchronized
  have hS : hs_Sx B s.heap s.heap [] := va_S.rf
  have hX : hs_cx cX4_opposite (some .int) 1 RX4 wcX4_opposite p s m (List.toArray [.int v0]) meth c D E := ⟨hx, hb, hr, hml, hown, hts, hlocks, hK⟩
  have hl := lv_entry ([.int v0]) (n := 1) (Nat.le_of_ble_eq_true rfl)
  rw [lg_entry_eq]
  generalize (lg_sl ([.int v0]) ++ List.replicate (1 - (lg_sl ([.int v0])).length) Slot.unset).toArray = ls at hl ⊢
  have hl : lv_has ls 1 [(0, .int v0)] := hl
  have hP : hs_P B D E g s.heap := hP
  unfold fX4_opposite at hf
  refine lv_sipush (v := 153) hx hb dX4_opposite_0 (by decide) ?_
  refine lv_iload_n hx hb dX4_opposite_3 rfl (lv_at hl 0 rfl) ?_
  refine lv_sipush (v := 153) hx hb dX4_opposite_4 (by decide) ?_
  refine lv_isub hx hb dX4_opposite_7 ?_
  refine lv_iconst (v := 1) hx hb dX4_opposite_8 (by decide) ?_
  refine lv_ixor hx hb dX4_opposite_9 ?_
  refine lv_iadd hx hb dX4_opposite_10 ?_
  exact hs_iret hx hb hr hlocks rfl hK hP hS hf dX4_opposite_11

theorem dX5_writeJump_0 : decode cX5_writeJump 0 = .ok (.aload_n 1, 1) := by decide +kernel
theorem dX5_writeJump_1 : decode cX5_writeJump 1 = .ok (.iload_n 2, 1) := by decide +kernel
theorem dX5_writeJump_2 : decode cX5_writeJump 2 = .ok (.invokevirtual 117, 3) := by decide +kernel
theorem dX5_writeJump_5 : decode cX5_writeJump 5 = .ok (.istore 5, 2) := by decide +kernel
theorem dX5_writeJump_7 : decode cX5_writeJump 7 = .ok (.aload_n 0, 1) := by decide +kernel
theorem dX5_writeJump_8 : decode cX5_writeJump 8 = .ok (.getfield 18, 3) := by decide +kernel
theorem dX5_writeJump_11 : decode cX5_writeJump 11 = .ok (.iload_n 2, 1) := by decide +kernel
theorem dX5_writeJump_12 : decode cX5_writeJump 12 = .ok (.invokestatic 113, 3) := by decide +kernel
theorem dX5_writeJump_15 : decode cX5_writeJump 15 = .ok (.istore 6, 2) := by decide +kernel
theorem dX5_writeJump_17 : decode cX5_writeJump 17 = .ok (.aload_n 0, 1) := by decide +kernel
theorem dX5_writeJump_18 : decode cX5_writeJump 18 = .ok (.iload_n 2, 1) := by decide +kernel
theorem dX5_writeJump_19 : decode cX5_writeJump 19 = .ok (.invokevirtual 110, 3) := by decide +kernel
theorem dX5_writeJump_22 : decode cX5_writeJump 22 = .ok (.ifCond .ne 30, 3) := by decide +kernel
theorem dX5_writeJump_25 : decode cX5_writeJump 25 = .ok (.aload_n 3, 1) := by decide +kernel
theorem dX5_writeJump_26 : decode cX5_writeJump 26 = .ok (.iload 5, 2) := by decide +kernel
theorem dX5_writeJump_28 : decode cX5_writeJump 28 = .ok (.invokestatic 136, 3) := by decide +kernel
theorem dX5_writeJump_31 : decode cX5_writeJump 31 = .ok (.ifCond .eq 8, 3) := by decide +kernel
theorem dX5_writeJump_34 : decode cX5_writeJump 34 = .ok (.iload 5, 2) := by decide +kernel
theorem dX5_writeJump_36 : decode cX5_writeJump 36 = .ok (.goto 6, 3) := by decide +kernel
theorem dX5_writeJump_39 : decode cX5_writeJump 39 = .ok (.sipush 167, 3) := by decide +kernel
theorem dX5_writeJump_42 : decode cX5_writeJump 42 = .ok (.invokevirtual 142, 3) := by decide +kernel
theorem dX5_writeJump_45 : decode cX5_writeJump 45 = .ok (.aload_n 3, 1) := by decide +kernel
theorem dX5_writeJump_46 : decode cX5_writeJump 46 = .ok (.iload 6, 2) := by decide +kernel
theorem dX5_writeJump_48 : decode cX5_writeJump 48 = .ok (.invokevirtual 142, 3) := by decide +kernel
theorem dX5_writeJump_51 : decode cX5_writeJump 51 = .ok (.return_, 1) := by decide +kernel
theorem dX5_writeJump_52 : decode cX5_writeJump 52 = .ok (.iload 5, 2) := by decide +kernel
theorem dX5_writeJump_54 : decode cX5_writeJump 54 = .ok (.invokestatic 136, 3) := by decide +kernel
theorem dX5_writeJump_57 : decode cX5_writeJump 57 = .ok (.ifCond .eq 34, 3) := by decide +kernel
theorem dX5_writeJump_60 : decode cX5_writeJump 60 = .ok (.aload_n 3, 1) := by decide +kernel
theorem dX5_writeJump_61 : decode cX5_writeJump 61 = .ok (.iload 5, 2) := by decide +kernel
theorem dX5_writeJump_63 : decode cX5_writeJump 63 = .ok (.invokestatic 155, 3) := by decide +kernel
theorem dX5_writeJump_66 : decode cX5_writeJump 66 = .ok (.invokevirtual 142, 3) := by decide +kernel
theorem dX5_writeJump_69 : decode cX5_writeJump 69 = .ok (.aload_n 3, 1) := by decide +kernel
theorem dX5_writeJump_70 : decode cX5_writeJump 70 = .ok (.iconst 5, 1) := by decide +kernel
theorem dX5_writeJump_71 : decode cX5_writeJump 71 = .ok (.invokevirtual 142, 3) := by decide +kernel
theorem dX5_writeJump_74 : decode cX5_writeJump 74 = .ok (.iinc 6 (-2), 3) := by decide +kernel
theorem dX5_writeJump_77 : decode cX5_writeJump 77 = .ok (.aload 4, 2) := by decide +kernel
theorem dX5_writeJump_79 : decode cX5_writeJump 79 = .ok (.dup, 1) := by decide +kernel
theorem dX5_writeJump_80 : decode cX5_writeJump 80 = .ok (.getfield 158, 3) := by decide +kernel
theorem dX5_writeJump_83 : decode cX5_writeJump 83 = .ok (.iconst 1, 1) := by decide +kernel
theorem dX5_writeJump_84 : decode cX5_writeJump 84 = .ok (.iadd, 1) := by decide +kernel
theorem dX5_writeJump_85 : decode cX5_writeJump 85 = .ok (.putfield 158, 3) := by decide +kernel
theorem dX5_writeJump_88 : decode cX5_writeJump 88 = .ok (.goto 14, 3) := by decide +kernel
theorem dX5_writeJump_91 : decode cX5_writeJump 91 = .ok (.aload 4, 2) := by decide +kernel
theorem dX5_writeJump_93 : decode cX5_writeJump 93 = .ok (.dup, 1) := by decide +kernel
theorem dX5_writeJump_94 : decode cX5_writeJump 94 = .ok (.getfield 161, 3) := by decide +kernel
theorem dX5_writeJump_97 : decode cX5_writeJump 97 = .ok (.iconst 1, 1) := by decide +kernel
theorem dX5_writeJump_98 : decode cX5_writeJump 98 = .ok (.iadd, 1) := by decide +kernel
theorem dX5_writeJump_99 : decode cX5_writeJump 99 = .ok (.putfield 161, 3) := by decide +kernel
theorem dX5_writeJump_102 : decode cX5_writeJump 102 = .ok (.aload_n 3, 1) := by decide +kernel
theorem dX5_writeJump_103 : decode cX5_writeJump 103 = .ok (.sipush 168, 3) := by decide +kernel
theorem dX5_writeJump_106 : decode cX5_writeJump 106 = .ok (.invokevirtual 142, 3) := by decide +kernel
theorem dX5_writeJump_109 : decode cX5_writeJump 109 = .ok (.aload_n 3, 1) := by decide +kernel
theorem dX5_writeJump_110 : decode cX5_writeJump 110 = .ok (.iload 6, 2) := by decide +kernel
theorem dX5_writeJump_112 : decode cX5_writeJump 112 = .ok (.invokevirtual 146, 3) := by decide +kernel
theorem dX5_writeJump_115 : decode cX5_writeJump 115 = .ok (.return_, 1) := by decide +kernel
abbrev wcX5_writeJump : List Cond := .code yX5_writeJump cX5_writeJump 7 none :: wsL_law
def jX5_writeJump_102 (v3 : Nat) (v6 : Int32) (g : hs_S) : Option (hs_S) :=
  if hs_kd g v3 = 0 then
  hs_bv (fX0_append v3 (168 : Int32) g) fun g19 =>
  if hs_kd g19 v3 = 0 then
  hs_bv (fX0_appendPair v3 v6 g19) fun g23 =>
  some g23
  else none else none
def jX5_writeJump_42 (v3 : Nat) (v6 : Int32) (s0 : Int32) (s1 : Nat) (g : hs_S) : Option (hs_S) :=
  if hs_kd g s1 = 0 then
  hs_bv (fX0_append s1 s0 g) fun g42 =>
  if hs_kd g42 v3 = 0 then
  hs_bv (fX0_append v3 v6 g42) fun g46 =>
  some g46
  else none else none
def fX5_writeJump (v0 : Nat) (v1 : Nat) (v2 : Int32) (v3 : Nat) (v4 : Nat) (g : hs_S) : Option (hs_S) :=
  if hs_kd g v1 = 6 then
  hs_bd (fX7_valueAt v1 v2 g) fun r3 g2 =>
  if hs_kd g2 v0 = 4 then
  if ¬ (hs_R g2 v0 2) = 0 then
  hs_bd (fX9_at ((hs_R g2 v0 2) - 1) v2 g2) fun r8 g7 =>
  if hs_kd g7 v0 = 4 then
  hs_bd (fX5_isLong v0 v2 g7) fun r12 g11 =>
  if r12 = 0 then (
    hs_bd (fX4_isBranch r3 g11) fun r39 g38 =>
    if r39 = 0 then (
      jX5_writeJump_42 v3 r8 (167 : Int32) v3 g38
    ) else (
      jX5_writeJump_42 v3 r8 r3 v3 g38
    )
  ) else (
    hs_bd (fX4_isBranch r3 g11) fun r15 g14 =>
    if r15 = 0 then (
      if hs_kd g14 v4 = 6 then
      jX5_writeJump_102 v3 r8 (hs_wI g14 v4 9 ((hs_I g14 v4 9) + (1 : Int32)))
      else none
    ) else (
      hs_bd (fX4_opposite r3 g14) fun r27 g26 =>
      if hs_kd g26 v3 = 0 then
      hs_bv (fX0_append v3 r27 g26) fun g30 =>
      if hs_kd g30 v3 = 0 then
      hs_bv (fX0_append v3 (5 : Int32) g30) fun g34 =>
      if hs_kd g34 v4 = 6 then
      jX5_writeJump_102 v3 (r8 + (-2 : Int32)) (hs_wI g34 v4 8 ((hs_I g34 v4 8) + (1 : Int32)))
      else none else none else none
    )
  )
  else none else none else none else none
abbrev rmX5_writeJump : Room := { frames := 3, cells := 0, slots := 0, locals := 64 }
set_option maxHeartbeats 4000000 in
set_option maxRecDepth 100000 in
theorem wX5_writeJump_j102 {p : Program} {l : Launch} {e : Env} {s : State} {m : MethodId} {args : Array Value} {below : List Frame} {meth : Method} {c : Code} {B : Nat} {D : va_G} {E : Nat → ClassId} (hX : hs_cx cX5_writeJump none 7 RX5 wcX5_writeJump p s m args meth c D E) {o : hs_S}  {v3 : Nat} {v6 : Int32}   {g : hs_S} {H : Heap} {locs : List Loc} {ls : Array Slot} (hf : jX5_writeJump_102 v3 v6 g = some o) (hP : hs_P B D E g H) (hS : hs_Sx B s.heap H locs) (hl : lv_has ls 7 [(3, .ref (B + v3)), (6, .int v6)]) : W p l e rmX5_writeJump s m args below meth c H locs 0 0 (MQ below (hs_Qv B D E o) args s 0 0 (hs_F B)) (F0 m 102 ls []) := by
  obtain ⟨hx, hb, hr, hml, hown, hts, hlocks, hK⟩ := id hX
  unfold jX5_writeJump_102 at hf
  refine lv_aload_n hx hb dX5_writeJump_102 rfl (lv_at hl 0 rfl) ?_
  refine lv_sipush (v := 168) hx hb dX5_writeJump_103 (by decide) ?_
  obtain ⟨h18, hf⟩ := hs_ck hf
  obtain ⟨g19, h21, hf⟩ := hs_bv_some hf
  refine hs_callv (va_runV (As := [.int (168 : Int32)]) (rest := []) ⟨hx, hb, hml, hown, hts⟩ (ctX0_append l B D E v3 (168 : Int32) g _ h21) (cwV 1 hts (hs_gV (fun _ h => List.mem_cons_of_mem _ h) wq562 wq167 wq168 wq15 wq169) rfl rfl rfl (by decide +kernel) ⟨Nat.le_of_ble_eq_true rfl, Nat.le_of_ble_eq_true rfl⟩) (hs_preV (r := (RX0, TX0, 5)) hP hK h18 (by decide) rfl) rfl rfl hl.1 rfl (lv_room (Nat.le_of_ble_eq_true rfl)) dX5_writeJump_106 ⟨(Nat.le_of_ble_eq_true rfl), (Nat.le_of_ble_eq_true rfl)⟩) hS (fun H locs hP hS => ?_)
  refine lv_aload_n hx hb dX5_writeJump_109 rfl (lv_at hl 0 rfl) ?_
  refine lv_iload hx hb dX5_writeJump_110 (lv_at hl 1 rfl) ?_
  obtain ⟨h22, hf⟩ := hs_ck hf
  obtain ⟨g23, h25, hf⟩ := hs_bv_some hf
  refine hs_callv (va_runV (As := [.int v6]) (rest := []) ⟨hx, hb, hml, hown, hts⟩ (ctX0_appendPair l B D E v3 v6 g19 _ h25) (cwV 1 hts (hs_gV (fun _ h => List.mem_cons_of_mem _ h) wq563 wq564 wq565 wq15 wq566) rfl rfl rfl (by decide +kernel) ⟨Nat.le_of_ble_eq_true rfl, Nat.le_of_ble_eq_true rfl⟩) (hs_preV (r := (RX0, TX0, 5)) hP hK h22 (by decide) rfl) rfl rfl hl.1 rfl (lv_room (Nat.le_of_ble_eq_true rfl)) dX5_writeJump_112 ⟨(Nat.le_of_ble_eq_true rfl), (Nat.le_of_ble_eq_true rfl)⟩) hS (fun H locs hP hS => ?_)
  exact hs_vret hx hb hr hlocks hK hP hS hf dX5_writeJump_115

set_option maxHeartbeats 4000000 in
set_option maxRecDepth 100000 in
theorem wX5_writeJump_j42 {p : Program} {l : Launch} {e : Env} {s : State} {m : MethodId} {args : Array Value} {below : List Frame} {meth : Method} {c : Code} {B : Nat} {D : va_G} {E : Nat → ClassId} (hX : hs_cx cX5_writeJump none 7 RX5 wcX5_writeJump p s m args meth c D E) {o : hs_S}  {v3 : Nat} {v6 : Int32} {s0 : Int32} {s1 : Nat}   {g : hs_S} {H : Heap} {locs : List Loc} {ls : Array Slot} (hf : jX5_writeJump_42 v3 v6 s0 s1 g = some o) (hP : hs_P B D E g H) (hS : hs_Sx B s.heap H locs) (hl : lv_has ls 7 [(3, .ref (B + v3)), (6, .int v6)]) : W p l e rmX5_writeJump s m args below meth c H locs 0 0 (MQ below (hs_Qv B D E o) args s 0 0 (hs_F B)) (F0 m 42 ls [.int s0, .ref (B + s1)]) := by
  obtain ⟨hx, hb, hr, hml, hown, hts, hlocks, hK⟩ := id hX
  unfold jX5_writeJump_42 at hf
  obtain ⟨h41, hf⟩ := hs_ck hf
  obtain ⟨g42, h44, hf⟩ := hs_bv_some hf
  refine hs_callv (va_runV (As := [.int s0]) (rest := []) ⟨hx, hb, hml, hown, hts⟩ (ctX0_append l B D E s1 s0 g _ h44) (cwV 1 hts (hs_gV (fun _ h => List.mem_cons_of_mem _ h) wq562 wq167 wq168 wq15 wq169) rfl rfl rfl (by decide +kernel) ⟨Nat.le_of_ble_eq_true rfl, Nat.le_of_ble_eq_true rfl⟩) (hs_preV (r := (RX0, TX0, 5)) hP hK h41 (by decide) rfl) rfl rfl hl.1 rfl (lv_room (Nat.le_of_ble_eq_true rfl)) dX5_writeJump_42 ⟨(Nat.le_of_ble_eq_true rfl), (Nat.le_of_ble_eq_true rfl)⟩) hS (fun H locs hP hS => ?_)
  refine lv_aload_n hx hb dX5_writeJump_45 rfl (lv_at hl 0 rfl) ?_
  refine lv_iload hx hb dX5_writeJump_46 (lv_at hl 1 rfl) ?_
  obtain ⟨h45, hf⟩ := hs_ck hf
  obtain ⟨g46, h48, hf⟩ := hs_bv_some hf
  refine hs_callv (va_runV (As := [.int v6]) (rest := []) ⟨hx, hb, hml, hown, hts⟩ (ctX0_append l B D E v3 v6 g42 _ h48) (cwV 1 hts (hs_gV (fun _ h => List.mem_cons_of_mem _ h) wq562 wq167 wq168 wq15 wq169) rfl rfl rfl (by decide +kernel) ⟨Nat.le_of_ble_eq_true rfl, Nat.le_of_ble_eq_true rfl⟩) (hs_preV (r := (RX0, TX0, 5)) hP hK h45 (by decide) rfl) rfl rfl hl.1 rfl (lv_room (Nat.le_of_ble_eq_true rfl)) dX5_writeJump_48 ⟨(Nat.le_of_ble_eq_true rfl), (Nat.le_of_ble_eq_true rfl)⟩) hS (fun H locs hP hS => ?_)
  exact hs_vret hx hb hr hlocks hK hP hS hf dX5_writeJump_51

set_option maxHeartbeats 4000000 in
set_option maxRecDepth 100000 in
theorem ctX5_writeJump (l : Launch) (B : Nat) (D : va_G) (E : Nat → ClassId) (v0 : Nat) (v1 : Nat) (v2 : Int32) (v3 : Nat) (v4 : Nat) (g : hs_S) (o : hs_S) (hf : fX5_writeJump v0 v1 v2 v3 v4 g = some o) : Met l yX5_writeJump wcX5_writeJump rmX5_writeJump (hs_Pc B D E g [.ref (B + v0), .ref (B + v1), .int v2, .ref (B + v3), .ref (B + v4)]) (hs_Qv B D E o) (0) (0) (hs_F B) := by
  refine Met.ofW (cc := cX5_writeJump) (maxL := 7) (ret := none) (by decide) rfl ?_
  intro p e s m args below meth c s₁ Bd hml hv
  obtain ⟨rfl, hP, hK⟩ := hv
  have hx := Bd.exec
  have hb := Bd.bytes
  have hr := Bd.returns
  have hts := atoms_spec (ws := wcX5_writeJump) Bd.pre
  have hown : s.vm.findClass RX5 = some m.cls := findClass_of_methodNamed Bd.named
  have hlocks := Bd.notSynchronized
  have hS : hs_Sx B s.heap s.heap [] := va_S.rf
  have hX : hs_cx cX5_writeJump none 7 RX5 wcX5_writeJump p s m (List.toArray [.ref (B + v0), .ref (B + v1), .int v2, .ref (B + v3), .ref (B + v4)]) meth c D E := ⟨hx, hb, hr, hml, hown, hts, hlocks, hK⟩
  have hl := lv_entry ([.ref (B + v0), .ref (B + v1), .int v2, .ref (B + v3), .ref (B + v4)]) (n := 7) (Nat.le_of_ble_eq_true rfl)
  rw [lg_entry_eq]
  generalize (lg_sl ([.ref (B + v0), .ref (B + v1), .int v2, .ref (B + v3), .ref (B + v4)]) ++ List.replicate (7 - (lg_sl ([.ref (B + v0), .ref (B + v1), .int v2, .ref (B + v3), .ref (B + v4)])).length) Slot.unset).toArray = ls at hl ⊢
  have hl : lv_has ls 7 [(0, .ref (B + v0)), (1, .ref (B + v1)), (2, .int v2), (3, .ref (B + v3)), (4, .ref (B + v4))] := hl
  have hP : hs_P B D E g s.heap := hP
  unfold fX5_writeJump at hf
  refine lv_aload_n hx hb dX5_writeJump_0 rfl (lv_at hl 1 rfl) ?_
  refine lv_iload_n hx hb dX5_writeJump_1 rfl (lv_at hl 2 rfl) ?_
  obtain ⟨h1, hf⟩ := hs_ck hf
  obtain ⟨r3, g2, h4, hf⟩ := hs_bd_some hf
  refine hs_calli (va_runV (As := [.int v2]) (rest := []) ⟨hx, hb, hml, hown, hts⟩ (ctX7_valueAt l B D E v1 v2 g _ h4) (cwV 1 hts (hs_gV (fun _ h => List.mem_cons_of_mem _ h) wq526 wq249 wq250 wq43 wq251) rfl rfl rfl (by decide +kernel) ⟨Nat.le_of_ble_eq_true rfl, Nat.le_of_ble_eq_true rfl⟩) (hs_preV (r := (RX7, TX7, 11)) hP hK h1 (by decide) rfl) rfl rfl hl.1 rfl (lv_room (Nat.le_of_ble_eq_true rfl)) dX5_writeJump_2 ⟨(Nat.le_of_ble_eq_true rfl), (Nat.le_of_ble_eq_true rfl)⟩) hS (fun H locs hP hS => ?_)
  refine lv_istore (lv' := [(5, .int r3), (0, .ref (B + v0)), (1, .ref (B + v1)), (2, .int v2), (3, .ref (B + v3)), (4, .ref (B + v4))]) hx hb dX5_writeJump_5 hl (by decide) rfl (fun ls hl => ?_)
  refine lv_aload_n hx hb dX5_writeJump_7 rfl (lv_at hl 1 rfl) ?_
  obtain ⟨h5, hf⟩ := hs_ck hf
  obtain ⟨h6, hf⟩ := hs_ck hf
  refine hs_getr (C := RX5) (T := TX5) (N := 5) hx hb hts (fun w h => List.mem_cons_of_mem _ (inlX5 w h)) hown hK.1 hP h5 (by decide) rfl 2 (by decide) (hts _ (List.mem_cons_of_mem _ wq87)) (fun _ h => h) rfl h6 dX5_writeJump_8 ?_
  refine lv_iload_n hx hb dX5_writeJump_11 rfl (lv_at hl 3 rfl) ?_
  obtain ⟨r8, g7, h9, hf⟩ := hs_bd_some hf
  refine hs_calli (va_runS (As := [.ref (B + ((hs_R g2 v0 2) - 1)), .int v2]) (rest := []) ⟨hx, hb, hml, hown, hts⟩ (ctX9_at l B D E ((hs_R g2 v0 2) - 1) v2 g2 _ h9) (va_cwS 2 hts (hs_gS (fun _ h => List.mem_cons_of_mem _ h) wq521 wq193 wq68 wq194) rfl rfl rfl (by decide +kernel) ⟨Nat.le_of_ble_eq_true rfl, Nat.le_of_ble_eq_true rfl⟩) (hs_pre hP hK) rfl rfl hl.1 rfl (lv_room (Nat.le_of_ble_eq_true rfl)) dX5_writeJump_12 ⟨(Nat.le_of_ble_eq_true rfl), (Nat.le_of_ble_eq_true rfl)⟩) hS (fun H locs hP hS => ?_)
  refine lv_istore (lv' := [(6, .int r8), (5, .int r3), (0, .ref (B + v0)), (1, .ref (B + v1)), (2, .int v2), (3, .ref (B + v3)), (4, .ref (B + v4))]) hx hb dX5_writeJump_15 hl (by decide) rfl (fun ls hl => ?_)
  refine lv_aload_n hx hb dX5_writeJump_17 rfl (lv_at hl 2 rfl) ?_
  refine lv_iload_n hx hb dX5_writeJump_18 rfl (lv_at hl 4 rfl) ?_
  obtain ⟨h10, hf⟩ := hs_ck hf
  obtain ⟨r12, g11, h13, hf⟩ := hs_bd_some hf
  refine hs_calli (va_runV (As := [.int v2]) (rest := []) ⟨hx, hb, hml, hown, hts⟩ (ctX5_isLong l B D E v0 v2 g7 _ h13) (cwV 1 hts (hs_gV (fun _ h => List.mem_cons_of_mem _ h) wq533 wq534 wq535 wq30 wq536) rfl rfl rfl (by decide +kernel) ⟨Nat.le_of_ble_eq_true rfl, Nat.le_of_ble_eq_true rfl⟩) (hs_preV (r := (RX5, TX5, 5)) hP hK h10 (by decide) rfl) rfl rfl hl.1 rfl (lv_room (Nat.le_of_ble_eq_true rfl)) dX5_writeJump_19 ⟨(Nat.le_of_ble_eq_true rfl), (Nat.le_of_ble_eq_true rfl)⟩) hS (fun H locs hP hS => ?_)
  refine lv_if_ne (tgt := 52) hx hb dX5_writeJump_22 (by decide) (fun hc => ?_) (fun hc => ?_)
  · replace hf := hs_f hf hc
    refine lv_iload hx hb dX5_writeJump_52 (lv_at hl 1 rfl) ?_
    obtain ⟨r15, g14, h16, hf⟩ := hs_bd_some hf
    refine hs_calli (va_runS (As := [.int r3]) (rest := []) ⟨hx, hb, hml, hown, hts⟩ (ctX4_isBranch l B D E r3 g11 _ h16) (va_cwS 1 hts (hs_gS (fun _ h => List.mem_cons_of_mem _ h) wq537 wq264 wq258 wq265) rfl rfl rfl (by decide +kernel) ⟨Nat.le_of_ble_eq_true rfl, Nat.le_of_ble_eq_true rfl⟩) (hs_pre hP hK) rfl rfl hl.1 rfl (lv_room (Nat.le_of_ble_eq_true rfl)) dX5_writeJump_54 ⟨(Nat.le_of_ble_eq_true rfl), (Nat.le_of_ble_eq_true rfl)⟩) hS (fun H locs hP hS => ?_)
    refine lv_if_eq (tgt := 91) hx hb dX5_writeJump_57 (by decide) (fun hc => ?_) (fun hc => ?_)
    · replace hf := hs_t hf hc
      refine lv_aload hx hb dX5_writeJump_91 (lv_at hl 6 rfl) ?_
      refine lv_dup hx hb dX5_writeJump_93 rfl ?_
      obtain ⟨h17, hf⟩ := hs_ck hf
      refine hs_geti (C := RX7) (T := TX7) (N := 11) hx hb hts (fun w h => List.mem_cons_of_mem _ (inlX7 w h)) hown hK.1 hP h17 (by decide) rfl 9 (by decide) (hts _ (List.mem_cons_of_mem _ wq573)) (fun _ h => h) rfl dX5_writeJump_94 ?_
      refine lv_iconst (v := 1) hx hb dX5_writeJump_97 (by decide) ?_
      refine lv_iadd hx hb dX5_writeJump_98 ?_
      refine hs_puti (C := RX7) (T := TX7) (N := 11) hx hb hts (fun w h => List.mem_cons_of_mem _ (inlX7 w h)) tyX7 tyX7_ok nmX7 hown hK.1 hP hS h17 (by decide) rfl 9 (by decide) (hts _ (List.mem_cons_of_mem _ wq573)) (fun _ h => h) (Or.inl rfl) rfl rfl rfl dX5_writeJump_99 (fun H locs hP hS => ?_)
      exact wX5_writeJump_j102 hX hf hP hS (lv_sub hl [5, 0] rfl)
    · replace hf := hs_f hf hc
      refine lv_aload_n hx hb dX5_writeJump_60 rfl (lv_at hl 5 rfl) ?_
      refine lv_iload hx hb dX5_writeJump_61 (lv_at hl 1 rfl) ?_
      obtain ⟨r27, g26, h28, hf⟩ := hs_bd_some hf
      refine hs_calli (va_runS (As := [.int r3]) (rest := [.ref (B + v3)]) ⟨hx, hb, hml, hown, hts⟩ (ctX4_opposite l B D E r3 g14 _ h28) (va_cwS 1 hts (hs_gS (fun _ h => List.mem_cons_of_mem _ h) wq574 wq575 wq258 wq576) rfl rfl rfl (by decide +kernel) ⟨Nat.le_of_ble_eq_true rfl, Nat.le_of_ble_eq_true rfl⟩) (hs_pre hP hK) rfl rfl hl.1 rfl (lv_room (Nat.le_of_ble_eq_true rfl)) dX5_writeJump_63 ⟨(Nat.le_of_ble_eq_true rfl), (Nat.le_of_ble_eq_true rfl)⟩) hS (fun H locs hP hS => ?_)
      obtain ⟨h29, hf⟩ := hs_ck hf
      obtain ⟨g30, h32, hf⟩ := hs_bv_some hf
      refine hs_callv (va_runV (As := [.int r27]) (rest := []) ⟨hx, hb, hml, hown, hts⟩ (ctX0_append l B D E v3 r27 g26 _ h32) (cwV 1 hts (hs_gV (fun _ h => List.mem_cons_of_mem _ h) wq562 wq167 wq168 wq15 wq169) rfl rfl rfl (by decide +kernel) ⟨Nat.le_of_ble_eq_true rfl, Nat.le_of_ble_eq_true rfl⟩) (hs_preV (r := (RX0, TX0, 5)) hP hK h29 (by decide) rfl) rfl rfl hl.1 rfl (lv_room (Nat.le_of_ble_eq_true rfl)) dX5_writeJump_66 ⟨(Nat.le_of_ble_eq_true rfl), (Nat.le_of_ble_eq_true rfl)⟩) hS (fun H locs hP hS => ?_)
      refine lv_aload_n hx hb dX5_writeJump_69 rfl (lv_at hl 5 rfl) ?_
      refine lv_iconst (v := 5) hx hb dX5_writeJump_70 (by decide) ?_
      obtain ⟨h33, hf⟩ := hs_ck hf
      obtain ⟨g34, h36, hf⟩ := hs_bv_some hf
      refine hs_callv (va_runV (As := [.int (5 : Int32)]) (rest := []) ⟨hx, hb, hml, hown, hts⟩ (ctX0_append l B D E v3 (5 : Int32) g30 _ h36) (cwV 1 hts (hs_gV (fun _ h => List.mem_cons_of_mem _ h) wq562 wq167 wq168 wq15 wq169) rfl rfl rfl (by decide +kernel) ⟨Nat.le_of_ble_eq_true rfl, Nat.le_of_ble_eq_true rfl⟩) (hs_preV (r := (RX0, TX0, 5)) hP hK h33 (by decide) rfl) rfl rfl hl.1 rfl (lv_room (Nat.le_of_ble_eq_true rfl)) dX5_writeJump_71 ⟨(Nat.le_of_ble_eq_true rfl), (Nat.le_of_ble_eq_true rfl)⟩) hS (fun H locs hP hS => ?_)
      refine lv_iinc (v := (r8 + (-2 : Int32))) (lv' := [(6, .int (r8 + (-2 : Int32))), (5, .int r3), (0, .ref (B + v0)), (1, .ref (B + v1)), (2, .int v2), (3, .ref (B + v3)), (4, .ref (B + v4))]) hx hb dX5_writeJump_74 hl (k := 0) rfl (by rfl) (by decide) rfl (fun ls hl => ?_)
      refine lv_aload hx hb dX5_writeJump_77 (lv_at hl 6 rfl) ?_
      refine lv_dup hx hb dX5_writeJump_79 rfl ?_
      obtain ⟨h37, hf⟩ := hs_ck hf
      refine hs_geti (C := RX7) (T := TX7) (N := 11) hx hb hts (fun w h => List.mem_cons_of_mem _ (inlX7 w h)) hown hK.1 hP h37 (by decide) rfl 8 (by decide) (hts _ (List.mem_cons_of_mem _ wq572)) (fun _ h => h) rfl dX5_writeJump_80 ?_
      refine lv_iconst (v := 1) hx hb dX5_writeJump_83 (by decide) ?_
      refine lv_iadd hx hb dX5_writeJump_84 ?_
      refine hs_puti (C := RX7) (T := TX7) (N := 11) hx hb hts (fun w h => List.mem_cons_of_mem _ (inlX7 w h)) tyX7 tyX7_ok nmX7 hown hK.1 hP hS h37 (by decide) rfl 8 (by decide) (hts _ (List.mem_cons_of_mem _ wq572)) (fun _ h => h) (Or.inl rfl) rfl rfl rfl dX5_writeJump_85 (fun H locs hP hS => ?_)
      refine lv_goto (tgt := 102) hx hb dX5_writeJump_88 (by decide) ?_
      exact wX5_writeJump_j102 hX hf hP hS (lv_sub hl [5, 0] rfl)
  · replace hf := hs_t hf hc
    refine lv_aload_n hx hb dX5_writeJump_25 rfl (lv_at hl 5 rfl) ?_
    refine lv_iload hx hb dX5_writeJump_26 (lv_at hl 1 rfl) ?_
    obtain ⟨r39, g38, h40, hf⟩ := hs_bd_some hf
    refine hs_calli (va_runS (As := [.int r3]) (rest := [.ref (B + v3)]) ⟨hx, hb, hml, hown, hts⟩ (ctX4_isBranch l B D E r3 g11 _ h40) (va_cwS 1 hts (hs_gS (fun _ h => List.mem_cons_of_mem _ h) wq537 wq264 wq258 wq265) rfl rfl rfl (by decide +kernel) ⟨Nat.le_of_ble_eq_true rfl, Nat.le_of_ble_eq_true rfl⟩) (hs_pre hP hK) rfl rfl hl.1 rfl (lv_room (Nat.le_of_ble_eq_true rfl)) dX5_writeJump_28 ⟨(Nat.le_of_ble_eq_true rfl), (Nat.le_of_ble_eq_true rfl)⟩) hS (fun H locs hP hS => ?_)
    refine lv_if_eq (tgt := 39) hx hb dX5_writeJump_31 (by decide) (fun hc => ?_) (fun hc => ?_)
    · replace hf := hs_t hf hc
      refine lv_sipush (v := 167) hx hb dX5_writeJump_39 (by decide) ?_
      exact wX5_writeJump_j42 hX hf hP hS (lv_sub hl [5, 0] rfl)
    · replace hf := hs_f hf hc
      refine lv_iload hx hb dX5_writeJump_34 (lv_at hl 1 rfl) ?_
      refine lv_goto (tgt := 42) hx hb dX5_writeJump_36 (by decide) ?_
      exact wX5_writeJump_j42 hX hf hP hS (lv_sub hl [5, 0] rfl)

theorem dX5_writeInstruction_0 : decode cX5_writeInstruction 0 = .ok (.aload_n 0, 1) := by decide +kernel
theorem dX5_writeInstruction_1 : decode cX5_writeInstruction 1 = .ok (.getfield 9, 3) := by decide +kernel
theorem dX5_writeInstruction_4 : decode cX5_writeInstruction 4 = .ok (.iload_n 2, 1) := by decide +kernel
theorem dX5_writeInstruction_5 : decode cX5_writeInstruction 5 = .ok (.invokestatic 113, 3) := by decide +kernel
theorem dX5_writeInstruction_8 : decode cX5_writeInstruction 8 = .ok (.istore 5, 2) := by decide +kernel
theorem dX5_writeInstruction_10 : decode cX5_writeInstruction 10 = .ok (.iload 5, 2) := by decide +kernel
theorem dX5_writeInstruction_12 : decode cX5_writeInstruction 12 = .ok (.ifCond .le 25, 3) := by decide +kernel
theorem dX5_writeInstruction_15 : decode cX5_writeInstruction 15 = .ok (.aload_n 3, 1) := by decide +kernel
theorem dX5_writeInstruction_16 : decode cX5_writeInstruction 16 = .ok (.sipush 202, 3) := by decide +kernel
theorem dX5_writeInstruction_19 : decode cX5_writeInstruction 19 = .ok (.invokevirtual 142, 3) := by decide +kernel
theorem dX5_writeInstruction_22 : decode cX5_writeInstruction 22 = .ok (.aload_n 3, 1) := by decide +kernel
theorem dX5_writeInstruction_23 : decode cX5_writeInstruction 23 = .ok (.iload 5, 2) := by decide +kernel
theorem dX5_writeInstruction_25 : decode cX5_writeInstruction 25 = .ok (.bipush 16, 2) := by decide +kernel
theorem dX5_writeInstruction_27 : decode cX5_writeInstruction 27 = .ok (.ishr, 1) := by decide +kernel
theorem dX5_writeInstruction_28 : decode cX5_writeInstruction 28 = .ok (.invokevirtual 146, 3) := by decide +kernel
theorem dX5_writeInstruction_31 : decode cX5_writeInstruction 31 = .ok (.aload_n 3, 1) := by decide +kernel
theorem dX5_writeInstruction_32 : decode cX5_writeInstruction 32 = .ok (.iload 5, 2) := by decide +kernel
theorem dX5_writeInstruction_34 : decode cX5_writeInstruction 34 = .ok (.invokevirtual 146, 3) := by decide +kernel
theorem dX5_writeInstruction_37 : decode cX5_writeInstruction 37 = .ok (.aload_n 0, 1) := by decide +kernel
theorem dX5_writeInstruction_38 : decode cX5_writeInstruction 38 = .ok (.aload_n 1, 1) := by decide +kernel
theorem dX5_writeInstruction_39 : decode cX5_writeInstruction 39 = .ok (.iload_n 2, 1) := by decide +kernel
theorem dX5_writeInstruction_40 : decode cX5_writeInstruction 40 = .ok (.invokevirtual 126, 3) := by decide +kernel
theorem dX5_writeInstruction_43 : decode cX5_writeInstruction 43 = .ok (.ifCond .eq 10, 3) := by decide +kernel
theorem dX5_writeInstruction_46 : decode cX5_writeInstruction 46 = .ok (.aload_n 3, 1) := by decide +kernel
theorem dX5_writeInstruction_47 : decode cX5_writeInstruction 47 = .ok (.sipush 203, 3) := by decide +kernel
theorem dX5_writeInstruction_50 : decode cX5_writeInstruction 50 = .ok (.invokevirtual 142, 3) := by decide +kernel
theorem dX5_writeInstruction_53 : decode cX5_writeInstruction 53 = .ok (.aload_n 1, 1) := by decide +kernel
theorem dX5_writeInstruction_54 : decode cX5_writeInstruction 54 = .ok (.iload_n 2, 1) := by decide +kernel
theorem dX5_writeInstruction_55 : decode cX5_writeInstruction 55 = .ok (.invokevirtual 117, 3) := by decide +kernel
theorem dX5_writeInstruction_58 : decode cX5_writeInstruction 58 = .ok (.invokestatic 130, 3) := by decide +kernel
theorem dX5_writeInstruction_61 : decode cX5_writeInstruction 61 = .ok (.ifCond .eq 13, 3) := by decide +kernel
theorem dX5_writeInstruction_64 : decode cX5_writeInstruction 64 = .ok (.aload_n 0, 1) := by decide +kernel
theorem dX5_writeInstruction_65 : decode cX5_writeInstruction 65 = .ok (.aload_n 1, 1) := by decide +kernel
theorem dX5_writeInstruction_66 : decode cX5_writeInstruction 66 = .ok (.iload_n 2, 1) := by decide +kernel
theorem dX5_writeInstruction_67 : decode cX5_writeInstruction 67 = .ok (.aload_n 3, 1) := by decide +kernel
theorem dX5_writeInstruction_68 : decode cX5_writeInstruction 68 = .ok (.aload 4, 2) := by decide +kernel
theorem dX5_writeInstruction_70 : decode cX5_writeInstruction 70 = .ok (.invokevirtual 149, 3) := by decide +kernel
theorem dX5_writeInstruction_73 : decode cX5_writeInstruction 73 = .ok (.return_, 1) := by decide +kernel
theorem dX5_writeInstruction_74 : decode cX5_writeInstruction 74 = .ok (.aload_n 1, 1) := by decide +kernel
theorem dX5_writeInstruction_75 : decode cX5_writeInstruction 75 = .ok (.iload_n 2, 1) := by decide +kernel
theorem dX5_writeInstruction_76 : decode cX5_writeInstruction 76 = .ok (.invokevirtual 152, 3) := by decide +kernel
theorem dX5_writeInstruction_79 : decode cX5_writeInstruction 79 = .ok (.istore 6, 2) := by decide +kernel
theorem dX5_writeInstruction_81 : decode cX5_writeInstruction 81 = .ok (.iconst 0, 1) := by decide +kernel
theorem dX5_writeInstruction_82 : decode cX5_writeInstruction 82 = .ok (.istore 7, 2) := by decide +kernel
theorem dX5_writeInstruction_84 : decode cX5_writeInstruction 84 = .ok (.iload 7, 2) := by decide +kernel
theorem dX5_writeInstruction_86 : decode cX5_writeInstruction 86 = .ok (.iload 6, 2) := by decide +kernel
theorem dX5_writeInstruction_88 : decode cX5_writeInstruction 88 = .ok (.if_icmp .ge 21, 3) := by decide +kernel
theorem dX5_writeInstruction_91 : decode cX5_writeInstruction 91 = .ok (.aload_n 3, 1) := by decide +kernel
theorem dX5_writeInstruction_92 : decode cX5_writeInstruction 92 = .ok (.aload_n 1, 1) := by decide +kernel
theorem dX5_writeInstruction_93 : decode cX5_writeInstruction 93 = .ok (.iload_n 2, 1) := by decide +kernel
theorem dX5_writeInstruction_94 : decode cX5_writeInstruction 94 = .ok (.iload 7, 2) := by decide +kernel
theorem dX5_writeInstruction_96 : decode cX5_writeInstruction 96 = .ok (.iadd, 1) := by decide +kernel
theorem dX5_writeInstruction_97 : decode cX5_writeInstruction 97 = .ok (.invokevirtual 117, 3) := by decide +kernel
theorem dX5_writeInstruction_100 : decode cX5_writeInstruction 100 = .ok (.invokevirtual 142, 3) := by decide +kernel
theorem dX5_writeInstruction_103 : decode cX5_writeInstruction 103 = .ok (.iinc 7 1, 3) := by decide +kernel
theorem dX5_writeInstruction_106 : decode cX5_writeInstruction 106 = .ok (.goto (-22), 3) := by decide +kernel
theorem dX5_writeInstruction_109 : decode cX5_writeInstruction 109 = .ok (.return_, 1) := by decide +kernel
abbrev wcX5_writeInstruction : List Cond := .code yX5_writeInstruction cX5_writeInstruction 8 none :: wsL_law
def lX5_writeInstruction_84 : Nat → Nat → Int32 → Nat → Int32 → Int32 → hs_S → Option (hs_S)
  | 0, _, _, _, _, _, _ => none
  | n + 1, v1, v2, v3, v6, v7, g =>
    if v6 ≤ v7 then (
      some g
    ) else (
      if hs_kd g v1 = 6 then
      hs_bd (fX7_valueAt v1 (v2 + v7) g) fun r23 g22 =>
      if hs_kd g22 v3 = 0 then
      hs_bv (fX0_append v3 r23 g22) fun g26 =>
      lX5_writeInstruction_84 n v1 v2 v3 v6 (v7 + (1 : Int32)) g26
      else none else none
    )
theorem lX5_writeInstruction_84_s (n : Nat) (v1 : Nat) (v2 : Int32) (v3 : Nat) (v6 : Int32) (v7 : Int32) (g : hs_S) : lX5_writeInstruction_84 (n + 1) v1 v2 v3 v6 v7 g =
    if v6 ≤ v7 then (
      some g
    ) else (
      if hs_kd g v1 = 6 then
      hs_bd (fX7_valueAt v1 (v2 + v7) g) fun r23 g22 =>
      if hs_kd g22 v3 = 0 then
      hs_bv (fX0_append v3 r23 g22) fun g26 =>
      lX5_writeInstruction_84 n v1 v2 v3 v6 (v7 + (1 : Int32)) g26
      else none else none
    ) := rfl
def jX5_writeInstruction_53 (v0 : Nat) (v1 : Nat) (v2 : Int32) (v3 : Nat) (v4 : Nat) (g : hs_S) : Option (hs_S) :=
  if hs_kd g v1 = 6 then
  hs_bd (fX7_valueAt v1 v2 g) fun r12 g11 =>
  hs_bd (fX4_isJump r12 g11) fun r15 g14 =>
  if r15 = 0 then (
    if hs_kd g14 v1 = 6 then
    hs_bd (fX7_sizeAt v1 v2 g14) fun r19 g18 =>
    hs_bv (lX5_writeInstruction_84 hs_N v1 v2 v3 r19 (0 : Int32) g18) fun g30 =>
    some g30
    else none
  ) else (
    if hs_kd g14 v0 = 4 then
    hs_bv (fX5_writeJump v0 v1 v2 v3 v4 g14) fun g33 =>
    some g33
    else none
  )
  else none
def jX5_writeInstruction_37 (v0 : Nat) (v1 : Nat) (v2 : Int32) (v3 : Nat) (v4 : Nat) (g : hs_S) : Option (hs_S) :=
  if hs_kd g v0 = 4 then
  hs_bd (fX5_paysTop v0 v1 v2 g) fun r8 g7 =>
  if r8 = 0 then (
    jX5_writeInstruction_53 v0 v1 v2 v3 v4 g7
  ) else (
    if hs_kd g7 v3 = 0 then
    hs_bv (fX0_append v3 (203 : Int32) g7) fun g37 =>
    jX5_writeInstruction_53 v0 v1 v2 v3 v4 g37
    else none
  )
  else none
def fX5_writeInstruction (v0 : Nat) (v1 : Nat) (v2 : Int32) (v3 : Nat) (v4 : Nat) (g : hs_S) : Option (hs_S) :=
  if hs_kd g v0 = 4 then
  if ¬ (hs_R g v0 0) = 0 then
  hs_bd (fX9_at ((hs_R g v0 0) - 1) v2 g) fun r4 g3 =>
  if r4 ≤ 0 then (
    jX5_writeInstruction_37 v0 v1 v2 v3 v4 g3
  ) else (
    if hs_kd g3 v3 = 0 then
    hs_bv (fX0_append v3 (202 : Int32) g3) fun g41 =>
    if hs_kd g41 v3 = 0 then
    hs_bv (fX0_appendPair v3 (r4 >>> ((16 : Int32) &&& 31)) g41) fun g45 =>
    if hs_kd g45 v3 = 0 then
    hs_bv (fX0_appendPair v3 r4 g45) fun g49 =>
    jX5_writeInstruction_37 v0 v1 v2 v3 v4 g49
    else none else none else none
  )
  else none else none
abbrev rmX5_writeInstruction : Room := { frames := 4, cells := 0, slots := 0, locals := 90 }
set_option maxHeartbeats 4000000 in
set_option maxRecDepth 100000 in
theorem wX5_writeInstruction_84 {p : Program} {l : Launch} {e : Env} {s : State} {m : MethodId} {args : Array Value} {below : List Frame} {meth : Method} {c : Code} {B : Nat} {D : va_G} {E : Nat → ClassId} (hX : hs_cx cX5_writeInstruction none 8 RX5 wcX5_writeInstruction p s m args meth c D E) {Q : State → Prop} {o : hs_S} {v1 : Nat} {v2 : Int32} {v3 : Nat} {v6 : Int32} (hex0 : ∀ (H : Heap) (locs : List Loc) (ls : Array Slot), hs_P B D E (o) H → hs_Sx B s.heap H locs → lv_has ls 8 [] → W p l e rmX5_writeInstruction s m args below meth c H locs 0 0 Q (F0 m 109 ls [])) : ∀ (n : Nat) (v7 : Int32) (g : hs_S), lX5_writeInstruction_84 n v1 v2 v3 v6 v7 g = some o → ∀ (H : Heap) (locs : List Loc) (ls : Array Slot), hs_P B D E g H → hs_Sx B s.heap H locs → lv_has ls 8 [(1, .ref (B + v1)), (2, .int v2), (3, .ref (B + v3)), (6, .int v6), (7, .int v7)] → W p l e rmX5_writeInstruction s m args below meth c H locs 0 0 Q (F0 m 84 ls []) := by
  obtain ⟨hx, hb, hr, hml, hown, hts, hlocks, hK⟩ := id hX
  intro n
  induction n with
  | zero =>
    intro v7 g hf
    cases hf
  | succ n ih =>
    intro v7 g hf H locs ls hP hS hl
    replace hf := (lX5_writeInstruction_84_s n v1 v2 v3 v6 v7 g).symm.trans hf
    refine lv_iload hx hb dX5_writeInstruction_84 (lv_at hl 4 rfl) ?_
    refine lv_iload hx hb dX5_writeInstruction_86 (lv_at hl 3 rfl) ?_
    refine lv_icmp_ge (tgt := 109) hx hb dX5_writeInstruction_88 (by decide) (fun hc => ?_) (fun hc => ?_)
    · replace hf := hs_t hf hc
      obtain rfl := Option.some.inj hf
      exact hex0 _ _ _ hP hS (lv_sub hl [] rfl)
    · replace hf := hs_f hf hc
      refine lv_aload_n hx hb dX5_writeInstruction_91 rfl (lv_at hl 2 rfl) ?_
      refine lv_aload_n hx hb dX5_writeInstruction_92 rfl (lv_at hl 0 rfl) ?_
      refine lv_iload_n hx hb dX5_writeInstruction_93 rfl (lv_at hl 1 rfl) ?_
      refine lv_iload hx hb dX5_writeInstruction_94 (lv_at hl 4 rfl) ?_
      refine lv_iadd hx hb dX5_writeInstruction_96 ?_
      obtain ⟨h21, hf⟩ := hs_ck hf
      obtain ⟨r23, g22, h24, hf⟩ := hs_bd_some hf
      refine hs_calli (va_runV (As := [.int (v2 + v7)]) (rest := [.ref (B + v3)]) ⟨hx, hb, hml, hown, hts⟩ (ctX7_valueAt l B D E v1 (v2 + v7) g _ h24) (cwV 1 hts (hs_gV (fun _ h => List.mem_cons_of_mem _ h) wq526 wq249 wq250 wq43 wq251) rfl rfl rfl (by decide +kernel) ⟨Nat.le_of_ble_eq_true rfl, Nat.le_of_ble_eq_true rfl⟩) (hs_preV (r := (RX7, TX7, 11)) hP hK h21 (by decide) rfl) rfl rfl hl.1 rfl (lv_room (Nat.le_of_ble_eq_true rfl)) dX5_writeInstruction_97 ⟨(Nat.le_of_ble_eq_true rfl), (Nat.le_of_ble_eq_true rfl)⟩) hS (fun H locs hP hS => ?_)
      obtain ⟨h25, hf⟩ := hs_ck hf
      obtain ⟨g26, h28, hf⟩ := hs_bv_some hf
      refine hs_callv (va_runV (As := [.int r23]) (rest := []) ⟨hx, hb, hml, hown, hts⟩ (ctX0_append l B D E v3 r23 g22 _ h28) (cwV 1 hts (hs_gV (fun _ h => List.mem_cons_of_mem _ h) wq562 wq167 wq168 wq15 wq169) rfl rfl rfl (by decide +kernel) ⟨Nat.le_of_ble_eq_true rfl, Nat.le_of_ble_eq_true rfl⟩) (hs_preV (r := (RX0, TX0, 5)) hP hK h25 (by decide) rfl) rfl rfl hl.1 rfl (lv_room (Nat.le_of_ble_eq_true rfl)) dX5_writeInstruction_100 ⟨(Nat.le_of_ble_eq_true rfl), (Nat.le_of_ble_eq_true rfl)⟩) hS (fun H locs hP hS => ?_)
      refine lv_iinc (v := (v7 + (1 : Int32))) (lv' := [(7, .int (v7 + (1 : Int32))), (1, .ref (B + v1)), (2, .int v2), (3, .ref (B + v3)), (6, .int v6)]) hx hb dX5_writeInstruction_103 hl (k := 4) rfl (by rfl) (by decide) rfl (fun ls hl => ?_)
      refine lv_goto (tgt := 84) hx hb dX5_writeInstruction_106 (by decide) ?_
      exact ih _ _ hf _ _ _ hP hS (lv_sub hl [1, 2, 3, 4, 0] rfl)

set_option maxHeartbeats 4000000 in
set_option maxRecDepth 100000 in
theorem wX5_writeInstruction_j53 {p : Program} {l : Launch} {e : Env} {s : State} {m : MethodId} {args : Array Value} {below : List Frame} {meth : Method} {c : Code} {B : Nat} {D : va_G} {E : Nat → ClassId} (hX : hs_cx cX5_writeInstruction none 8 RX5 wcX5_writeInstruction p s m args meth c D E) {o : hs_S}  {v0 : Nat} {v1 : Nat} {v2 : Int32} {v3 : Nat} {v4 : Nat}   {g : hs_S} {H : Heap} {locs : List Loc} {ls : Array Slot} (hf : jX5_writeInstruction_53 v0 v1 v2 v3 v4 g = some o) (hP : hs_P B D E g H) (hS : hs_Sx B s.heap H locs) (hl : lv_has ls 8 [(0, .ref (B + v0)), (1, .ref (B + v1)), (2, .int v2), (3, .ref (B + v3)), (4, .ref (B + v4))]) : W p l e rmX5_writeInstruction s m args below meth c H locs 0 0 (MQ below (hs_Qv B D E o) args s 0 0 (hs_F B)) (F0 m 53 ls []) := by
  obtain ⟨hx, hb, hr, hml, hown, hts, hlocks, hK⟩ := id hX
  unfold jX5_writeInstruction_53 at hf
  refine lv_aload_n hx hb dX5_writeInstruction_53 rfl (lv_at hl 1 rfl) ?_
  refine lv_iload_n hx hb dX5_writeInstruction_54 rfl (lv_at hl 2 rfl) ?_
  obtain ⟨h10, hf⟩ := hs_ck hf
  obtain ⟨r12, g11, h13, hf⟩ := hs_bd_some hf
  refine hs_calli (va_runV (As := [.int v2]) (rest := []) ⟨hx, hb, hml, hown, hts⟩ (ctX7_valueAt l B D E v1 v2 g _ h13) (cwV 1 hts (hs_gV (fun _ h => List.mem_cons_of_mem _ h) wq526 wq249 wq250 wq43 wq251) rfl rfl rfl (by decide +kernel) ⟨Nat.le_of_ble_eq_true rfl, Nat.le_of_ble_eq_true rfl⟩) (hs_preV (r := (RX7, TX7, 11)) hP hK h10 (by decide) rfl) rfl rfl hl.1 rfl (lv_room (Nat.le_of_ble_eq_true rfl)) dX5_writeInstruction_55 ⟨(Nat.le_of_ble_eq_true rfl), (Nat.le_of_ble_eq_true rfl)⟩) hS (fun H locs hP hS => ?_)
  obtain ⟨r15, g14, h16, hf⟩ := hs_bd_some hf
  refine hs_calli (va_runS (As := [.int r12]) (rest := []) ⟨hx, hb, hml, hown, hts⟩ (ctX4_isJump l B D E r12 g11 _ h16) (va_cwS 1 hts (hs_gS (fun _ h => List.mem_cons_of_mem _ h) wq531 wq307 wq258 wq308) rfl rfl rfl (by decide +kernel) ⟨Nat.le_of_ble_eq_true rfl, Nat.le_of_ble_eq_true rfl⟩) (hs_pre hP hK) rfl rfl hl.1 rfl (lv_room (Nat.le_of_ble_eq_true rfl)) dX5_writeInstruction_58 ⟨(Nat.le_of_ble_eq_true rfl), (Nat.le_of_ble_eq_true rfl)⟩) hS (fun H locs hP hS => ?_)
  refine lv_if_eq (tgt := 74) hx hb dX5_writeInstruction_61 (by decide) (fun hc => ?_) (fun hc => ?_)
  · replace hf := hs_t hf hc
    refine lv_aload_n hx hb dX5_writeInstruction_74 rfl (lv_at hl 1 rfl) ?_
    refine lv_iload_n hx hb dX5_writeInstruction_75 rfl (lv_at hl 2 rfl) ?_
    obtain ⟨h17, hf⟩ := hs_ck hf
    obtain ⟨r19, g18, h20, hf⟩ := hs_bd_some hf
    refine hs_calli (va_runV (As := [.int v2]) (rest := []) ⟨hx, hb, hml, hown, hts⟩ (ctX7_sizeAt l B D E v1 v2 g14 _ h20) (cwV 1 hts (hs_gV (fun _ h => List.mem_cons_of_mem _ h) wq577 wq245 wq246 wq43 wq247) rfl rfl rfl (by decide +kernel) ⟨Nat.le_of_ble_eq_true rfl, Nat.le_of_ble_eq_true rfl⟩) (hs_preV (r := (RX7, TX7, 11)) hP hK h17 (by decide) rfl) rfl rfl hl.1 rfl (lv_room (Nat.le_of_ble_eq_true rfl)) dX5_writeInstruction_76 ⟨(Nat.le_of_ble_eq_true rfl), (Nat.le_of_ble_eq_true rfl)⟩) hS (fun H locs hP hS => ?_)
    refine lv_istore (lv' := [(6, .int r19), (0, .ref (B + v0)), (1, .ref (B + v1)), (2, .int v2), (3, .ref (B + v3)), (4, .ref (B + v4))]) hx hb dX5_writeInstruction_79 hl (by decide) rfl (fun ls hl => ?_)
    refine lv_iconst (v := 0) hx hb dX5_writeInstruction_81 (by decide) ?_
    refine lv_istore (lv' := [(7, .int (0 : Int32)), (6, .int r19), (0, .ref (B + v0)), (1, .ref (B + v1)), (2, .int v2), (3, .ref (B + v3)), (4, .ref (B + v4))]) hx hb dX5_writeInstruction_82 hl (by decide) rfl (fun ls hl => ?_)
    obtain ⟨g30, h31, hf⟩ := hs_bv_some hf
    refine wX5_writeInstruction_84 hX (fun H locs ls hP hS hl => ?_) hs_N _ _ h31 _ _ _ hP hS (lv_sub hl [3, 4, 5, 1, 0] rfl)
    exact hs_vret hx hb hr hlocks hK hP hS hf dX5_writeInstruction_109
  · replace hf := hs_f hf hc
    refine lv_aload_n hx hb dX5_writeInstruction_64 rfl (lv_at hl 0 rfl) ?_
    refine lv_aload_n hx hb dX5_writeInstruction_65 rfl (lv_at hl 1 rfl) ?_
    refine lv_iload_n hx hb dX5_writeInstruction_66 rfl (lv_at hl 2 rfl) ?_
    refine lv_aload_n hx hb dX5_writeInstruction_67 rfl (lv_at hl 3 rfl) ?_
    refine lv_aload hx hb dX5_writeInstruction_68 (lv_at hl 4 rfl) ?_
    obtain ⟨h32, hf⟩ := hs_ck hf
    obtain ⟨g33, h35, hf⟩ := hs_bv_some hf
    refine hs_callv (va_runV (As := [.ref (B + v1), .int v2, .ref (B + v3), .ref (B + v4)]) (rest := []) ⟨hx, hb, hml, hown, hts⟩ (ctX5_writeJump l B D E v0 v1 v2 v3 v4 g14 _ h35) (cwV 4 hts (hs_gV (fun _ h => List.mem_cons_of_mem _ h) wq568 wq569 wq570 wq30 wq571) rfl rfl rfl (by decide +kernel) ⟨Nat.le_of_ble_eq_true rfl, Nat.le_of_ble_eq_true rfl⟩) (hs_preV (r := (RX5, TX5, 5)) hP hK h32 (by decide) rfl) rfl rfl hl.1 rfl (lv_room (Nat.le_of_ble_eq_true rfl)) dX5_writeInstruction_70 ⟨(Nat.le_of_ble_eq_true rfl), (Nat.le_of_ble_eq_true rfl)⟩) hS (fun H locs hP hS => ?_)
    exact hs_vret hx hb hr hlocks hK hP hS hf dX5_writeInstruction_73

set_option maxHeartbeats 4000000 in
set_option maxRecDepth 100000 in
theorem wX5_writeInstruction_j37 {p : Program} {l : Launch} {e : Env} {s : State} {m : MethodId} {args : Array Value} {below : List Frame} {meth : Method} {c : Code} {B : Nat} {D : va_G} {E : Nat → ClassId} (hX : hs_cx cX5_writeInstruction none 8 RX5 wcX5_writeInstruction p s m args meth c D E) {o : hs_S}  {v0 : Nat} {v1 : Nat} {v2 : Int32} {v3 : Nat} {v4 : Nat}   {g : hs_S} {H : Heap} {locs : List Loc} {ls : Array Slot} (hf : jX5_writeInstruction_37 v0 v1 v2 v3 v4 g = some o) (hP : hs_P B D E g H) (hS : hs_Sx B s.heap H locs) (hl : lv_has ls 8 [(0, .ref (B + v0)), (1, .ref (B + v1)), (2, .int v2), (3, .ref (B + v3)), (4, .ref (B + v4))]) : W p l e rmX5_writeInstruction s m args below meth c H locs 0 0 (MQ below (hs_Qv B D E o) args s 0 0 (hs_F B)) (F0 m 37 ls []) := by
  obtain ⟨hx, hb, hr, hml, hown, hts, hlocks, hK⟩ := id hX
  unfold jX5_writeInstruction_37 at hf
  refine lv_aload_n hx hb dX5_writeInstruction_37 rfl (lv_at hl 0 rfl) ?_
  refine lv_aload_n hx hb dX5_writeInstruction_38 rfl (lv_at hl 1 rfl) ?_
  refine lv_iload_n hx hb dX5_writeInstruction_39 rfl (lv_at hl 2 rfl) ?_
  obtain ⟨h6, hf⟩ := hs_ck hf
  obtain ⟨r8, g7, h9, hf⟩ := hs_bd_some hf
  refine hs_calli (va_runV (As := [.ref (B + v1), .int v2]) (rest := []) ⟨hx, hb, hml, hown, hts⟩ (ctX5_paysTop l B D E v0 v1 v2 g _ h9) (cwV 2 hts (hs_gV (fun _ h => List.mem_cons_of_mem _ h) wq522 wq523 wq524 wq30 wq525) rfl rfl rfl (by decide +kernel) ⟨Nat.le_of_ble_eq_true rfl, Nat.le_of_ble_eq_true rfl⟩) (hs_preV (r := (RX5, TX5, 5)) hP hK h6 (by decide) rfl) rfl rfl hl.1 rfl (lv_room (Nat.le_of_ble_eq_true rfl)) dX5_writeInstruction_40 ⟨(Nat.le_of_ble_eq_true rfl), (Nat.le_of_ble_eq_true rfl)⟩) hS (fun H locs hP hS => ?_)
  refine lv_if_eq (tgt := 53) hx hb dX5_writeInstruction_43 (by decide) (fun hc => ?_) (fun hc => ?_)
  · replace hf := hs_t hf hc
    exact wX5_writeInstruction_j53 hX hf hP hS (lv_sub hl [0, 1, 2, 3, 4] rfl)
  · replace hf := hs_f hf hc
    refine lv_aload_n hx hb dX5_writeInstruction_46 rfl (lv_at hl 3 rfl) ?_
    refine lv_sipush (v := 203) hx hb dX5_writeInstruction_47 (by decide) ?_
    obtain ⟨h36, hf⟩ := hs_ck hf
    obtain ⟨g37, h39, hf⟩ := hs_bv_some hf
    refine hs_callv (va_runV (As := [.int (203 : Int32)]) (rest := []) ⟨hx, hb, hml, hown, hts⟩ (ctX0_append l B D E v3 (203 : Int32) g7 _ h39) (cwV 1 hts (hs_gV (fun _ h => List.mem_cons_of_mem _ h) wq562 wq167 wq168 wq15 wq169) rfl rfl rfl (by decide +kernel) ⟨Nat.le_of_ble_eq_true rfl, Nat.le_of_ble_eq_true rfl⟩) (hs_preV (r := (RX0, TX0, 5)) hP hK h36 (by decide) rfl) rfl rfl hl.1 rfl (lv_room (Nat.le_of_ble_eq_true rfl)) dX5_writeInstruction_50 ⟨(Nat.le_of_ble_eq_true rfl), (Nat.le_of_ble_eq_true rfl)⟩) hS (fun H locs hP hS => ?_)
    exact wX5_writeInstruction_j53 hX hf hP hS (lv_sub hl [0, 1, 2, 3, 4] rfl)

set_option maxHeartbeats 4000000 in
set_option maxRecDepth 100000 in
theorem ctX5_writeInstruction (l : Launch) (B : Nat) (D : va_G) (E : Nat → ClassId) (v0 : Nat) (v1 : Nat) (v2 : Int32) (v3 : Nat) (v4 : Nat) (g : hs_S) (o : hs_S) (hf : fX5_writeInstruction v0 v1 v2 v3 v4 g = some o) : Met l yX5_writeInstruction wcX5_writeInstruction rmX5_writeInstruction (hs_Pc B D E g [.ref (B + v0), .ref (B + v1), .int v2, .ref (B + v3), .ref (B + v4)]) (hs_Qv B D E o) (0) (0) (hs_F B) := by
  refine Met.ofW (cc := cX5_writeInstruction) (maxL := 8) (ret := none) (by decide) rfl ?_
  intro p e s m args below meth c s₁ Bd hml hv
  obtain ⟨rfl, hP, hK⟩ := hv
  have hx := Bd.exec
  have hb := Bd.bytes
  have hr := Bd.returns
  have hts := atoms_spec (ws := wcX5_writeInstruction) Bd.pre
  have hown : s.vm.findClass RX5 = some m.cls := findClass_of_methodNamed Bd.named
  have hlocks := Bd.notSynchronized
  have hS : hs_Sx B s.heap s.heap [] := va_S.rf
  have hX : hs_cx cX5_writeInstruction none 8 RX5 wcX5_writeInstruction p s m (List.toArray [.ref (B + v0), .ref (B + v1), .int v2, .ref (B + v3), .ref (B + v4)]) meth c D E := ⟨hx, hb, hr, hml, hown, hts, hlocks, hK⟩
  have hl := lv_entry ([.ref (B + v0), .ref (B + v1), .int v2, .ref (B + v3), .ref (B + v4)]) (n := 8) (Nat.le_of_ble_eq_true rfl)
  rw [lg_entry_eq]
  generalize (lg_sl ([.ref (B + v0), .ref (B + v1), .int v2, .ref (B + v3), .ref (B + v4)]) ++ List.replicate (8 - (lg_sl ([.ref (B + v0), .ref (B + v1), .int v2, .ref (B + v3), .ref (B + v4)])).length) Slot.unset).toArray = ls at hl ⊢
  have hl : lv_has ls 8 [(0, .ref (B + v0)), (1, .ref (B + v1)), (2, .int v2), (3, .ref (B + v3)), (4, .ref (B + v4))] := hl
  have hP : hs_P B D E g s.heap := hP
  unfold fX5_writeInstruction at hf
  refine lv_aload_n hx hb dX5_writeInstruction_0 rfl (lv_at hl 0 rfl) ?_
  obtain ⟨h1, hf⟩ := hs_ck hf
  obtain ⟨h2, hf⟩ := hs_ck hf
  refine hs_getr (C := RX5) (T := TX5) (N := 5) hx hb hts (fun w h => List.mem_cons_of_mem _ (inlX5 w h)) hown hK.1 hP h1 (by decide) rfl 0 (by decide) (hts _ (List.mem_cons_of_mem _ wq85)) (fun _ h => h) rfl h2 dX5_writeInstruction_1 ?_
  refine lv_iload_n hx hb dX5_writeInstruction_4 rfl (lv_at hl 2 rfl) ?_
  obtain ⟨r4, g3, h5, hf⟩ := hs_bd_some hf
  refine hs_calli (va_runS (As := [.ref (B + ((hs_R g v0 0) - 1)), .int v2]) (rest := []) ⟨hx, hb, hml, hown, hts⟩ (ctX9_at l B D E ((hs_R g v0 0) - 1) v2 g _ h5) (va_cwS 2 hts (hs_gS (fun _ h => List.mem_cons_of_mem _ h) wq521 wq193 wq68 wq194) rfl rfl rfl (by decide +kernel) ⟨Nat.le_of_ble_eq_true rfl, Nat.le_of_ble_eq_true rfl⟩) (hs_pre hP hK) rfl rfl hl.1 rfl (lv_room (Nat.le_of_ble_eq_true rfl)) dX5_writeInstruction_5 ⟨(Nat.le_of_ble_eq_true rfl), (Nat.le_of_ble_eq_true rfl)⟩) hS (fun H locs hP hS => ?_)
  refine lv_istore (lv' := [(5, .int r4), (0, .ref (B + v0)), (1, .ref (B + v1)), (2, .int v2), (3, .ref (B + v3)), (4, .ref (B + v4))]) hx hb dX5_writeInstruction_8 hl (by decide) rfl (fun ls hl => ?_)
  refine lv_iload hx hb dX5_writeInstruction_10 (lv_at hl 0 rfl) ?_
  refine lv_if_le (tgt := 37) hx hb dX5_writeInstruction_12 (by decide) (fun hc => ?_) (fun hc => ?_)
  · replace hf := hs_t hf hc
    exact wX5_writeInstruction_j37 hX hf hP hS (lv_sub hl [1, 2, 3, 4, 5] rfl)
  · replace hf := hs_f hf hc
    refine lv_aload_n hx hb dX5_writeInstruction_15 rfl (lv_at hl 4 rfl) ?_
    refine lv_sipush (v := 202) hx hb dX5_writeInstruction_16 (by decide) ?_
    obtain ⟨h40, hf⟩ := hs_ck hf
    obtain ⟨g41, h43, hf⟩ := hs_bv_some hf
    refine hs_callv (va_runV (As := [.int (202 : Int32)]) (rest := []) ⟨hx, hb, hml, hown, hts⟩ (ctX0_append l B D E v3 (202 : Int32) g3 _ h43) (cwV 1 hts (hs_gV (fun _ h => List.mem_cons_of_mem _ h) wq562 wq167 wq168 wq15 wq169) rfl rfl rfl (by decide +kernel) ⟨Nat.le_of_ble_eq_true rfl, Nat.le_of_ble_eq_true rfl⟩) (hs_preV (r := (RX0, TX0, 5)) hP hK h40 (by decide) rfl) rfl rfl hl.1 rfl (lv_room (Nat.le_of_ble_eq_true rfl)) dX5_writeInstruction_19 ⟨(Nat.le_of_ble_eq_true rfl), (Nat.le_of_ble_eq_true rfl)⟩) hS (fun H locs hP hS => ?_)
    refine lv_aload_n hx hb dX5_writeInstruction_22 rfl (lv_at hl 4 rfl) ?_
    refine lv_iload hx hb dX5_writeInstruction_23 (lv_at hl 0 rfl) ?_
    refine lv_bipush (v := 16) hx hb dX5_writeInstruction_25 (by decide) ?_
    refine lv_ishr hx hb dX5_writeInstruction_27 ?_
    obtain ⟨h44, hf⟩ := hs_ck hf
    obtain ⟨g45, h47, hf⟩ := hs_bv_some hf
    refine hs_callv (va_runV (As := [.int (r4 >>> ((16 : Int32) &&& 31))]) (rest := []) ⟨hx, hb, hml, hown, hts⟩ (ctX0_appendPair l B D E v3 (r4 >>> ((16 : Int32) &&& 31)) g41 _ h47) (cwV 1 hts (hs_gV (fun _ h => List.mem_cons_of_mem _ h) wq563 wq564 wq565 wq15 wq566) rfl rfl rfl (by decide +kernel) ⟨Nat.le_of_ble_eq_true rfl, Nat.le_of_ble_eq_true rfl⟩) (hs_preV (r := (RX0, TX0, 5)) hP hK h44 (by decide) rfl) rfl rfl hl.1 rfl (lv_room (Nat.le_of_ble_eq_true rfl)) dX5_writeInstruction_28 ⟨(Nat.le_of_ble_eq_true rfl), (Nat.le_of_ble_eq_true rfl)⟩) hS (fun H locs hP hS => ?_)
    refine lv_aload_n hx hb dX5_writeInstruction_31 rfl (lv_at hl 4 rfl) ?_
    refine lv_iload hx hb dX5_writeInstruction_32 (lv_at hl 0 rfl) ?_
    obtain ⟨h48, hf⟩ := hs_ck hf
    obtain ⟨g49, h51, hf⟩ := hs_bv_some hf
    refine hs_callv (va_runV (As := [.int r4]) (rest := []) ⟨hx, hb, hml, hown, hts⟩ (ctX0_appendPair l B D E v3 r4 g45 _ h51) (cwV 1 hts (hs_gV (fun _ h => List.mem_cons_of_mem _ h) wq563 wq564 wq565 wq15 wq566) rfl rfl rfl (by decide +kernel) ⟨Nat.le_of_ble_eq_true rfl, Nat.le_of_ble_eq_true rfl⟩) (hs_preV (r := (RX0, TX0, 5)) hP hK h48 (by decide) rfl) rfl rfl hl.1 rfl (lv_room (Nat.le_of_ble_eq_true rfl)) dX5_writeInstruction_34 ⟨(Nat.le_of_ble_eq_true rfl), (Nat.le_of_ble_eq_true rfl)⟩) hS (fun H locs hP hS => ?_)
    exact wX5_writeInstruction_j37 hX hf hP hS (lv_sub hl [1, 2, 3, 4, 5] rfl)

theorem dX5_moveHandlers_0 : decode cX5_moveHandlers 0 = .ok (.aload_n 2, 1) := by decide +kernel
theorem dX5_moveHandlers_1 : decode cX5_moveHandlers 1 = .ok (.aload_n 1, 1) := by decide +kernel
theorem dX5_moveHandlers_2 : decode cX5_moveHandlers 2 = .ok (.getfield 164, 3) := by decide +kernel
theorem dX5_moveHandlers_5 : decode cX5_moveHandlers 5 = .ok (.putfield 164, 3) := by decide +kernel
theorem dX5_moveHandlers_8 : decode cX5_moveHandlers 8 = .ok (.iconst 0, 1) := by decide +kernel
theorem dX5_moveHandlers_9 : decode cX5_moveHandlers 9 = .ok (.istore_n 3, 1) := by decide +kernel
theorem dX5_moveHandlers_10 : decode cX5_moveHandlers 10 = .ok (.iload_n 3, 1) := by decide +kernel
theorem dX5_moveHandlers_11 : decode cX5_moveHandlers 11 = .ok (.aload_n 1, 1) := by decide +kernel
theorem dX5_moveHandlers_12 : decode cX5_moveHandlers 12 = .ok (.getfield 164, 3) := by decide +kernel
theorem dX5_moveHandlers_15 : decode cX5_moveHandlers 15 = .ok (.if_icmp .ge 61, 3) := by decide +kernel
theorem dX5_moveHandlers_18 : decode cX5_moveHandlers 18 = .ok (.iconst 0, 1) := by decide +kernel
theorem dX5_moveHandlers_19 : decode cX5_moveHandlers 19 = .ok (.istore 4, 2) := by decide +kernel
theorem dX5_moveHandlers_21 : decode cX5_moveHandlers 21 = .ok (.iload 4, 2) := by decide +kernel
theorem dX5_moveHandlers_23 : decode cX5_moveHandlers 23 = .ok (.iconst 2, 1) := by decide +kernel
theorem dX5_moveHandlers_24 : decode cX5_moveHandlers 24 = .ok (.if_icmp .gt 34, 3) := by decide +kernel
theorem dX5_moveHandlers_27 : decode cX5_moveHandlers 27 = .ok (.aload_n 1, 1) := by decide +kernel
theorem dX5_moveHandlers_28 : decode cX5_moveHandlers 28 = .ok (.iload_n 3, 1) := by decide +kernel
theorem dX5_moveHandlers_29 : decode cX5_moveHandlers 29 = .ok (.iload 4, 2) := by decide +kernel
theorem dX5_moveHandlers_31 : decode cX5_moveHandlers 31 = .ok (.invokevirtual 167, 3) := by decide +kernel
theorem dX5_moveHandlers_34 : decode cX5_moveHandlers 34 = .ok (.istore 5, 2) := by decide +kernel
theorem dX5_moveHandlers_36 : decode cX5_moveHandlers 36 = .ok (.aload_n 2, 1) := by decide +kernel
theorem dX5_moveHandlers_37 : decode cX5_moveHandlers 37 = .ok (.iload_n 3, 1) := by decide +kernel
theorem dX5_moveHandlers_38 : decode cX5_moveHandlers 38 = .ok (.iload 4, 2) := by decide +kernel
theorem dX5_moveHandlers_40 : decode cX5_moveHandlers 40 = .ok (.aload_n 0, 1) := by decide +kernel
theorem dX5_moveHandlers_41 : decode cX5_moveHandlers 41 = .ok (.getfield 15, 3) := by decide +kernel
theorem dX5_moveHandlers_44 : decode cX5_moveHandlers 44 = .ok (.iload 5, 2) := by decide +kernel
theorem dX5_moveHandlers_46 : decode cX5_moveHandlers 46 = .ok (.invokestatic 113, 3) := by decide +kernel
theorem dX5_moveHandlers_49 : decode cX5_moveHandlers 49 = .ok (.invokevirtual 171, 3) := by decide +kernel
theorem dX5_moveHandlers_52 : decode cX5_moveHandlers 52 = .ok (.iinc 4 1, 3) := by decide +kernel
theorem dX5_moveHandlers_55 : decode cX5_moveHandlers 55 = .ok (.goto (-34), 3) := by decide +kernel
theorem dX5_moveHandlers_58 : decode cX5_moveHandlers 58 = .ok (.aload_n 2, 1) := by decide +kernel
theorem dX5_moveHandlers_59 : decode cX5_moveHandlers 59 = .ok (.iload_n 3, 1) := by decide +kernel
theorem dX5_moveHandlers_60 : decode cX5_moveHandlers 60 = .ok (.iconst 3, 1) := by decide +kernel
theorem dX5_moveHandlers_61 : decode cX5_moveHandlers 61 = .ok (.aload_n 1, 1) := by decide +kernel
theorem dX5_moveHandlers_62 : decode cX5_moveHandlers 62 = .ok (.iload_n 3, 1) := by decide +kernel
theorem dX5_moveHandlers_63 : decode cX5_moveHandlers 63 = .ok (.iconst 3, 1) := by decide +kernel
theorem dX5_moveHandlers_64 : decode cX5_moveHandlers 64 = .ok (.invokevirtual 167, 3) := by decide +kernel
theorem dX5_moveHandlers_67 : decode cX5_moveHandlers 67 = .ok (.invokevirtual 171, 3) := by decide +kernel
theorem dX5_moveHandlers_70 : decode cX5_moveHandlers 70 = .ok (.iinc 3 1, 3) := by decide +kernel
theorem dX5_moveHandlers_73 : decode cX5_moveHandlers 73 = .ok (.goto (-63), 3) := by decide +kernel
theorem dX5_moveHandlers_76 : decode cX5_moveHandlers 76 = .ok (.return_, 1) := by decide +kernel
abbrev wcX5_moveHandlers : List Cond := .code yX5_moveHandlers cX5_moveHandlers 6 none :: wsL_law
def lX5_moveHandlers_21 : Nat → Nat → Nat → Nat → Int32 → Int32 → hs_S → Option (hs_S)
  | 0, _, _, _, _, _, _ => none
  | n + 1, v0, v1, v2, v3, v4, g =>
    if (2 : Int32) < v4 then (
      some g
    ) else (
      if hs_kd g v1 = 6 then
      hs_bd (fX7_handlerNumber v1 v3 v4 g) fun r6 g5 =>
      if hs_kd g5 v0 = 4 then
      if ¬ (hs_R g5 v0 1) = 0 then
      hs_bd (fX9_at ((hs_R g5 v0 1) - 1) r6 g5) fun r11 g10 =>
      if hs_kd g10 v2 = 6 then
      hs_bv (fX7_setHandlerNumber v2 v3 v4 r11 g10) fun g14 =>
      lX5_moveHandlers_21 n v0 v1 v2 v3 (v4 + (1 : Int32)) g14
      else none else none else none else none
    )
theorem lX5_moveHandlers_21_s (n : Nat) (v0 : Nat) (v1 : Nat) (v2 : Nat) (v3 : Int32) (v4 : Int32) (g : hs_S) : lX5_moveHandlers_21 (n + 1) v0 v1 v2 v3 v4 g =
    if (2 : Int32) < v4 then (
      some g
    ) else (
      if hs_kd g v1 = 6 then
      hs_bd (fX7_handlerNumber v1 v3 v4 g) fun r6 g5 =>
      if hs_kd g5 v0 = 4 then
      if ¬ (hs_R g5 v0 1) = 0 then
      hs_bd (fX9_at ((hs_R g5 v0 1) - 1) r6 g5) fun r11 g10 =>
      if hs_kd g10 v2 = 6 then
      hs_bv (fX7_setHandlerNumber v2 v3 v4 r11 g10) fun g14 =>
      lX5_moveHandlers_21 n v0 v1 v2 v3 (v4 + (1 : Int32)) g14
      else none else none else none else none
    ) := rfl
def lX5_moveHandlers_10 : Nat → Nat → Nat → Nat → Int32 → hs_S → Option (hs_S)
  | 0, _, _, _, _, _ => none
  | n + 1, v0, v1, v2, v3, g =>
    if hs_kd g v1 = 6 then
    if (hs_I g v1 6) ≤ v3 then (
      some g
    ) else (
      hs_bv (lX5_moveHandlers_21 hs_N v0 v1 v2 v3 (0 : Int32) g) fun g18 =>
      if hs_kd g18 v1 = 6 then
      hs_bd (fX7_handlerNumber v1 v3 (3 : Int32) g18) fun r22 g21 =>
      if hs_kd g21 v2 = 6 then
      hs_bv (fX7_setHandlerNumber v2 v3 (3 : Int32) r22 g21) fun g25 =>
      lX5_moveHandlers_10 n v0 v1 v2 (v3 + (1 : Int32)) g25
      else none else none
    )
    else none
theorem lX5_moveHandlers_10_s (n : Nat) (v0 : Nat) (v1 : Nat) (v2 : Nat) (v3 : Int32) (g : hs_S) : lX5_moveHandlers_10 (n + 1) v0 v1 v2 v3 g =
    if hs_kd g v1 = 6 then
    if (hs_I g v1 6) ≤ v3 then (
      some g
    ) else (
      hs_bv (lX5_moveHandlers_21 hs_N v0 v1 v2 v3 (0 : Int32) g) fun g18 =>
      if hs_kd g18 v1 = 6 then
      hs_bd (fX7_handlerNumber v1 v3 (3 : Int32) g18) fun r22 g21 =>
      if hs_kd g21 v2 = 6 then
      hs_bv (fX7_setHandlerNumber v2 v3 (3 : Int32) r22 g21) fun g25 =>
      lX5_moveHandlers_10 n v0 v1 v2 (v3 + (1 : Int32)) g25
      else none else none
    )
    else none := rfl
def fX5_moveHandlers (v0 : Nat) (v1 : Nat) (v2 : Nat) (g : hs_S) : Option (hs_S) :=
  if hs_kd g v1 = 6 then
  if hs_kd g v2 = 6 then
  hs_bv (lX5_moveHandlers_10 hs_N v0 v1 v2 (0 : Int32) (hs_wI g v2 6 (hs_I g v1 6))) fun g29 =>
  some g29
  else none else none
abbrev rmX5_moveHandlers : Room := { frames := 2, cells := 0, slots := 0, locals := 45 }
set_option maxHeartbeats 4000000 in
set_option maxRecDepth 100000 in
theorem wX5_moveHandlers_21 {p : Program} {l : Launch} {e : Env} {s : State} {m : MethodId} {args : Array Value} {below : List Frame} {meth : Method} {c : Code} {B : Nat} {D : va_G} {E : Nat → ClassId} (hX : hs_cx cX5_moveHandlers none 6 RX5 wcX5_moveHandlers p s m args meth c D E) {Q : State → Prop} {o : hs_S} {v0 : Nat} {v1 : Nat} {v2 : Nat} {v3 : Int32} (hex0 : ∀ (H : Heap) (locs : List Loc) (ls : Array Slot), hs_P B D E (o) H → hs_Sx B s.heap H locs → lv_has ls 6 [(0, .ref (B + v0)), (1, .ref (B + v1)), (2, .ref (B + v2)), (3, .int v3)] → W p l e rmX5_moveHandlers s m args below meth c H locs 0 0 Q (F0 m 58 ls [])) : ∀ (n : Nat) (v4 : Int32) (g : hs_S), lX5_moveHandlers_21 n v0 v1 v2 v3 v4 g = some o → ∀ (H : Heap) (locs : List Loc) (ls : Array Slot), hs_P B D E g H → hs_Sx B s.heap H locs → lv_has ls 6 [(0, .ref (B + v0)), (1, .ref (B + v1)), (2, .ref (B + v2)), (3, .int v3), (4, .int v4)] → W p l e rmX5_moveHandlers s m args below meth c H locs 0 0 Q (F0 m 21 ls []) := by
  obtain ⟨hx, hb, hr, hml, hown, hts, hlocks, hK⟩ := id hX
  intro n
  induction n with
  | zero =>
    intro v4 g hf
    cases hf
  | succ n ih =>
    intro v4 g hf H locs ls hP hS hl
    replace hf := (lX5_moveHandlers_21_s n v0 v1 v2 v3 v4 g).symm.trans hf
    refine lv_iload hx hb dX5_moveHandlers_21 (lv_at hl 4 rfl) ?_
    refine lv_iconst (v := 2) hx hb dX5_moveHandlers_23 (by decide) ?_
    refine lv_icmp_gt (tgt := 58) hx hb dX5_moveHandlers_24 (by decide) (fun hc => ?_) (fun hc => ?_)
    · replace hf := hs_t hf hc
      obtain rfl := Option.some.inj hf
      exact hex0 _ _ _ hP hS (lv_sub hl [0, 1, 2, 3] rfl)
    · replace hf := hs_f hf hc
      refine lv_aload_n hx hb dX5_moveHandlers_27 rfl (lv_at hl 1 rfl) ?_
      refine lv_iload_n hx hb dX5_moveHandlers_28 rfl (lv_at hl 3 rfl) ?_
      refine lv_iload hx hb dX5_moveHandlers_29 (lv_at hl 4 rfl) ?_
      obtain ⟨h4, hf⟩ := hs_ck hf
      obtain ⟨r6, g5, h7, hf⟩ := hs_bd_some hf
      refine hs_calli (va_runV (As := [.int v3, .int v4]) (rest := []) ⟨hx, hb, hml, hown, hts⟩ (ctX7_handlerNumber l B D E v1 v3 v4 g _ h7) (cwV 2 hts (hs_gV (fun _ h => List.mem_cons_of_mem _ h) wq583 wq322 wq323 wq43 wq324) rfl rfl rfl (by decide +kernel) ⟨Nat.le_of_ble_eq_true rfl, Nat.le_of_ble_eq_true rfl⟩) (hs_preV (r := (RX7, TX7, 11)) hP hK h4 (by decide) rfl) rfl rfl hl.1 rfl (lv_room (Nat.le_of_ble_eq_true rfl)) dX5_moveHandlers_31 ⟨(Nat.le_of_ble_eq_true rfl), (Nat.le_of_ble_eq_true rfl)⟩) hS (fun H locs hP hS => ?_)
      refine lv_istore (lv' := [(5, .int r6), (0, .ref (B + v0)), (1, .ref (B + v1)), (2, .ref (B + v2)), (3, .int v3), (4, .int v4)]) hx hb dX5_moveHandlers_34 hl (by decide) rfl (fun ls hl => ?_)
      refine lv_aload_n hx hb dX5_moveHandlers_36 rfl (lv_at hl 3 rfl) ?_
      refine lv_iload_n hx hb dX5_moveHandlers_37 rfl (lv_at hl 4 rfl) ?_
      refine lv_iload hx hb dX5_moveHandlers_38 (lv_at hl 5 rfl) ?_
      refine lv_aload_n hx hb dX5_moveHandlers_40 rfl (lv_at hl 1 rfl) ?_
      obtain ⟨h8, hf⟩ := hs_ck hf
      obtain ⟨h9, hf⟩ := hs_ck hf
      refine hs_getr (C := RX5) (T := TX5) (N := 5) hx hb hts (fun w h => List.mem_cons_of_mem _ (inlX5 w h)) hown hK.1 hP h8 (by decide) rfl 1 (by decide) (hts _ (List.mem_cons_of_mem _ wq86)) (fun _ h => h) rfl h9 dX5_moveHandlers_41 ?_
      refine lv_iload hx hb dX5_moveHandlers_44 (lv_at hl 0 rfl) ?_
      obtain ⟨r11, g10, h12, hf⟩ := hs_bd_some hf
      refine hs_calli (va_runS (As := [.ref (B + ((hs_R g5 v0 1) - 1)), .int r6]) (rest := [.int v4, .int v3, .ref (B + v2)]) ⟨hx, hb, hml, hown, hts⟩ (ctX9_at l B D E ((hs_R g5 v0 1) - 1) r6 g5 _ h12) (va_cwS 2 hts (hs_gS (fun _ h => List.mem_cons_of_mem _ h) wq521 wq193 wq68 wq194) rfl rfl rfl (by decide +kernel) ⟨Nat.le_of_ble_eq_true rfl, Nat.le_of_ble_eq_true rfl⟩) (hs_pre hP hK) rfl rfl hl.1 rfl (lv_room (Nat.le_of_ble_eq_true rfl)) dX5_moveHandlers_46 ⟨(Nat.le_of_ble_eq_true rfl), (Nat.le_of_ble_eq_true rfl)⟩) hS (fun H locs hP hS => ?_)
      obtain ⟨h13, hf⟩ := hs_ck hf
      obtain ⟨g14, h16, hf⟩ := hs_bv_some hf
      refine hs_callv (va_runV (As := [.int v3, .int v4, .int r11]) (rest := []) ⟨hx, hb, hml, hown, hts⟩ (ctX7_setHandlerNumber l B D E v2 v3 v4 r11 g10 _ h16) (cwV 3 hts (hs_gV (fun _ h => List.mem_cons_of_mem _ h) wq584 wq293 wq294 wq43 wq295) rfl rfl rfl (by decide +kernel) ⟨Nat.le_of_ble_eq_true rfl, Nat.le_of_ble_eq_true rfl⟩) (hs_preV (r := (RX7, TX7, 11)) hP hK h13 (by decide) rfl) rfl rfl hl.1 rfl (lv_room (Nat.le_of_ble_eq_true rfl)) dX5_moveHandlers_49 ⟨(Nat.le_of_ble_eq_true rfl), (Nat.le_of_ble_eq_true rfl)⟩) hS (fun H locs hP hS => ?_)
      refine lv_iinc (v := (v4 + (1 : Int32))) (lv' := [(4, .int (v4 + (1 : Int32))), (5, .int r6), (0, .ref (B + v0)), (1, .ref (B + v1)), (2, .ref (B + v2)), (3, .int v3)]) hx hb dX5_moveHandlers_52 hl (k := 5) rfl (by rfl) (by decide) rfl (fun ls hl => ?_)
      refine lv_goto (tgt := 21) hx hb dX5_moveHandlers_55 (by decide) ?_
      exact ih _ _ hf _ _ _ hP hS (lv_sub hl [2, 3, 4, 5, 0] rfl)

set_option maxHeartbeats 4000000 in
set_option maxRecDepth 100000 in
theorem wX5_moveHandlers_10 {p : Program} {l : Launch} {e : Env} {s : State} {m : MethodId} {args : Array Value} {below : List Frame} {meth : Method} {c : Code} {B : Nat} {D : va_G} {E : Nat → ClassId} (hX : hs_cx cX5_moveHandlers none 6 RX5 wcX5_moveHandlers p s m args meth c D E) {Q : State → Prop} {o : hs_S} {v0 : Nat} {v1 : Nat} {v2 : Nat} (hex0 : ∀ (H : Heap) (locs : List Loc) (ls : Array Slot), hs_P B D E (o) H → hs_Sx B s.heap H locs → lv_has ls 6 [] → W p l e rmX5_moveHandlers s m args below meth c H locs 0 0 Q (F0 m 76 ls [])) : ∀ (n : Nat) (v3 : Int32) (g : hs_S), lX5_moveHandlers_10 n v0 v1 v2 v3 g = some o → ∀ (H : Heap) (locs : List Loc) (ls : Array Slot), hs_P B D E g H → hs_Sx B s.heap H locs → lv_has ls 6 [(0, .ref (B + v0)), (1, .ref (B + v1)), (2, .ref (B + v2)), (3, .int v3)] → W p l e rmX5_moveHandlers s m args below meth c H locs 0 0 Q (F0 m 10 ls []) := by
  obtain ⟨hx, hb, hr, hml, hown, hts, hlocks, hK⟩ := id hX
  intro n
  induction n with
  | zero =>
    intro v3 g hf
    cases hf
  | succ n ih =>
    intro v3 g hf H locs ls hP hS hl
    replace hf := (lX5_moveHandlers_10_s n v0 v1 v2 v3 g).symm.trans hf
    refine lv_iload_n hx hb dX5_moveHandlers_10 rfl (lv_at hl 3 rfl) ?_
    refine lv_aload_n hx hb dX5_moveHandlers_11 rfl (lv_at hl 1 rfl) ?_
    obtain ⟨h3, hf⟩ := hs_ck hf
    refine hs_geti (C := RX7) (T := TX7) (N := 11) hx hb hts (fun w h => List.mem_cons_of_mem _ (inlX7 w h)) hown hK.1 hP h3 (by decide) rfl 6 (by decide) (hts _ (List.mem_cons_of_mem _ wq582)) (fun _ h => h) rfl dX5_moveHandlers_12 ?_
    refine lv_icmp_ge (tgt := 76) hx hb dX5_moveHandlers_15 (by decide) (fun hc => ?_) (fun hc => ?_)
    · replace hf := hs_t hf hc
      obtain rfl := Option.some.inj hf
      exact hex0 _ _ _ hP hS (lv_sub hl [] rfl)
    · replace hf := hs_f hf hc
      refine lv_iconst (v := 0) hx hb dX5_moveHandlers_18 (by decide) ?_
      refine lv_istore (lv' := [(4, .int (0 : Int32)), (0, .ref (B + v0)), (1, .ref (B + v1)), (2, .ref (B + v2)), (3, .int v3)]) hx hb dX5_moveHandlers_19 hl (by decide) rfl (fun ls hl => ?_)
      obtain ⟨g18, h19, hf⟩ := hs_bv_some hf
      refine wX5_moveHandlers_21 hX (fun H locs ls hP hS hl => ?_) hs_N _ _ h19 _ _ _ hP hS (lv_sub hl [1, 2, 3, 4, 0] rfl)
      refine lv_aload_n hx hb dX5_moveHandlers_58 rfl (lv_at hl 2 rfl) ?_
      refine lv_iload_n hx hb dX5_moveHandlers_59 rfl (lv_at hl 3 rfl) ?_
      refine lv_iconst (v := 3) hx hb dX5_moveHandlers_60 (by decide) ?_
      refine lv_aload_n hx hb dX5_moveHandlers_61 rfl (lv_at hl 1 rfl) ?_
      refine lv_iload_n hx hb dX5_moveHandlers_62 rfl (lv_at hl 3 rfl) ?_
      refine lv_iconst (v := 3) hx hb dX5_moveHandlers_63 (by decide) ?_
      obtain ⟨h20, hf⟩ := hs_ck hf
      obtain ⟨r22, g21, h23, hf⟩ := hs_bd_some hf
      refine hs_calli (va_runV (As := [.int v3, .int (3 : Int32)]) (rest := [.int (3 : Int32), .int v3, .ref (B + v2)]) ⟨hx, hb, hml, hown, hts⟩ (ctX7_handlerNumber l B D E v1 v3 (3 : Int32) g18 _ h23) (cwV 2 hts (hs_gV (fun _ h => List.mem_cons_of_mem _ h) wq583 wq322 wq323 wq43 wq324) rfl rfl rfl (by decide +kernel) ⟨Nat.le_of_ble_eq_true rfl, Nat.le_of_ble_eq_true rfl⟩) (hs_preV (r := (RX7, TX7, 11)) hP hK h20 (by decide) rfl) rfl rfl hl.1 rfl (lv_room (Nat.le_of_ble_eq_true rfl)) dX5_moveHandlers_64 ⟨(Nat.le_of_ble_eq_true rfl), (Nat.le_of_ble_eq_true rfl)⟩) hS (fun H locs hP hS => ?_)
      obtain ⟨h24, hf⟩ := hs_ck hf
      obtain ⟨g25, h27, hf⟩ := hs_bv_some hf
      refine hs_callv (va_runV (As := [.int v3, .int (3 : Int32), .int r22]) (rest := []) ⟨hx, hb, hml, hown, hts⟩ (ctX7_setHandlerNumber l B D E v2 v3 (3 : Int32) r22 g21 _ h27) (cwV 3 hts (hs_gV (fun _ h => List.mem_cons_of_mem _ h) wq584 wq293 wq294 wq43 wq295) rfl rfl rfl (by decide +kernel) ⟨Nat.le_of_ble_eq_true rfl, Nat.le_of_ble_eq_true rfl⟩) (hs_preV (r := (RX7, TX7, 11)) hP hK h24 (by decide) rfl) rfl rfl hl.1 rfl (lv_room (Nat.le_of_ble_eq_true rfl)) dX5_moveHandlers_67 ⟨(Nat.le_of_ble_eq_true rfl), (Nat.le_of_ble_eq_true rfl)⟩) hS (fun H locs hP hS => ?_)
      refine lv_iinc (v := (v3 + (1 : Int32))) (lv' := [(3, .int (v3 + (1 : Int32))), (0, .ref (B + v0)), (1, .ref (B + v1)), (2, .ref (B + v2))]) hx hb dX5_moveHandlers_70 hl (k := 3) rfl (by rfl) (by decide) rfl (fun ls hl => ?_)
      refine lv_goto (tgt := 10) hx hb dX5_moveHandlers_73 (by decide) ?_
      exact ih _ _ hf _ _ _ hP hS (lv_sub hl [1, 2, 3, 0] rfl)

set_option maxHeartbeats 4000000 in
set_option maxRecDepth 100000 in
theorem ctX5_moveHandlers (l : Launch) (B : Nat) (D : va_G) (E : Nat → ClassId) (v0 : Nat) (v1 : Nat) (v2 : Nat) (g : hs_S) (o : hs_S) (hf : fX5_moveHandlers v0 v1 v2 g = some o) : Met l yX5_moveHandlers wcX5_moveHandlers rmX5_moveHandlers (hs_Pc B D E g [.ref (B + v0), .ref (B + v1), .ref (B + v2)]) (hs_Qv B D E o) (0) (0) (hs_F B) := by
  refine Met.ofW (cc := cX5_moveHandlers) (maxL := 6) (ret := none) (by decide) rfl ?_
  intro p e s m args below meth c s₁ Bd hml hv
  obtain ⟨rfl, hP, hK⟩ := hv
  have hx := Bd.exec
  have hb := Bd.bytes
  have hr := Bd.returns
  have hts := atoms_spec (ws := wcX5_moveHandlers) Bd.pre
  have hown : s.vm.findClass RX5 = some m.cls := findClass_of_methodNamed Bd.named
  have hlocks := Bd.notSynchronized
  have hS : hs_Sx B s.heap s.heap [] := va_S.rf
  have hX : hs_cx cX5_moveHandlers none 6 RX5 wcX5_moveHandlers p s m (List.toArray [.ref (B + v0), .ref (B + v1), .ref (B + v2)]) meth c D E := ⟨hx, hb, hr, hml, hown, hts, hlocks, hK⟩
  have hl := lv_entry ([.ref (B + v0), .ref (B + v1), .ref (B + v2)]) (n := 6) (Nat.le_of_ble_eq_true rfl)
  rw [lg_entry_eq]
  generalize (lg_sl ([.ref (B + v0), .ref (B + v1), .ref (B + v2)]) ++ List.replicate (6 - (lg_sl ([.ref (B + v0), .ref (B + v1), .ref (B + v2)])).length) Slot.unset).toArray = ls at hl ⊢
  have hl : lv_has ls 6 [(0, .ref (B + v0)), (1, .ref (B + v1)), (2, .ref (B + v2))] := hl
  have hP : hs_P B D E g s.heap := hP
  unfold fX5_moveHandlers at hf
  refine lv_aload_n hx hb dX5_moveHandlers_0 rfl (lv_at hl 2 rfl) ?_
  refine lv_aload_n hx hb dX5_moveHandlers_1 rfl (lv_at hl 1 rfl) ?_
  obtain ⟨h1, hf⟩ := hs_ck hf
  refine hs_geti (C := RX7) (T := TX7) (N := 11) hx hb hts (fun w h => List.mem_cons_of_mem _ (inlX7 w h)) hown hK.1 hP h1 (by decide) rfl 6 (by decide) (hts _ (List.mem_cons_of_mem _ wq582)) (fun _ h => h) rfl dX5_moveHandlers_2 ?_
  obtain ⟨h2, hf⟩ := hs_ck hf
  refine hs_puti (C := RX7) (T := TX7) (N := 11) hx hb hts (fun w h => List.mem_cons_of_mem _ (inlX7 w h)) tyX7 tyX7_ok nmX7 hown hK.1 hP hS h2 (by decide) rfl 6 (by decide) (hts _ (List.mem_cons_of_mem _ wq582)) (fun _ h => h) (Or.inl rfl) rfl rfl rfl dX5_moveHandlers_5 (fun H locs hP hS => ?_)
  refine lv_iconst (v := 0) hx hb dX5_moveHandlers_8 (by decide) ?_
  refine lv_istore_n (lv' := [(3, .int (0 : Int32)), (0, .ref (B + v0)), (1, .ref (B + v1)), (2, .ref (B + v2))]) hx hb dX5_moveHandlers_9 rfl hl (by decide) rfl (fun ls hl => ?_)
  obtain ⟨g29, h30, hf⟩ := hs_bv_some hf
  refine wX5_moveHandlers_10 hX (fun H locs ls hP hS hl => ?_) hs_N _ _ h30 _ _ _ hP hS (lv_sub hl [1, 2, 3, 0] rfl)
  exact hs_vret hx hb hr hlocks hK hP hS hf dX5_moveHandlers_76

