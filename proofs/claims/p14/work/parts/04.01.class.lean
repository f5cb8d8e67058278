theorem dX7_init_0 : decode cX7_init 0 = .ok (.aload_n 0, 1) := by decide +kernel
theorem dX7_init_1 : decode cX7_init 1 = .ok (.invokespecial 3, 3) := by decide +kernel
theorem dX7_init_4 : decode cX7_init 4 = .ok (.aload_n 0, 1) := by decide +kernel
theorem dX7_init_5 : decode cX7_init 5 = .ok (.bipush 32, 2) := by decide +kernel
theorem dX7_init_7 : decode cX7_init 7 = .ok (.newarray .int, 2) := by decide +kernel
theorem dX7_init_9 : decode cX7_init 9 = .ok (.putfield 9, 3) := by decide +kernel
theorem dX7_init_12 : decode cX7_init 12 = .ok (.aload_n 0, 1) := by decide +kernel
theorem dX7_init_13 : decode cX7_init 13 = .ok (.aload_n 1, 1) := by decide +kernel
theorem dX7_init_14 : decode cX7_init 14 = .ok (.putfield 15, 3) := by decide +kernel
theorem dX7_init_17 : decode cX7_init 17 = .ok (.return_, 1) := by decide +kernel
abbrev wcX7_init : List Cond := .code yX7_init cX7_init 2 none :: wsL_law
def fX7_init (v0 : Nat) (v1 : Nat) (g : hs_S) : Option (hs_S) :=
  if hs_kd (hs_new g 100 32) v0 = 6 then
  some (hs_wR (hs_wR (hs_new g 100 32) v0 1 g.1) v0 0 v1)
  else none
abbrev rmX7_init : Room := { frames := 1, cells := 1, slots := 32, locals := 20 }
set_option maxHeartbeats 4000000 in
set_option maxRecDepth 100000 in
theorem ctX7_init (l : Launch) (B : Nat) (D : va_G) (E : Nat → ClassId) (v0 : Nat) (v1 : Nat) (g : hs_S) (o : hs_S) (hf : fX7_init v0 v1 g = some o) : Met l yX7_init wcX7_init rmX7_init (hs_Pc B D E g [.ref (B + v0), .ref (B + v1)]) (hs_Qv B D E o) (1) (32) (hs_F B) := by
  refine Met.ofW (cc := cX7_init) (maxL := 2) (ret := none) (by decide) rfl ?_
  intro p e s m args below meth c s₁ Bd hml hv
  obtain ⟨rfl, hP, hK⟩ := hv
  have hx := Bd.exec
  have hb := Bd.bytes
  have hr := Bd.returns
  have hts := atoms_spec (ws := wcX7_init) Bd.pre
  have hown : s.vm.findClass RX7 = some m.cls := findClass_of_methodNamed Bd.named
  have hlocks := Bd.notSynchronized
  have hin : meth.name = "<init>" := (name_of_methodNamed Bd.named Bd.method).1
  have hS : hs_Sx B s.heap s.heap [] := va_S.rf
  have hX : hs_cx cX7_init none 2 RX7 wcX7_init p s m (List.toArray [.ref (B + v0), .ref (B + v1)]) meth c D E := ⟨hx, hb, hr, hml, hown, hts, hlocks, hK⟩
  have hl := lv_entry ([.ref (B + v0), .ref (B + v1)]) (n := 2) (Nat.le_of_ble_eq_true rfl)
  rw [lg_entry_eq]
  generalize (lg_sl ([.ref (B + v0), .ref (B + v1)]) ++ List.replicate (2 - (lg_sl ([.ref (B + v0), .ref (B + v1)])).length) Slot.unset).toArray = ls at hl ⊢
  have hl : lv_has ls 2 [(0, .ref (B + v0)), (1, .ref (B + v1))] := hl
  have hP : hs_P B D E g s.heap := hP
  unfold fX7_init at hf
  refine lv_aload_n hx hb dX7_init_0 rfl (lv_at hl 0 rfl) ?_
  refine W.objInit hx hb hown (hts _ (List.mem_cons_of_mem _ wq50)) (hts _ (List.mem_cons_of_mem _ wq11)) (hts _ (List.mem_cons_of_mem _ wq12)) rfl (hl.1.trans hml.symm) rfl dX7_init_1 (Nat.le_of_ble_eq_true rfl) (Nat.le_of_ble_eq_true rfl) ?_
  refine lv_aload_n hx hb dX7_init_4 rfl (lv_at hl 0 rfl) ?_
  refine lv_bipush (v := 32) hx hb dX7_init_5 (by decide) ?_
  refine hs_newI (t := 0) (k := 100) (N := 32) (atype := .int) hx hb (by decide) rfl (hts _ (List.mem_cons_of_mem _ wq44)) rfl (fun _ _ h => h) rfl hK.1 hP hS (by decide) (by rfl) (by decide) (Nat.le_of_ble_eq_true rfl) (Nat.le_of_ble_eq_true rfl) dX7_init_7 (fun H hP hS => ?_)
  refine W.widen (k := 1) (n := 32) (by omega) (by omega) ?_
  obtain ⟨h1, hf⟩ := hs_ck hf
  refine hs_putr (C := RX7) (T := TX7) (N := 11) hx hb hts (fun w h => List.mem_cons_of_mem _ (inlX7 w h)) tyX7 tyX7_ok nmX7 hown hK.1 hP hS h1 (by decide) rfl 1 (by decide) (hts _ (List.mem_cons_of_mem _ wq51)) (fun _ h => h) (Or.inr ⟨rfl, hin, rfl⟩) (fun _ => rfl) (fun _ => rfl) rfl dX7_init_9 (fun H locs hP hS => ?_)
  refine lv_aload_n hx hb dX7_init_12 rfl (lv_at hl 0 rfl) ?_
  refine lv_aload_n hx hb dX7_init_13 rfl (lv_at hl 1 rfl) ?_
  refine hs_putr (C := RX7) (T := TX7) (N := 11) hx hb hts (fun w h => List.mem_cons_of_mem _ (inlX7 w h)) tyX7 tyX7_ok nmX7 hown hK.1 hP hS h1 (by decide) rfl 0 (by decide) (hts _ (List.mem_cons_of_mem _ wq52)) (fun _ h => h) (Or.inr ⟨rfl, hin, rfl⟩) (fun _ => rfl) (fun _ => rfl) rfl dX7_init_14 (fun H locs hP hS => ?_)
  refine W.widen (k := 1) (n := 32) (by omega) (by omega) ?_
  exact hs_vret hx hb hr hlocks hK hP hS hf dX7_init_17

theorem dX0_init_0 : decode cX0_init 0 = .ok (.aload_n 0, 1) := by decide +kernel
theorem dX0_init_1 : decode cX0_init 1 = .ok (.invokespecial 3, 3) := by decide +kernel
theorem dX0_init_4 : decode cX0_init 4 = .ok (.aload_n 0, 1) := by decide +kernel
theorem dX0_init_5 : decode cX0_init 5 = .ok (.bipush 8, 2) := by decide +kernel
theorem dX0_init_7 : decode cX0_init 7 = .ok (.anewarray 9, 3) := by decide +kernel
theorem dX0_init_10 : decode cX0_init 10 = .ok (.putfield 11, 3) := by decide +kernel
theorem dX0_init_13 : decode cX0_init 13 = .ok (.aload_n 0, 1) := by decide +kernel
theorem dX0_init_14 : decode cX0_init 14 = .ok (.new 9, 3) := by decide +kernel
theorem dX0_init_17 : decode cX0_init 17 = .ok (.dup, 1) := by decide +kernel
theorem dX0_init_18 : decode cX0_init 18 = .ok (.iconst 0, 1) := by decide +kernel
theorem dX0_init_19 : decode cX0_init 19 = .ok (.newarray .int, 2) := by decide +kernel
theorem dX0_init_21 : decode cX0_init 21 = .ok (.invokespecial 17, 3) := by decide +kernel
theorem dX0_init_24 : decode cX0_init 24 = .ok (.putfield 20, 3) := by decide +kernel
theorem dX0_init_27 : decode cX0_init 27 = .ok (.aload_n 0, 1) := by decide +kernel
theorem dX0_init_28 : decode cX0_init 28 = .ok (.iload_n 1, 1) := by decide +kernel
theorem dX0_init_29 : decode cX0_init 29 = .ok (.newarray .int, 2) := by decide +kernel
theorem dX0_init_31 : decode cX0_init 31 = .ok (.putfield 24, 3) := by decide +kernel
theorem dX0_init_34 : decode cX0_init 34 = .ok (.iconst 0, 1) := by decide +kernel
theorem dX0_init_35 : decode cX0_init 35 = .ok (.istore_n 2, 1) := by decide +kernel
theorem dX0_init_36 : decode cX0_init 36 = .ok (.iload_n 2, 1) := by decide +kernel
theorem dX0_init_37 : decode cX0_init 37 = .ok (.bipush 8, 2) := by decide +kernel
theorem dX0_init_39 : decode cX0_init 39 = .ok (.if_icmp .ge 26, 3) := by decide +kernel
theorem dX0_init_42 : decode cX0_init 42 = .ok (.aload_n 0, 1) := by decide +kernel
theorem dX0_init_43 : decode cX0_init 43 = .ok (.getfield 11, 3) := by decide +kernel
theorem dX0_init_46 : decode cX0_init 46 = .ok (.iload_n 2, 1) := by decide +kernel
theorem dX0_init_47 : decode cX0_init 47 = .ok (.new 9, 3) := by decide +kernel
theorem dX0_init_50 : decode cX0_init 50 = .ok (.dup, 1) := by decide +kernel
theorem dX0_init_51 : decode cX0_init 51 = .ok (.aload_n 0, 1) := by decide +kernel
theorem dX0_init_52 : decode cX0_init 52 = .ok (.getfield 24, 3) := by decide +kernel
theorem dX0_init_55 : decode cX0_init 55 = .ok (.invokespecial 17, 3) := by decide +kernel
theorem dX0_init_58 : decode cX0_init 58 = .ok (.aastore, 1) := by decide +kernel
theorem dX0_init_59 : decode cX0_init 59 = .ok (.iinc 2 1, 3) := by decide +kernel
theorem dX0_init_62 : decode cX0_init 62 = .ok (.goto (-26), 3) := by decide +kernel
theorem dX0_init_65 : decode cX0_init 65 = .ok (.return_, 1) := by decide +kernel
abbrev wcX0_init : List Cond := .code yX0_init cX0_init 3 none :: wsL_law
def lX0_init_36 : Nat → Nat → Int32 → hs_S → Option (hs_S)
  | 0, _, _, _ => none
  | n + 1, v0, v2, g =>
    if (8 : Int32) ≤ v2 then (
      some g
    ) else (
      if hs_kd g v0 = 0 then
      if ¬ (hs_R g v0 1) = 0 then
      if hs_kd (hs_new g 6 0) v0 = 0 then
      if ¬ (hs_R (hs_new g 6 0) v0 0) = 0 then
      hs_bv (fX7_init g.1 ((hs_R (hs_new g 6 0) v0 0) - 1) (hs_new g 6 0)) fun g21 =>
      if hs_kd g21 ((hs_R g v0 1) - 1) = 102 then
      if hs_in v2 (hs_ln g21 ((hs_R g v0 1) - 1)) = true then
      if hs_kd g21 g.1 = 6 then
      lX0_init_36 n v0 (v2 + (1 : Int32)) (hs_wR g21 ((hs_R g v0 1) - 1) v2.toNatClampNeg g.1)
      else none else none else none else none else none else none else none
    )
theorem lX0_init_36_s (n : Nat) (v0 : Nat) (v2 : Int32) (g : hs_S) : lX0_init_36 (n + 1) v0 v2 g =
    if (8 : Int32) ≤ v2 then (
      some g
    ) else (
      if hs_kd g v0 = 0 then
      if ¬ (hs_R g v0 1) = 0 then
      if hs_kd (hs_new g 6 0) v0 = 0 then
      if ¬ (hs_R (hs_new g 6 0) v0 0) = 0 then
      hs_bv (fX7_init g.1 ((hs_R (hs_new g 6 0) v0 0) - 1) (hs_new g 6 0)) fun g21 =>
      if hs_kd g21 ((hs_R g v0 1) - 1) = 102 then
      if hs_in v2 (hs_ln g21 ((hs_R g v0 1) - 1)) = true then
      if hs_kd g21 g.1 = 6 then
      lX0_init_36 n v0 (v2 + (1 : Int32)) (hs_wR g21 ((hs_R g v0 1) - 1) v2.toNatClampNeg g.1)
      else none else none else none else none else none else none else none
    ) := rfl
def fX0_init (v0 : Nat) (v1 : Int32) (g : hs_S) : Option (hs_S) :=
  if hs_kd (hs_new g 102 8) v0 = 0 then
  hs_bv (some (hs_wR (hs_new g 102 8) v0 1 g.1)) fun g2 =>
  hs_bv (some (hs_new g2 6 0)) fun g5 =>
  hs_bv (fX7_init g2.1 g5.1 (hs_new g5 100 0)) fun g7 =>
  if hs_kd g7 v0 = 0 then
  hs_bv (some (hs_wR g7 v0 2 g2.1)) fun g11 =>
  if ¬ v1 < 0 then
  if v1.toNatClampNeg ≤ 32000 then
  if hs_kd (hs_new g11 100 v1.toNatClampNeg) v0 = 0 then
  hs_bv (lX0_init_36 hs_N v0 (0 : Int32) (hs_wR (hs_new g11 100 v1.toNatClampNeg) v0 0 g11.1)) fun g28 =>
  some g28
  else none else none else none else none else none
abbrev rmX0_init : Room := { frames := 2, cells := 21, slots := 32395, locals := 41 }
set_option maxHeartbeats 4000000 in
set_option maxRecDepth 100000 in
theorem wX0_init_36 {p : Program} {l : Launch} {e : Env} {s : State} {m : MethodId} {args : Array Value} {below : List Frame} {meth : Method} {c : Code} {B : Nat} {D : va_G} {E : Nat → ClassId} (hX : hs_cx cX0_init none 3 RX0 wcX0_init p s m args meth c D E) {Q : State → Prop} {o : hs_S} {v0 : Nat} (hex0 : ∀ (H : Heap) (locs : List Loc) (ls : Array Slot), hs_P B D E (o) H → hs_Sx B s.heap H locs → lv_has ls 3 [] → W p l e rmX0_init s m args below meth c H locs (5 + 2 * 8) (32051 + 43 * 8) Q (F0 m 65 ls [])) : ∀ (n : Nat) (j : Nat) (v2 : Int32) (g : hs_S), lX0_init_36 n v0 v2 g = some o → v2 = nI j → j ≤ 8 → ∀ (H : Heap) (locs : List Loc) (ls : Array Slot), hs_P B D E g H → hs_Sx B s.heap H locs → lv_has ls 3 [(0, .ref (B + v0)), (2, .int v2)] → W p l e rmX0_init s m args below meth c H locs (5 + 2 * j) (32051 + 43 * j) Q (F0 m 36 ls []) := by
  obtain ⟨hx, hb, hr, hml, hown, hts, hlocks, hK⟩ := id hX
  intro n
  induction n with
  | zero =>
    intro j v2 g hf
    cases hf
  | succ n ih =>
    intro j v2 g hf hj hjK H locs ls hP hS hl
    replace hf := (lX0_init_36_s n v0 v2 g).symm.trans hf
    refine W.widen (k := 5 + 2 * j) (n := 32051 + 43 * j) (by omega) (by omega) ?_
    refine lv_iload_n hx hb dX0_init_36 rfl (lv_at hl 1 rfl) ?_
    refine lv_bipush (v := 8) hx hb dX0_init_37 (by decide) ?_
    refine lv_icmp_ge (tgt := 65) hx hb dX0_init_39 (by decide) (fun hc => ?_) (fun hc => ?_)
    · replace hf := hs_t hf hc
      obtain rfl := Option.some.inj hf
      refine W.widen (k := 5 + 2 * 8) (n := 32051 + 43 * 8) (by omega) (by omega) ?_
      exact hex0 _ _ _ hP hS (lv_sub hl [] rfl)
    · replace hf := hs_f hf hc
      have hjl : j < 8 := Nat.lt_of_not_le fun q => hc (by rw [hj]; exact nI_le (a := 8) q (by omega))
      refine lv_aload_n hx hb dX0_init_42 rfl (lv_at hl 0 rfl) ?_
      obtain ⟨h17, hf⟩ := hs_ck hf
      obtain ⟨h18, hf⟩ := hs_ck hf
      refine hs_getr (C := RX0) (T := TX0) (N := 5) hx hb hts (fun w h => List.mem_cons_of_mem _ (inlX0 w h)) hown hK.1 hP h17 (by decide) rfl 1 (by decide) (hts _ (List.mem_cons_of_mem _ wq41)) (fun _ h => h) rfl h18 dX0_init_43 ?_
      refine lv_iload_n hx hb dX0_init_46 rfl (lv_at hl 1 rfl) ?_
      refine hs_newc (ci := 6) (C := RX7) (T := TX7) (N := 11) hx hb hts (fun w h => List.mem_cons_of_mem _ (inlX7 w h)) tyX7 tyX7_ok hown (hts _ (List.mem_cons_of_mem _ wq40)) (hts _ (List.mem_cons_of_mem _ wq42)) (hts _ (List.mem_cons_of_mem _ wq43)) hK.1 hP hS (by decide) rfl hs_dfX7 (show _ ≤ (21 : Nat) by omega) (show _ ≤ (32395 : Nat) by omega) dX0_init_47 (fun H hP hS => ?_)
      refine W.widen (k := 5 + 2 * j + 1) (n := 32051 + 43 * j + 11) (by omega) (by omega) ?_
      refine lv_dup hx hb dX0_init_50 rfl ?_
      refine lv_aload_n hx hb dX0_init_51 rfl (lv_at hl 0 rfl) ?_
      obtain ⟨h19, hf⟩ := hs_ck hf
      obtain ⟨h20, hf⟩ := hs_ck hf
      refine hs_getr (C := RX0) (T := TX0) (N := 5) hx hb hts (fun w h => List.mem_cons_of_mem _ (inlX0 w h)) hown hK.1 hP h19 (by decide) rfl 0 (by decide) (hts _ (List.mem_cons_of_mem _ wq46)) (fun _ h => h) rfl h20 dX0_init_52 ?_
      obtain ⟨g21, h23, hf⟩ := hs_bv_some hf
      refine hs_callv (va_runI (As := [.ref (B + ((hs_R (hs_new g 6 0) v0 0) - 1))]) (rest := [.ref (B + g.1), .int v2, .ref (B + ((hs_R g v0 1) - 1))]) ⟨hx, hb, hml, hown, hts⟩ (ctX7_init l B D E g.1 ((hs_R (hs_new g 6 0) v0 0) - 1) (hs_new g 6 0) _ h23) (cwI 1 hts (hs_gI (fun _ h => List.mem_cons_of_mem _ h) wq49) rfl rfl rfl (hts _ (List.mem_cons_of_mem _ wq43)) (hts _ (List.mem_cons_of_mem _ wq47)) (hts _ (List.mem_cons_of_mem _ wq48)) rfl (by decide +kernel) ⟨Nat.le_of_ble_eq_true rfl, Nat.le_of_ble_eq_true rfl⟩) (hs_pre hP hK) rfl rfl hl.1 rfl (lv_room (Nat.le_of_ble_eq_true rfl)) dX0_init_55 ⟨(show _ ≤ (21 : Nat) by omega), (show _ ≤ (32395 : Nat) by omega)⟩) hS (fun H locs hP hS => ?_)
      refine W.widen (k := 5 + 2 * j + 2) (n := 32051 + 43 * j + 43) (by omega) (by omega) ?_
      obtain ⟨h24, hf⟩ := hs_ck hf
      obtain ⟨h25, hf⟩ := hs_ck hf
      obtain ⟨h26, hf⟩ := hs_ck hf
      refine hs_aast (t := 2) (r := (RX7, TX7, 11)) hx hb hK.1 hP hS h24 (by decide) (by decide) rfl h26 (by decide) rfl h25 dX0_init_58 (fun H locs hP hS => ?_)
      refine lv_iinc (v := (v2 + (1 : Int32))) (lv' := [(2, .int (v2 + (1 : Int32))), (0, .ref (B + v0))]) hx hb dX0_init_59 hl (k := 1) rfl (by rfl) (by decide) rfl (fun ls hl => ?_)
      refine lv_goto (tgt := 36) hx hb dX0_init_62 (by decide) ?_
      refine W.widen (k := 5 + 2 * (j + 1)) (n := 32051 + 43 * (j + 1)) (by omega) (by omega) ?_
      exact ih (j + 1) _ _ hf (by rw [hj]; exact nI_1 j) (by omega) _ _ _ hP hS (lv_sub hl [1, 0] rfl)

set_option maxHeartbeats 4000000 in
set_option maxRecDepth 100000 in
theorem ctX0_init (l : Launch) (B : Nat) (D : va_G) (E : Nat → ClassId) (v0 : Nat) (v1 : Int32) (g : hs_S) (o : hs_S) (hf : fX0_init v0 v1 g = some o) : Met l yX0_init wcX0_init rmX0_init (hs_Pc B D E g [.ref (B + v0), .int v1]) (hs_Qv B D E o) (21) (32395) (hs_F B) := by
  refine Met.ofW (cc := cX0_init) (maxL := 3) (ret := none) (by decide) rfl ?_
  intro p e s m args below meth c s₁ Bd hml hv
  obtain ⟨rfl, hP, hK⟩ := hv
  have hx := Bd.exec
  have hb := Bd.bytes
  have hr := Bd.returns
  have hts := atoms_spec (ws := wcX0_init) Bd.pre
  have hown : s.vm.findClass RX0 = some m.cls := findClass_of_methodNamed Bd.named
  have hlocks := Bd.notSynchronized
  have hin : meth.name = "<init>" := (name_of_methodNamed Bd.named Bd.method).1
  have hS : hs_Sx B s.heap s.heap [] := va_S.rf
  have hX : hs_cx cX0_init none 3 RX0 wcX0_init p s m (List.toArray [.ref (B + v0), .int v1]) meth c D E := ⟨hx, hb, hr, hml, hown, hts, hlocks, hK⟩
  have hl := lv_entry ([.ref (B + v0), .int v1]) (n := 3) (Nat.le_of_ble_eq_true rfl)
  rw [lg_entry_eq]
  generalize (lg_sl ([.ref (B + v0), .int v1]) ++ List.replicate (3 - (lg_sl ([.ref (B + v0), .int v1])).length) Slot.unset).toArray = ls at hl ⊢
  have hl : lv_has ls 3 [(0, .ref (B + v0)), (1, .int v1)] := hl
  have hP : hs_P B D E g s.heap := hP
  unfold fX0_init at hf
  refine lv_aload_n hx hb dX0_init_0 rfl (lv_at hl 0 rfl) ?_
  refine W.objInit hx hb hown (hts _ (List.mem_cons_of_mem _ wq39)) (hts _ (List.mem_cons_of_mem _ wq11)) (hts _ (List.mem_cons_of_mem _ wq12)) rfl (hl.1.trans hml.symm) rfl dX0_init_1 (Nat.le_of_ble_eq_true rfl) (Nat.le_of_ble_eq_true rfl) ?_
  refine lv_aload_n hx hb dX0_init_4 rfl (lv_at hl 0 rfl) ?_
  refine lv_bipush (v := 8) hx hb dX0_init_5 (by decide) ?_
  refine hs_newR (t := 2) (k := 102) (N := 8) (C := RX7) hx hb (by decide) rfl hown (hts _ (List.mem_cons_of_mem _ wq40)) (va_AO.use hK.2.1) rfl hK.1 hP hS (by decide) (by rfl) (by decide) (Nat.le_of_ble_eq_true rfl) (Nat.le_of_ble_eq_true rfl) dX0_init_7 (fun H hP hS => ?_)
  refine W.widen (k := 1) (n := 8) (by omega) (by omega) ?_
  obtain ⟨h1, hf⟩ := hs_ck hf
  refine hs_putr (C := RX0) (T := TX0) (N := 5) hx hb hts (fun w h => List.mem_cons_of_mem _ (inlX0 w h)) tyX0 tyX0_ok nmX0 hown hK.1 hP hS h1 (by decide) rfl 1 (by decide) (hts _ (List.mem_cons_of_mem _ wq41)) (fun _ h => h) (Or.inr ⟨rfl, hin, rfl⟩) (fun _ => rfl) (fun _ => rfl) rfl dX0_init_10 (fun H locs hP hS => ?_)
  refine lv_aload_n hx hb dX0_init_13 rfl (lv_at hl 0 rfl) ?_
  obtain ⟨g2, e3, hf⟩ := hs_bv_some hf
  replace e3 := Option.some.inj e3
  rw [e3] at hP
  have h4 : hs_kd g2 v0 = 0 := by rw [← e3]; exact h1
  refine hs_newc (ci := 6) (C := RX7) (T := TX7) (N := 11) hx hb hts (fun w h => List.mem_cons_of_mem _ (inlX7 w h)) tyX7 tyX7_ok hown (hts _ (List.mem_cons_of_mem _ wq40)) (hts _ (List.mem_cons_of_mem _ wq42)) (hts _ (List.mem_cons_of_mem _ wq43)) hK.1 hP hS (by decide) rfl hs_dfX7 (Nat.le_of_ble_eq_true rfl) (Nat.le_of_ble_eq_true rfl) dX0_init_14 (fun H hP hS => ?_)
  refine W.widen (k := 2) (n := 19) (by omega) (by omega) ?_
  refine lv_dup hx hb dX0_init_17 rfl ?_
  refine lv_iconst (v := 0) hx hb dX0_init_18 (by decide) ?_
  obtain ⟨g5, e6, hf⟩ := hs_bv_some hf
  replace e6 := Option.some.inj e6
  rw [e6] at hP
  refine hs_newI (t := 0) (k := 100) (N := 0) (atype := .int) hx hb (by decide) rfl (hts _ (List.mem_cons_of_mem _ wq44)) rfl (fun _ _ h => h) rfl hK.1 hP hS (by decide) (by rfl) (by decide) (Nat.le_of_ble_eq_true rfl) (Nat.le_of_ble_eq_true rfl) dX0_init_19 (fun H hP hS => ?_)
  refine W.widen (k := 3) (n := 19) (by omega) (by omega) ?_
  obtain ⟨g7, h9, hf⟩ := hs_bv_some hf
  refine hs_callv (va_runI (As := [.ref (B + g5.1)]) (rest := [.ref (B + g2.1), .ref (B + v0)]) ⟨hx, hb, hml, hown, hts⟩ (ctX7_init l B D E g2.1 g5.1 (hs_new g5 100 0) _ h9) (cwI 1 hts (hs_gI (fun _ h => List.mem_cons_of_mem _ h) wq49) rfl rfl rfl (hts _ (List.mem_cons_of_mem _ wq43)) (hts _ (List.mem_cons_of_mem _ wq47)) (hts _ (List.mem_cons_of_mem _ wq48)) rfl (by decide +kernel) ⟨Nat.le_of_ble_eq_true rfl, Nat.le_of_ble_eq_true rfl⟩) (hs_pre hP hK) rfl rfl hl.1 rfl (lv_room (Nat.le_of_ble_eq_true rfl)) dX0_init_21 ⟨(Nat.le_of_ble_eq_true rfl), (Nat.le_of_ble_eq_true rfl)⟩) hS (fun H locs hP hS => ?_)
  refine W.widen (k := 4) (n := 51) (by omega) (by omega) ?_
  obtain ⟨h10, hf⟩ := hs_ck hf
  refine hs_putr (C := RX0) (T := TX0) (N := 5) hx hb hts (fun w h => List.mem_cons_of_mem _ (inlX0 w h)) tyX0 tyX0_ok nmX0 hown hK.1 hP hS h10 (by decide) rfl 2 (by decide) (hts _ (List.mem_cons_of_mem _ wq45)) (fun _ h => h) (Or.inr ⟨rfl, hin, rfl⟩) (fun _ => rfl) (fun _ => rfl) rfl dX0_init_24 (fun H locs hP hS => ?_)
  refine lv_aload_n hx hb dX0_init_27 rfl (lv_at hl 0 rfl) ?_
  refine lv_iload_n hx hb dX0_init_28 rfl (lv_at hl 1 rfl) ?_
  obtain ⟨g11, e12, hf⟩ := hs_bv_some hf
  replace e12 := Option.some.inj e12
  rw [e12] at hP
  have h13 : hs_kd g11 v0 = 0 := by rw [← e12]; exact h10
  obtain ⟨h14, hf⟩ := hs_ck hf
  obtain ⟨h15, hf⟩ := hs_ck hf
  refine hs_newI (t := 0) (k := 100) (N := v1.toNatClampNeg) (atype := .int) hx hb (by decide) rfl (hts _ (List.mem_cons_of_mem _ wq44)) rfl (fun _ _ h => h) rfl hK.1 hP hS h14 (by rfl) (by simp only [newarray.typeOf, componentBytes]; omega) (show _ ≤ (21 : Nat) by omega) (show _ ≤ (32395 : Nat) by omega) dX0_init_29 (fun H hP hS => ?_)
  refine W.widen (k := 5) (n := 32051) (by omega) (by omega) ?_
  obtain ⟨h16, hf⟩ := hs_ck hf
  refine hs_putr (C := RX0) (T := TX0) (N := 5) hx hb hts (fun w h => List.mem_cons_of_mem _ (inlX0 w h)) tyX0 tyX0_ok nmX0 hown hK.1 hP hS h16 (by decide) rfl 0 (by decide) (hts _ (List.mem_cons_of_mem _ wq46)) (fun _ h => h) (Or.inr ⟨rfl, hin, rfl⟩) (fun _ => rfl) (fun _ => rfl) rfl dX0_init_31 (fun H locs hP hS => ?_)
  refine lv_iconst (v := 0) hx hb dX0_init_34 (by decide) ?_
  refine lv_istore_n (lv' := [(2, .int (0 : Int32)), (0, .ref (B + v0)), (1, .int v1)]) hx hb dX0_init_35 rfl hl (by decide) rfl (fun ls hl => ?_)
  obtain ⟨g28, h29, hf⟩ := hs_bv_some hf
  refine W.widen (k := 5 + 2 * 0) (n := 32051 + 43 * 0) (by omega) (by omega) ?_
  refine wX0_init_36 hX (fun H locs ls hP hS hl => ?_) hs_N 0 _ _ h29 nI_0.symm (by omega) _ _ _ hP hS (lv_sub hl [1, 0] rfl)
  refine W.widen (k := 21) (n := 32395) (by omega) (by omega) ?_
  exact hs_vret hx hb hr hlocks hK hP hS hf dX0_init_65

theorem dJ7_fill_53178_0 : decode cJ7_fill_53178 0 = .ok (.iconst 0, 1) := by decide +kernel
theorem dJ7_fill_53178_1 : decode cJ7_fill_53178 1 = .ok (.istore_n 2, 1) := by decide +kernel
theorem dJ7_fill_53178_2 : decode cJ7_fill_53178 2 = .ok (.aload_n 0, 1) := by decide +kernel
theorem dJ7_fill_53178_3 : decode cJ7_fill_53178 3 = .ok (.arraylength, 1) := by decide +kernel
theorem dJ7_fill_53178_4 : decode cJ7_fill_53178 4 = .ok (.istore_n 3, 1) := by decide +kernel
theorem dJ7_fill_53178_5 : decode cJ7_fill_53178 5 = .ok (.iload_n 2, 1) := by decide +kernel
theorem dJ7_fill_53178_6 : decode cJ7_fill_53178 6 = .ok (.iload_n 3, 1) := by decide +kernel
theorem dJ7_fill_53178_7 : decode cJ7_fill_53178 7 = .ok (.if_icmp .ge 13, 3) := by decide +kernel
theorem dJ7_fill_53178_10 : decode cJ7_fill_53178 10 = .ok (.aload_n 0, 1) := by decide +kernel
theorem dJ7_fill_53178_11 : decode cJ7_fill_53178 11 = .ok (.iload_n 2, 1) := by decide +kernel
theorem dJ7_fill_53178_12 : decode cJ7_fill_53178 12 = .ok (.iload_n 1, 1) := by decide +kernel
theorem dJ7_fill_53178_13 : decode cJ7_fill_53178 13 = .ok (.iastore, 1) := by decide +kernel
theorem dJ7_fill_53178_14 : decode cJ7_fill_53178 14 = .ok (.iinc 2 1, 3) := by decide +kernel
theorem dJ7_fill_53178_17 : decode cJ7_fill_53178 17 = .ok (.goto (-12), 3) := by decide +kernel
theorem dJ7_fill_53178_20 : decode cJ7_fill_53178 20 = .ok (.return_, 1) := by decide +kernel
abbrev wcJ7_fill_53178 : List Cond := .code yJ7_fill_53178 cJ7_fill_53178 4 none :: wsL_law
def lJ7_fill_53178_5 : Nat → Nat → Int32 → Int32 → Int32 → hs_S → Option (hs_S)
  | 0, _, _, _, _, _ => none
  | n + 1, v0, v1, v2, v3, g =>
    if v3 ≤ v2 then (
      some g
    ) else (
      if hs_kd g v0 = 100 then
      if hs_in v2 (hs_ln g v0) = true then
      lJ7_fill_53178_5 n v0 v1 (v2 + (1 : Int32)) v3 (hs_wI g v0 v2.toNatClampNeg v1)
      else none else none
    )
theorem lJ7_fill_53178_5_s (n : Nat) (v0 : Nat) (v1 : Int32) (v2 : Int32) (v3 : Int32) (g : hs_S) : lJ7_fill_53178_5 (n + 1) v0 v1 v2 v3 g =
    if v3 ≤ v2 then (
      some g
    ) else (
      if hs_kd g v0 = 100 then
      if hs_in v2 (hs_ln g v0) = true then
      lJ7_fill_53178_5 n v0 v1 (v2 + (1 : Int32)) v3 (hs_wI g v0 v2.toNatClampNeg v1)
      else none else none
    ) := rfl
def fJ7_fill_53178 (v0 : Nat) (v1 : Int32) (g : hs_S) : Option (hs_S) :=
  if hs_kd g v0 = 100 then
  hs_bv (lJ7_fill_53178_5 hs_N v0 v1 (0 : Int32) (Int32.ofNat (hs_ln g v0)) g) fun g5 =>
  some g5
  else none
abbrev rmJ7_fill_53178 : Room := { frames := 0, cells := 0, slots := 0, locals := 0 }
set_option maxHeartbeats 4000000 in
set_option maxRecDepth 100000 in
theorem wJ7_fill_53178_5 {p : Program} {l : Launch} {e : Env} {s : State} {m : MethodId} {args : Array Value} {below : List Frame} {meth : Method} {c : Code} {B : Nat} {D : va_G} {E : Nat → ClassId} (hX : hs_cx cJ7_fill_53178 none 4 RJ7 wcJ7_fill_53178 p s m args meth c D E) {Q : State → Prop} {o : hs_S} {v0 : Nat} {v1 : Int32} {v3 : Int32} (hex0 : ∀ (H : Heap) (locs : List Loc) (ls : Array Slot), hs_P B D E (o) H → hs_Sx B s.heap H locs → lv_has ls 4 [] → W p l e rmJ7_fill_53178 s m args below meth c H locs 0 0 Q (F0 m 20 ls [])) : ∀ (n : Nat) (v2 : Int32) (g : hs_S), lJ7_fill_53178_5 n v0 v1 v2 v3 g = some o → ∀ (H : Heap) (locs : List Loc) (ls : Array Slot), hs_P B D E g H → hs_Sx B s.heap H locs → lv_has ls 4 [(0, .ref (B + v0)), (1, .int v1), (2, .int v2), (3, .int v3)] → W p l e rmJ7_fill_53178 s m args below meth c H locs 0 0 Q (F0 m 5 ls []) := by
  obtain ⟨hx, hb, hr, hml, hown, hts, hlocks, hK⟩ := id hX
  intro n
  induction n with
  | zero =>
    intro v2 g hf
    cases hf
  | succ n ih =>
    intro v2 g hf H locs ls hP hS hl
    replace hf := (lJ7_fill_53178_5_s n v0 v1 v2 v3 g).symm.trans hf
    refine lv_iload_n hx hb dJ7_fill_53178_5 rfl (lv_at hl 2 rfl) ?_
    refine lv_iload_n hx hb dJ7_fill_53178_6 rfl (lv_at hl 3 rfl) ?_
    refine lv_icmp_ge (tgt := 20) hx hb dJ7_fill_53178_7 (by decide) (fun hc => ?_) (fun hc => ?_)
    · replace hf := hs_t hf hc
      obtain rfl := Option.some.inj hf
      exact hex0 _ _ _ hP hS (lv_sub hl [] rfl)
    · replace hf := hs_f hf hc
      refine lv_aload_n hx hb dJ7_fill_53178_10 rfl (lv_at hl 0 rfl) ?_
      refine lv_iload_n hx hb dJ7_fill_53178_11 rfl (lv_at hl 2 rfl) ?_
      refine lv_iload_n hx hb dJ7_fill_53178_12 rfl (lv_at hl 1 rfl) ?_
      obtain ⟨h2, hf⟩ := hs_ck hf
      obtain ⟨h3, hf⟩ := hs_ck hf
      refine hs_iast hx hb hK.1 hP hS h2 h3 dJ7_fill_53178_13 (fun H locs hP hS => ?_)
      refine lv_iinc (v := (v2 + (1 : Int32))) (lv' := [(2, .int (v2 + (1 : Int32))), (0, .ref (B + v0)), (1, .int v1), (3, .int v3)]) hx hb dJ7_fill_53178_14 hl (k := 2) rfl (by rfl) (by decide) rfl (fun ls hl => ?_)
      refine lv_goto (tgt := 5) hx hb dJ7_fill_53178_17 (by decide) ?_
      exact ih _ _ hf _ _ _ hP hS (lv_sub hl [1, 2, 0, 3] rfl)

set_option maxHeartbeats 4000000 in
set_option maxRecDepth 100000 in
theorem ctJ7_fill_53178 (l : Launch) (B : Nat) (D : va_G) (E : Nat → ClassId) (v0 : Nat) (v1 : Int32) (g : hs_S) (o : hs_S) (hf : fJ7_fill_53178 v0 v1 g = some o) : Met l yJ7_fill_53178 wcJ7_fill_53178 rmJ7_fill_53178 (hs_Pc B D E g [.ref (B + v0), .int v1]) (hs_Qv B D E o) (0) (0) (hs_F B) := by
  refine Met.ofW (cc := cJ7_fill_53178) (maxL := 4) (ret := none) (by decide) rfl ?_
  intro p e s m args below meth c s₁ Bd hml hv
  obtain ⟨rfl, hP, hK⟩ := hv
  have hx := Bd.exec
  have hb := Bd.bytes
  have hr := Bd.returns
  have hts := atoms_spec (ws := wcJ7_fill_53178) Bd.pre
  have hown : s.vm.findClass RJ7 = some m.cls := findClass_of_methodNamed Bd.named
  have hlocks := Bd.notSynchronized
  have hS : hs_Sx B s.heap s.heap [] := va_S.rf
  have hX : hs_cx cJ7_fill_53178 none 4 RJ7 wcJ7_fill_53178 p s m (List.toArray [.ref (B + v0), .int v1]) meth c D E := ⟨hx, hb, hr, hml, hown, hts, hlocks, hK⟩
  have hl := lv_entry ([.ref (B + v0), .int v1]) (n := 4) (Nat.le_of_ble_eq_true rfl)
  rw [lg_entry_eq]
  generalize (lg_sl ([.ref (B + v0), .int v1]) ++ List.replicate (4 - (lg_sl ([.ref (B + v0), .int v1])).length) Slot.unset).toArray = ls at hl ⊢
  have hl : lv_has ls 4 [(0, .ref (B + v0)), (1, .int v1)] := hl
  have hP : hs_P B D E g s.heap := hP
  unfold fJ7_fill_53178 at hf
  refine lv_iconst (v := 0) hx hb dJ7_fill_53178_0 (by decide) ?_
  refine lv_istore_n (lv' := [(2, .int (0 : Int32)), (0, .ref (B + v0)), (1, .int v1)]) hx hb dJ7_fill_53178_1 rfl hl (by decide) rfl (fun ls hl => ?_)
  refine lv_aload_n hx hb dJ7_fill_53178_2 rfl (lv_at hl 1 rfl) ?_
  obtain ⟨h1, hf⟩ := hs_ck hf
  refine hs_alen (t := 0) hx hb hK.1 hP h1 (by decide) dJ7_fill_53178_3 ?_
  refine lv_istore_n (lv' := [(3, .int (Int32.ofNat (hs_ln g v0))), (2, .int (0 : Int32)), (0, .ref (B + v0)), (1, .int v1)]) hx hb dJ7_fill_53178_4 rfl hl (by decide) rfl (fun ls hl => ?_)
  obtain ⟨g5, h6, hf⟩ := hs_bv_some hf
  refine wJ7_fill_53178_5 hX (fun H locs ls hP hS hl => ?_) hs_N _ _ h6 _ _ _ hP hS (lv_sub hl [2, 3, 1, 0] rfl)
  exact hs_vret hx hb hr hlocks hK hP hS hf dJ7_fill_53178_20

theorem dX9_put_0 : decode cX9_put 0 = .ok (.iload_n 1, 1) := by decide +kernel
theorem dX9_put_1 : decode cX9_put 1 = .ok (.ifCond .lt 13, 3) := by decide +kernel
theorem dX9_put_4 : decode cX9_put 4 = .ok (.iload_n 1, 1) := by decide +kernel
theorem dX9_put_5 : decode cX9_put 5 = .ok (.aload_n 0, 1) := by decide +kernel
theorem dX9_put_6 : decode cX9_put 6 = .ok (.arraylength, 1) := by decide +kernel
theorem dX9_put_7 : decode cX9_put 7 = .ok (.if_icmp .ge 7, 3) := by decide +kernel
theorem dX9_put_10 : decode cX9_put 10 = .ok (.aload_n 0, 1) := by decide +kernel
theorem dX9_put_11 : decode cX9_put 11 = .ok (.iload_n 1, 1) := by decide +kernel
theorem dX9_put_12 : decode cX9_put 12 = .ok (.iload_n 2, 1) := by decide +kernel
theorem dX9_put_13 : decode cX9_put 13 = .ok (.iastore, 1) := by decide +kernel
theorem dX9_put_14 : decode cX9_put 14 = .ok (.return_, 1) := by decide +kernel
abbrev wcX9_put : List Cond := .code yX9_put cX9_put 3 none :: wsL_law
def fX9_put (v0 : Nat) (v1 : Int32) (v2 : Int32) (g : hs_S) : Option (hs_S) :=
  if v1 < 0 then (
    some g
  ) else (
    if hs_kd g v0 = 100 then
    if (Int32.ofNat (hs_ln g v0)) ≤ v1 then (
      some g
    ) else (
      if hs_in v1 (hs_ln g v0) = true then
      some (hs_wI g v0 v1.toNatClampNeg v2)
      else none
    )
    else none
  )
abbrev rmX9_put : Room := { frames := 0, cells := 0, slots := 0, locals := 0 }
set_option maxHeartbeats 4000000 in
set_option maxRecDepth 100000 in
theorem ctX9_put (l : Launch) (B : Nat) (D : va_G) (E : Nat → ClassId) (v0 : Nat) (v1 : Int32) (v2 : Int32) (g : hs_S) (o : hs_S) (hf : fX9_put v0 v1 v2 g = some o) : Met l yX9_put wcX9_put rmX9_put (hs_Pc B D E g [.ref (B + v0), .int v1, .int v2]) (hs_Qv B D E o) (0) (0) (hs_F B) := by
  refine Met.ofW (cc := cX9_put) (maxL := 3) (ret := none) (by decide) rfl ?_
  intro p e s m args below meth c s₁ Bd hml hv
  obtain ⟨rfl, hP, hK⟩ := hv
  have hx := Bd.exec
  have hb := Bd.bytes
  have hr := Bd.returns
  have hts := atoms_spec (ws := wcX9_put) Bd.pre
  have hown : s.vm.findClass RX9 = some m.cls := findClass_of_methodNamed Bd.named
  have hlocks := Bd.notSynchronized
  have hS : hs_Sx B s.heap s.heap [] := va_S.rf
  have hX : hs_cx cX9_put none 3 RX9 wcX9_put p s m (List.toArray [.ref (B + v0), .int v1, .int v2]) meth c D E := ⟨hx, hb, hr, hml, hown, hts, hlocks, hK⟩
  have hl := lv_entry ([.ref (B + v0), .int v1, .int v2]) (n := 3) (Nat.le_of_ble_eq_true rfl)
  rw [lg_entry_eq]
  generalize (lg_sl ([.ref (B + v0), .int v1, .int v2]) ++ List.replicate (3 - (lg_sl ([.ref (B + v0), .int v1, .int v2])).length) Slot.unset).toArray = ls at hl ⊢
  have hl : lv_has ls 3 [(0, .ref (B + v0)), (1, .int v1), (2, .int v2)] := hl
  have hP : hs_P B D E g s.heap := hP
  unfold fX9_put at hf
  refine lv_iload_n hx hb dX9_put_0 rfl (lv_at hl 1 rfl) ?_
  refine lv_if_lt (tgt := 14) hx hb dX9_put_1 (by decide) (fun hc => ?_) (fun hc => ?_)
  · replace hf := hs_t hf hc
    exact hs_vret hx hb hr hlocks hK hP hS hf dX9_put_14
  · replace hf := hs_f hf hc
    refine lv_iload_n hx hb dX9_put_4 rfl (lv_at hl 1 rfl) ?_
    refine lv_aload_n hx hb dX9_put_5 rfl (lv_at hl 0 rfl) ?_
    obtain ⟨h1, hf⟩ := hs_ck hf
    refine hs_alen (t := 0) hx hb hK.1 hP h1 (by decide) dX9_put_6 ?_
    refine lv_icmp_ge (tgt := 14) hx hb dX9_put_7 (by decide) (fun hc => ?_) (fun hc => ?_)
    · replace hf := hs_t hf hc
      exact hs_vret hx hb hr hlocks hK hP hS hf dX9_put_14
    · replace hf := hs_f hf hc
      refine lv_aload_n hx hb dX9_put_10 rfl (lv_at hl 0 rfl) ?_
      refine lv_iload_n hx hb dX9_put_11 rfl (lv_at hl 1 rfl) ?_
      refine lv_iload_n hx hb dX9_put_12 rfl (lv_at hl 2 rfl) ?_
      obtain ⟨h2, hf⟩ := hs_ck hf
      refine hs_iast hx hb hK.1 hP hS h1 h2 dX9_put_13 (fun H locs hP hS => ?_)
      exact hs_vret hx hb hr hlocks hK hP hS hf dX9_put_14

theorem dX8_becomeFirst_0 : decode cX8_becomeFirst 0 = .ok (.aload_n 0, 1) := by decide +kernel
theorem dX8_becomeFirst_1 : decode cX8_becomeFirst 1 = .ok (.getfield 9, 3) := by decide +kernel
theorem dX8_becomeFirst_4 : decode cX8_becomeFirst 4 = .ok (.iconst 1, 1) := by decide +kernel
theorem dX8_becomeFirst_5 : decode cX8_becomeFirst 5 = .ok (.invokestatic 16, 3) := by decide +kernel
theorem dX8_becomeFirst_8 : decode cX8_becomeFirst 8 = .ok (.aload_n 0, 1) := by decide +kernel
theorem dX8_becomeFirst_9 : decode cX8_becomeFirst 9 = .ok (.getfield 9, 3) := by decide +kernel
theorem dX8_becomeFirst_12 : decode cX8_becomeFirst 12 = .ok (.sipush 184, 3) := by decide +kernel
theorem dX8_becomeFirst_15 : decode cX8_becomeFirst 15 = .ok (.iconst 5, 1) := by decide +kernel
theorem dX8_becomeFirst_16 : decode cX8_becomeFirst 16 = .ok (.invokestatic 24, 3) := by decide +kernel
theorem dX8_becomeFirst_19 : decode cX8_becomeFirst 19 = .ok (.return_, 1) := by decide +kernel
abbrev wcX8_becomeFirst : List Cond := .code yX8_becomeFirst cX8_becomeFirst 1 none :: wsL_law
def fX8_becomeFirst (v0 : Nat) (g : hs_S) : Option (hs_S) :=
  if hs_kd g v0 = 7 then
  if ¬ (hs_R g v0 0) = 0 then
  hs_bv (fJ7_fill_53178 ((hs_R g v0 0) - 1) (1 : Int32) g) fun g3 =>
  if hs_kd g3 v0 = 7 then
  if ¬ (hs_R g3 v0 0) = 0 then
  hs_bv (fX9_put ((hs_R g3 v0 0) - 1) (184 : Int32) (5 : Int32) g3) fun g8 =>
  some g8
  else none else none else none else none
abbrev rmX8_becomeFirst : Room := { frames := 1, cells := 0, slots := 0, locals := 23 }
set_option maxHeartbeats 4000000 in
set_option maxRecDepth 100000 in
theorem ctX8_becomeFirst (l : Launch) (B : Nat) (D : va_G) (E : Nat → ClassId) (v0 : Nat) (g : hs_S) (o : hs_S) (hf : fX8_becomeFirst v0 g = some o) : Met l yX8_becomeFirst wcX8_becomeFirst rmX8_becomeFirst (hs_Pc B D E g [.ref (B + v0)]) (hs_Qv B D E o) (0) (0) (hs_F B) := by
  refine Met.ofW (cc := cX8_becomeFirst) (maxL := 1) (ret := none) (by decide) rfl ?_
  intro p e s m args below meth c s₁ Bd hml hv
  obtain ⟨rfl, hP, hK⟩ := hv
  have hx := Bd.exec
  have hb := Bd.bytes
  have hr := Bd.returns
  have hts := atoms_spec (ws := wcX8_becomeFirst) Bd.pre
  have hown : s.vm.findClass RX8 = some m.cls := findClass_of_methodNamed Bd.named
  have hlocks := Bd.notSynchronized
  have hS : hs_Sx B s.heap s.heap [] := va_S.rf
  have hX : hs_cx cX8_becomeFirst none 1 RX8 wcX8_becomeFirst p s m (List.toArray [.ref (B + v0)]) meth c D E := ⟨hx, hb, hr, hml, hown, hts, hlocks, hK⟩
  have hl := lv_entry ([.ref (B + v0)]) (n := 1) (Nat.le_of_ble_eq_true rfl)
  rw [lg_entry_eq]
  generalize (lg_sl ([.ref (B + v0)]) ++ List.replicate (1 - (lg_sl ([.ref (B + v0)])).length) Slot.unset).toArray = ls at hl ⊢
  have hl : lv_has ls 1 [(0, .ref (B + v0))] := hl
  have hP : hs_P B D E g s.heap := hP
  unfold fX8_becomeFirst at hf
  refine lv_aload_n hx hb dX8_becomeFirst_0 rfl (lv_at hl 0 rfl) ?_
  obtain ⟨h1, hf⟩ := hs_ck hf
  obtain ⟨h2, hf⟩ := hs_ck hf
  refine hs_getr (C := RX8) (T := TX8) (N := 1) hx hb hts (fun w h => List.mem_cons_of_mem _ (inlX8 w h)) hown hK.1 hP h1 (by decide) rfl 0 (by decide) (hts _ (List.mem_cons_of_mem _ wq57)) (fun _ h => h) rfl h2 dX8_becomeFirst_1 ?_
  refine lv_iconst (v := 1) hx hb dX8_becomeFirst_4 (by decide) ?_
  obtain ⟨g3, h5, hf⟩ := hs_bv_some hf
  refine hs_callv (va_runS (As := [.ref (B + ((hs_R g v0 0) - 1)), .int (1 : Int32)]) (rest := []) ⟨hx, hb, hml, hown, hts⟩ (ctJ7_fill_53178 l B D E ((hs_R g v0 0) - 1) (1 : Int32) g _ h5) (va_cwS 2 hts (hs_gS (fun _ h => List.mem_cons_of_mem _ h) wq62 wq63 wq64 wq65) rfl rfl rfl (by decide +kernel) ⟨Nat.le_of_ble_eq_true rfl, Nat.le_of_ble_eq_true rfl⟩) (hs_pre hP hK) rfl rfl hl.1 rfl (lv_room (Nat.le_of_ble_eq_true rfl)) dX8_becomeFirst_5 ⟨(Nat.le_of_ble_eq_true rfl), (Nat.le_of_ble_eq_true rfl)⟩) hS (fun H locs hP hS => ?_)
  refine lv_aload_n hx hb dX8_becomeFirst_8 rfl (lv_at hl 0 rfl) ?_
  obtain ⟨h6, hf⟩ := hs_ck hf
  obtain ⟨h7, hf⟩ := hs_ck hf
  refine hs_getr (C := RX8) (T := TX8) (N := 1) hx hb hts (fun w h => List.mem_cons_of_mem _ (inlX8 w h)) hown hK.1 hP h6 (by decide) rfl 0 (by decide) (hts _ (List.mem_cons_of_mem _ wq57)) (fun _ h => h) rfl h7 dX8_becomeFirst_9 ?_
  refine lv_sipush (v := 184) hx hb dX8_becomeFirst_12 (by decide) ?_
  refine lv_iconst (v := 5) hx hb dX8_becomeFirst_15 (by decide) ?_
  obtain ⟨g8, h10, hf⟩ := hs_bv_some hf
  refine hs_callv (va_runS (As := [.ref (B + ((hs_R g3 v0 0) - 1)), .int (184 : Int32), .int (5 : Int32)]) (rest := []) ⟨hx, hb, hml, hown, hts⟩ (ctX9_put l B D E ((hs_R g3 v0 0) - 1) (184 : Int32) (5 : Int32) g3 _ h10) (va_cwS 3 hts (hs_gS (fun _ h => List.mem_cons_of_mem _ h) wq66 wq67 wq68 wq69) rfl rfl rfl (by decide +kernel) ⟨Nat.le_of_ble_eq_true rfl, Nat.le_of_ble_eq_true rfl⟩) (hs_pre hP hK) rfl rfl hl.1 rfl (lv_room (Nat.le_of_ble_eq_true rfl)) dX8_becomeFirst_16 ⟨(Nat.le_of_ble_eq_true rfl), (Nat.le_of_ble_eq_true rfl)⟩) hS (fun H locs hP hS => ?_)
  exact hs_vret hx hb hr hlocks hK hP hS hf dX8_becomeFirst_19

theorem dX8_init_0 : decode cX8_init 0 = .ok (.aload_n 0, 1) := by decide +kernel
theorem dX8_init_1 : decode cX8_init 1 = .ok (.invokespecial 1, 3) := by decide +kernel
theorem dX8_init_4 : decode cX8_init 4 = .ok (.aload_n 0, 1) := by decide +kernel
theorem dX8_init_5 : decode cX8_init 5 = .ok (.sipush 256, 3) := by decide +kernel
theorem dX8_init_8 : decode cX8_init 8 = .ok (.newarray .int, 2) := by decide +kernel
theorem dX8_init_10 : decode cX8_init 10 = .ok (.putfield 9, 3) := by decide +kernel
theorem dX8_init_13 : decode cX8_init 13 = .ok (.aload_n 0, 1) := by decide +kernel
theorem dX8_init_14 : decode cX8_init 14 = .ok (.invokevirtual 13, 3) := by decide +kernel
theorem dX8_init_17 : decode cX8_init 17 = .ok (.return_, 1) := by decide +kernel
abbrev wcX8_init : List Cond := .code yX8_init cX8_init 1 none :: wsL_law
def fX8_init (v0 : Nat) (g : hs_S) : Option (hs_S) :=
  if hs_kd (hs_new g 100 256) v0 = 7 then
  hs_bv (fX8_becomeFirst v0 (hs_wR (hs_new g 100 256) v0 0 g.1)) fun g2 =>
  some g2
  else none
abbrev rmX8_init : Room := { frames := 2, cells := 1, slots := 256, locals := 43 }
set_option maxHeartbeats 4000000 in
set_option maxRecDepth 100000 in
theorem ctX8_init (l : Launch) (B : Nat) (D : va_G) (E : Nat → ClassId) (v0 : Nat) (g : hs_S) (o : hs_S) (hf : fX8_init v0 g = some o) : Met l yX8_init wcX8_init rmX8_init (hs_Pc B D E g [.ref (B + v0)]) (hs_Qv B D E o) (1) (256) (hs_F B) := by
  refine Met.ofW (cc := cX8_init) (maxL := 1) (ret := none) (by decide) rfl ?_
  intro p e s m args below meth c s₁ Bd hml hv
  obtain ⟨rfl, hP, hK⟩ := hv
  have hx := Bd.exec
  have hb := Bd.bytes
  have hr := Bd.returns
  have hts := atoms_spec (ws := wcX8_init) Bd.pre
  have hown : s.vm.findClass RX8 = some m.cls := findClass_of_methodNamed Bd.named
  have hlocks := Bd.notSynchronized
  have hin : meth.name = "<init>" := (name_of_methodNamed Bd.named Bd.method).1
  have hS : hs_Sx B s.heap s.heap [] := va_S.rf
  have hX : hs_cx cX8_init none 1 RX8 wcX8_init p s m (List.toArray [.ref (B + v0)]) meth c D E := ⟨hx, hb, hr, hml, hown, hts, hlocks, hK⟩
  have hl := lv_entry ([.ref (B + v0)]) (n := 1) (Nat.le_of_ble_eq_true rfl)
  rw [lg_entry_eq]
  generalize (lg_sl ([.ref (B + v0)]) ++ List.replicate (1 - (lg_sl ([.ref (B + v0)])).length) Slot.unset).toArray = ls at hl ⊢
  have hl : lv_has ls 1 [(0, .ref (B + v0))] := hl
  have hP : hs_P B D E g s.heap := hP
  unfold fX8_init at hf
  refine lv_aload_n hx hb dX8_init_0 rfl (lv_at hl 0 rfl) ?_
  refine W.objInit hx hb hown (hts _ (List.mem_cons_of_mem _ wq56)) (hts _ (List.mem_cons_of_mem _ wq11)) (hts _ (List.mem_cons_of_mem _ wq12)) rfl (hl.1.trans hml.symm) rfl dX8_init_1 (Nat.le_of_ble_eq_true rfl) (Nat.le_of_ble_eq_true rfl) ?_
  refine lv_aload_n hx hb dX8_init_4 rfl (lv_at hl 0 rfl) ?_
  refine lv_sipush (v := 256) hx hb dX8_init_5 (by decide) ?_
  refine hs_newI (t := 0) (k := 100) (N := 256) (atype := .int) hx hb (by decide) rfl (hts _ (List.mem_cons_of_mem _ wq44)) rfl (fun _ _ h => h) rfl hK.1 hP hS (by decide) (by rfl) (by decide) (Nat.le_of_ble_eq_true rfl) (Nat.le_of_ble_eq_true rfl) dX8_init_8 (fun H hP hS => ?_)
  refine W.widen (k := 1) (n := 256) (by omega) (by omega) ?_
  obtain ⟨h1, hf⟩ := hs_ck hf
  refine hs_putr (C := RX8) (T := TX8) (N := 1) hx hb hts (fun w h => List.mem_cons_of_mem _ (inlX8 w h)) tyX8 tyX8_ok nmX8 hown hK.1 hP hS h1 (by decide) rfl 0 (by decide) (hts _ (List.mem_cons_of_mem _ wq57)) (fun _ h => h) (Or.inr ⟨rfl, hin, rfl⟩) (fun _ => rfl) (fun _ => rfl) rfl dX8_init_10 (fun H locs hP hS => ?_)
  refine lv_aload_n hx hb dX8_init_13 rfl (lv_at hl 0 rfl) ?_
  obtain ⟨g2, h4, hf⟩ := hs_bv_some hf
  refine hs_callv (va_runV (As := []) (rest := []) ⟨hx, hb, hml, hown, hts⟩ (ctX8_becomeFirst l B D E v0 (hs_wR (hs_new g 100 256) v0 0 g.1) _ h4) (cwV 0 hts (hs_gV (fun _ h => List.mem_cons_of_mem _ h) wq58 wq59 wq60 wq22 wq61) rfl rfl rfl (by decide +kernel) ⟨Nat.le_of_ble_eq_true rfl, Nat.le_of_ble_eq_true rfl⟩) (hs_preV (r := (RX8, TX8, 1)) hP hK h1 (by decide) rfl) rfl rfl hl.1 rfl (lv_room (Nat.le_of_ble_eq_true rfl)) dX8_init_14 ⟨(Nat.le_of_ble_eq_true rfl), (Nat.le_of_ble_eq_true rfl)⟩) hS (fun H locs hP hS => ?_)
  refine W.widen (k := 1) (n := 256) (by omega) (by omega) ?_
  exact hs_vret hx hb hr hlocks hK hP hS hf dX8_init_17

theorem dX1_init_0 : decode cX1_init 0 = .ok (.aload_n 0, 1) := by decide +kernel
theorem dX1_init_1 : decode cX1_init 1 = .ok (.invokespecial 3, 3) := by decide +kernel
theorem dX1_init_4 : decode cX1_init 4 = .ok (.aload_n 0, 1) := by decide +kernel
theorem dX1_init_5 : decode cX1_init 5 = .ok (.sipush 2000, 3) := by decide +kernel
theorem dX1_init_8 : decode cX1_init 8 = .ok (.newarray .int, 2) := by decide +kernel
theorem dX1_init_10 : decode cX1_init 10 = .ok (.putfield 9, 3) := by decide +kernel
theorem dX1_init_13 : decode cX1_init 13 = .ok (.aload_n 0, 1) := by decide +kernel
theorem dX1_init_14 : decode cX1_init 14 = .ok (.sipush 2000, 3) := by decide +kernel
theorem dX1_init_17 : decode cX1_init 17 = .ok (.newarray .int, 2) := by decide +kernel
theorem dX1_init_19 : decode cX1_init 19 = .ok (.putfield 15, 3) := by decide +kernel
theorem dX1_init_22 : decode cX1_init 22 = .ok (.return_, 1) := by decide +kernel
abbrev wcX1_init : List Cond := .code yX1_init cX1_init 1 none :: wsL_law
def fX1_init (v0 : Nat) (g : hs_S) : Option (hs_S) :=
  if hs_kd (hs_new g 100 2000) v0 = 1 then
  hs_bv (some (hs_wR (hs_new g 100 2000) v0 0 g.1)) fun g2 =>
  if hs_kd (hs_new g2 100 2000) v0 = 1 then
  some (hs_wR (hs_new g2 100 2000) v0 1 g2.1)
  else none else none
abbrev rmX1_init : Room := { frames := 1, cells := 2, slots := 4000, locals := 20 }
set_option maxHeartbeats 4000000 in
set_option maxRecDepth 100000 in
theorem ctX1_init (l : Launch) (B : Nat) (D : va_G) (E : Nat → ClassId) (v0 : Nat) (g : hs_S) (o : hs_S) (hf : fX1_init v0 g = some o) : Met l yX1_init wcX1_init rmX1_init (hs_Pc B D E g [.ref (B + v0)]) (hs_Qv B D E o) (2) (4000) (hs_F B) := by
  refine Met.ofW (cc := cX1_init) (maxL := 1) (ret := none) (by decide) rfl ?_
  intro p e s m args below meth c s₁ Bd hml hv
  obtain ⟨rfl, hP, hK⟩ := hv
  have hx := Bd.exec
  have hb := Bd.bytes
  have hr := Bd.returns
  have hts := atoms_spec (ws := wcX1_init) Bd.pre
  have hown : s.vm.findClass RX1 = some m.cls := findClass_of_methodNamed Bd.named
  have hlocks := Bd.notSynchronized
  have hin : meth.name = "<init>" := (name_of_methodNamed Bd.named Bd.method).1
  have hS : hs_Sx B s.heap s.heap [] := va_S.rf
  have hX : hs_cx cX1_init none 1 RX1 wcX1_init p s m (List.toArray [.ref (B + v0)]) meth c D E := ⟨hx, hb, hr, hml, hown, hts, hlocks, hK⟩
  have hl := lv_entry ([.ref (B + v0)]) (n := 1) (Nat.le_of_ble_eq_true rfl)
  rw [lg_entry_eq]
  generalize (lg_sl ([.ref (B + v0)]) ++ List.replicate (1 - (lg_sl ([.ref (B + v0)])).length) Slot.unset).toArray = ls at hl ⊢
  have hl : lv_has ls 1 [(0, .ref (B + v0))] := hl
  have hP : hs_P B D E g s.heap := hP
  unfold fX1_init at hf
  refine lv_aload_n hx hb dX1_init_0 rfl (lv_at hl 0 rfl) ?_
  refine W.objInit hx hb hown (hts _ (List.mem_cons_of_mem _ wq79)) (hts _ (List.mem_cons_of_mem _ wq11)) (hts _ (List.mem_cons_of_mem _ wq12)) rfl (hl.1.trans hml.symm) rfl dX1_init_1 (Nat.le_of_ble_eq_true rfl) (Nat.le_of_ble_eq_true rfl) ?_
  refine lv_aload_n hx hb dX1_init_4 rfl (lv_at hl 0 rfl) ?_
  refine lv_sipush (v := 2000) hx hb dX1_init_5 (by decide) ?_
  refine hs_newI (t := 0) (k := 100) (N := 2000) (atype := .int) hx hb (by decide) rfl (hts _ (List.mem_cons_of_mem _ wq44)) rfl (fun _ _ h => h) rfl hK.1 hP hS (by decide) (by rfl) (by decide) (Nat.le_of_ble_eq_true rfl) (Nat.le_of_ble_eq_true rfl) dX1_init_8 (fun H hP hS => ?_)
  refine W.widen (k := 1) (n := 2000) (by omega) (by omega) ?_
  obtain ⟨h1, hf⟩ := hs_ck hf
  refine hs_putr (C := RX1) (T := TX1) (N := 3) hx hb hts (fun w h => List.mem_cons_of_mem _ (inlX1 w h)) tyX1 tyX1_ok nmX1 hown hK.1 hP hS h1 (by decide) rfl 0 (by decide) (hts _ (List.mem_cons_of_mem _ wq80)) (fun _ h => h) (Or.inr ⟨rfl, hin, rfl⟩) (fun _ => rfl) (fun _ => rfl) rfl dX1_init_10 (fun H locs hP hS => ?_)
  refine lv_aload_n hx hb dX1_init_13 rfl (lv_at hl 0 rfl) ?_
  refine lv_sipush (v := 2000) hx hb dX1_init_14 (by decide) ?_
  obtain ⟨g2, e3, hf⟩ := hs_bv_some hf
  replace e3 := Option.some.inj e3
  rw [e3] at hP
  have h4 : hs_kd g2 v0 = 1 := by rw [← e3]; exact h1
  refine hs_newI (t := 0) (k := 100) (N := 2000) (atype := .int) hx hb (by decide) rfl (hts _ (List.mem_cons_of_mem _ wq44)) rfl (fun _ _ h => h) rfl hK.1 hP hS (by decide) (by rfl) (by decide) (Nat.le_of_ble_eq_true rfl) (Nat.le_of_ble_eq_true rfl) dX1_init_17 (fun H hP hS => ?_)
  refine W.widen (k := 2) (n := 4000) (by omega) (by omega) ?_
  obtain ⟨h5, hf⟩ := hs_ck hf
  refine hs_putr (C := RX1) (T := TX1) (N := 3) hx hb hts (fun w h => List.mem_cons_of_mem _ (inlX1 w h)) tyX1 tyX1_ok nmX1 hown hK.1 hP hS h5 (by decide) rfl 1 (by decide) (hts _ (List.mem_cons_of_mem _ wq81)) (fun _ h => h) (Or.inr ⟨rfl, hin, rfl⟩) (fun _ => rfl) (fun _ => rfl) rfl dX1_init_19 (fun H locs hP hS => ?_)
  refine W.widen (k := 2) (n := 4000) (by omega) (by omega) ?_
  exact hs_vret hx hb hr hlocks hK hP hS hf dX1_init_22

theorem dX2_init_0 : decode cX2_init 0 = .ok (.aload_n 0, 1) := by decide +kernel
theorem dX2_init_1 : decode cX2_init 1 = .ok (.invokespecial 3, 3) := by decide +kernel
theorem dX2_init_4 : decode cX2_init 4 = .ok (.aload_n 0, 1) := by decide +kernel
theorem dX2_init_5 : decode cX2_init 5 = .ok (.new 9, 3) := by decide +kernel
theorem dX2_init_8 : decode cX2_init 8 = .ok (.dup, 1) := by decide +kernel
theorem dX2_init_9 : decode cX2_init 9 = .ok (.invokespecial 11, 3) := by decide +kernel
theorem dX2_init_12 : decode cX2_init 12 = .ok (.putfield 12, 3) := by decide +kernel
theorem dX2_init_15 : decode cX2_init 15 = .ok (.return_, 1) := by decide +kernel
abbrev wcX2_init : List Cond := .code yX2_init cX2_init 1 none :: wsL_law
def fX2_init (v0 : Nat) (g : hs_S) : Option (hs_S) :=
  hs_bv (fX1_init g.1 (hs_new g 1 0)) fun g1 =>
  if hs_kd g1 v0 = 2 then
  some (hs_wR g1 v0 0 g.1)
  else none
abbrev rmX2_init : Room := { frames := 2, cells := 3, slots := 4003, locals := 40 }
set_option maxHeartbeats 4000000 in
set_option maxRecDepth 100000 in
theorem ctX2_init (l : Launch) (B : Nat) (D : va_G) (E : Nat → ClassId) (v0 : Nat) (g : hs_S) (o : hs_S) (hf : fX2_init v0 g = some o) : Met l yX2_init wcX2_init rmX2_init (hs_Pc B D E g [.ref (B + v0)]) (hs_Qv B D E o) (3) (4003) (hs_F B) := by
  refine Met.ofW (cc := cX2_init) (maxL := 1) (ret := none) (by decide) rfl ?_
  intro p e s m args below meth c s₁ Bd hml hv
  obtain ⟨rfl, hP, hK⟩ := hv
  have hx := Bd.exec
  have hb := Bd.bytes
  have hr := Bd.returns
  have hts := atoms_spec (ws := wcX2_init) Bd.pre
  have hown : s.vm.findClass RX2 = some m.cls := findClass_of_methodNamed Bd.named
  have hlocks := Bd.notSynchronized
  have hin : meth.name = "<init>" := (name_of_methodNamed Bd.named Bd.method).1
  have hS : hs_Sx B s.heap s.heap [] := va_S.rf
  have hX : hs_cx cX2_init none 1 RX2 wcX2_init p s m (List.toArray [.ref (B + v0)]) meth c D E := ⟨hx, hb, hr, hml, hown, hts, hlocks, hK⟩
  have hl := lv_entry ([.ref (B + v0)]) (n := 1) (Nat.le_of_ble_eq_true rfl)
  rw [lg_entry_eq]
  generalize (lg_sl ([.ref (B + v0)]) ++ List.replicate (1 - (lg_sl ([.ref (B + v0)])).length) Slot.unset).toArray = ls at hl ⊢
  have hl : lv_has ls 1 [(0, .ref (B + v0))] := hl
  have hP : hs_P B D E g s.heap := hP
  unfold fX2_init at hf
  refine lv_aload_n hx hb dX2_init_0 rfl (lv_at hl 0 rfl) ?_
  refine W.objInit hx hb hown (hts _ (List.mem_cons_of_mem _ wq72)) (hts _ (List.mem_cons_of_mem _ wq11)) (hts _ (List.mem_cons_of_mem _ wq12)) rfl (hl.1.trans hml.symm) rfl dX2_init_1 (Nat.le_of_ble_eq_true rfl) (Nat.le_of_ble_eq_true rfl) ?_
  refine lv_aload_n hx hb dX2_init_4 rfl (lv_at hl 0 rfl) ?_
  refine hs_newc (ci := 1) (C := RX1) (T := TX1) (N := 3) hx hb hts (fun w h => List.mem_cons_of_mem _ (inlX1 w h)) tyX1 tyX1_ok hown (hts _ (List.mem_cons_of_mem _ wq73)) (hts _ (List.mem_cons_of_mem _ wq74)) (hts _ (List.mem_cons_of_mem _ wq75)) hK.1 hP hS (by decide) rfl hs_dfX1 (Nat.le_of_ble_eq_true rfl) (Nat.le_of_ble_eq_true rfl) dX2_init_5 (fun H hP hS => ?_)
  refine W.widen (k := 1) (n := 3) (by omega) (by omega) ?_
  refine lv_dup hx hb dX2_init_8 rfl ?_
  obtain ⟨g1, h3, hf⟩ := hs_bv_some hf
  refine hs_callv (va_runIN (As := []) (rest := [.ref (B + g.1), .ref (B + v0)]) ⟨hx, hb, hml, hown, hts⟩ (ctX1_init l B D E g.1 (hs_new g 1 0) _ h3) ⟨va_cnB 0 hts (hs_gI (fun _ h => List.mem_cons_of_mem _ h) wq78) rfl rfl rfl hK.2.2.2.1 (hts _ (List.mem_cons_of_mem _ wq75)) (by decide +kernel) ⟨Nat.le_of_ble_eq_true rfl, Nat.le_of_ble_eq_true rfl⟩, rfl, (hts _ (List.mem_cons_of_mem _ wq77))⟩ (hs_pre hP hK) rfl rfl hl.1 rfl (lv_room (Nat.le_of_ble_eq_true rfl)) dX2_init_9 ⟨(Nat.le_of_ble_eq_true rfl), (Nat.le_of_ble_eq_true rfl)⟩) hS (fun H locs hP hS => ?_)
  refine W.widen (k := 3) (n := 4003) (by omega) (by omega) ?_
  obtain ⟨h4, hf⟩ := hs_ck hf
  refine hs_putr (C := RX2) (T := TX2) (N := 1) hx hb hts (fun w h => List.mem_cons_of_mem _ (inlX2 w h)) tyX2 tyX2_ok nmX2 hown hK.1 hP hS h4 (by decide) rfl 0 (by decide) (hts _ (List.mem_cons_of_mem _ wq76)) (fun _ h => h) (Or.inr ⟨rfl, hin, rfl⟩) (fun _ => rfl) (fun _ => rfl) rfl dX2_init_12 (fun H locs hP hS => ?_)
  refine W.widen (k := 3) (n := 4003) (by omega) (by omega) ?_
  exact hs_vret hx hb hr hlocks hK hP hS hf dX2_init_15

theorem dX5_init_0 : decode cX5_init 0 = .ok (.aload_n 0, 1) := by decide +kernel
theorem dX5_init_1 : decode cX5_init 1 = .ok (.invokespecial 3, 3) := by decide +kernel
theorem dX5_init_4 : decode cX5_init 4 = .ok (.aload_n 0, 1) := by decide +kernel
theorem dX5_init_5 : decode cX5_init 5 = .ok (.sipush 2000, 3) := by decide +kernel
theorem dX5_init_8 : decode cX5_init 8 = .ok (.newarray .int, 2) := by decide +kernel
theorem dX5_init_10 : decode cX5_init 10 = .ok (.putfield 9, 3) := by decide +kernel
theorem dX5_init_13 : decode cX5_init 13 = .ok (.aload_n 0, 1) := by decide +kernel
theorem dX5_init_14 : decode cX5_init 14 = .ok (.sipush 2001, 3) := by decide +kernel
theorem dX5_init_17 : decode cX5_init 17 = .ok (.newarray .int, 2) := by decide +kernel
theorem dX5_init_19 : decode cX5_init 19 = .ok (.putfield 15, 3) := by decide +kernel
theorem dX5_init_22 : decode cX5_init 22 = .ok (.aload_n 0, 1) := by decide +kernel
theorem dX5_init_23 : decode cX5_init 23 = .ok (.sipush 2000, 3) := by decide +kernel
theorem dX5_init_26 : decode cX5_init 26 = .ok (.newarray .int, 2) := by decide +kernel
theorem dX5_init_28 : decode cX5_init 28 = .ok (.putfield 18, 3) := by decide +kernel
theorem dX5_init_31 : decode cX5_init 31 = .ok (.aload_n 0, 1) := by decide +kernel
theorem dX5_init_32 : decode cX5_init 32 = .ok (.sipush 2000, 3) := by decide +kernel
theorem dX5_init_35 : decode cX5_init 35 = .ok (.newarray .int, 2) := by decide +kernel
theorem dX5_init_37 : decode cX5_init 37 = .ok (.putfield 21, 3) := by decide +kernel
theorem dX5_init_40 : decode cX5_init 40 = .ok (.return_, 1) := by decide +kernel
abbrev wcX5_init : List Cond := .code yX5_init cX5_init 1 none :: wsL_law
def fX5_init (v0 : Nat) (g : hs_S) : Option (hs_S) :=
  if hs_kd (hs_new g 100 2000) v0 = 4 then
  hs_bv (some (hs_wR (hs_new g 100 2000) v0 0 g.1)) fun g2 =>
  if hs_kd (hs_new g2 100 2001) v0 = 4 then
  hs_bv (some (hs_wR (hs_new g2 100 2001) v0 1 g2.1)) fun g6 =>
  if hs_kd (hs_new g6 100 2000) v0 = 4 then
  hs_bv (some (hs_wR (hs_new g6 100 2000) v0 2 g6.1)) fun g10 =>
  if hs_kd (hs_new g10 100 2000) v0 = 4 then
  some (hs_wR (hs_new g10 100 2000) v0 3 g10.1)
  else none else none else none else none
abbrev rmX5_init : Room := { frames := 1, cells := 4, slots := 8001, locals := 20 }
set_option maxHeartbeats 4000000 in
set_option maxRecDepth 100000 in
theorem ctX5_init (l : Launch) (B : Nat) (D : va_G) (E : Nat → ClassId) (v0 : Nat) (g : hs_S) (o : hs_S) (hf : fX5_init v0 g = some o) : Met l yX5_init wcX5_init rmX5_init (hs_Pc B D E g [.ref (B + v0)]) (hs_Qv B D E o) (4) (8001) (hs_F B) := by
  refine Met.ofW (cc := cX5_init) (maxL := 1) (ret := none) (by decide) rfl ?_
  intro p e s m args below meth c s₁ Bd hml hv
  obtain ⟨rfl, hP, hK⟩ := hv
  have hx := Bd.exec
  have hb := Bd.bytes
  have hr := Bd.returns
  have hts := atoms_spec (ws := wcX5_init) Bd.pre
  have hown : s.vm.findClass RX5 = some m.cls := findClass_of_methodNamed Bd.named
  have hlocks := Bd.notSynchronized
  have hin : meth.name = "<init>" := (name_of_methodNamed Bd.named Bd.method).1
  have hS : hs_Sx B s.heap s.heap [] := va_S.rf
  have hX : hs_cx cX5_init none 1 RX5 wcX5_init p s m (List.toArray [.ref (B + v0)]) meth c D E := ⟨hx, hb, hr, hml, hown, hts, hlocks, hK⟩
  have hl := lv_entry ([.ref (B + v0)]) (n := 1) (Nat.le_of_ble_eq_true rfl)
  rw [lg_entry_eq]
  generalize (lg_sl ([.ref (B + v0)]) ++ List.replicate (1 - (lg_sl ([.ref (B + v0)])).length) Slot.unset).toArray = ls at hl ⊢
  have hl : lv_has ls 1 [(0, .ref (B + v0))] := hl
  have hP : hs_P B D E g s.heap := hP
  unfold fX5_init at hf
  refine lv_aload_n hx hb dX5_init_0 rfl (lv_at hl 0 rfl) ?_
  refine W.objInit hx hb hown (hts _ (List.mem_cons_of_mem _ wq84)) (hts _ (List.mem_cons_of_mem _ wq11)) (hts _ (List.mem_cons_of_mem _ wq12)) rfl (hl.1.trans hml.symm) rfl dX5_init_1 (Nat.le_of_ble_eq_true rfl) (Nat.le_of_ble_eq_true rfl) ?_
  refine lv_aload_n hx hb dX5_init_4 rfl (lv_at hl 0 rfl) ?_
  refine lv_sipush (v := 2000) hx hb dX5_init_5 (by decide) ?_
  refine hs_newI (t := 0) (k := 100) (N := 2000) (atype := .int) hx hb (by decide) rfl (hts _ (List.mem_cons_of_mem _ wq44)) rfl (fun _ _ h => h) rfl hK.1 hP hS (by decide) (by rfl) (by decide) (Nat.le_of_ble_eq_true rfl) (Nat.le_of_ble_eq_true rfl) dX5_init_8 (fun H hP hS => ?_)
  refine W.widen (k := 1) (n := 2000) (by omega) (by omega) ?_
  obtain ⟨h1, hf⟩ := hs_ck hf
  refine hs_putr (C := RX5) (T := TX5) (N := 5) hx hb hts (fun w h => List.mem_cons_of_mem _ (inlX5 w h)) tyX5 tyX5_ok nmX5 hown hK.1 hP hS h1 (by decide) rfl 0 (by decide) (hts _ (List.mem_cons_of_mem _ wq85)) (fun _ h => h) (Or.inr ⟨rfl, hin, rfl⟩) (fun _ => rfl) (fun _ => rfl) rfl dX5_init_10 (fun H locs hP hS => ?_)
  refine lv_aload_n hx hb dX5_init_13 rfl (lv_at hl 0 rfl) ?_
  refine lv_sipush (v := 2001) hx hb dX5_init_14 (by decide) ?_
  obtain ⟨g2, e3, hf⟩ := hs_bv_some hf
  replace e3 := Option.some.inj e3
  rw [e3] at hP
  have h4 : hs_kd g2 v0 = 4 := by rw [← e3]; exact h1
  refine hs_newI (t := 0) (k := 100) (N := 2001) (atype := .int) hx hb (by decide) rfl (hts _ (List.mem_cons_of_mem _ wq44)) rfl (fun _ _ h => h) rfl hK.1 hP hS (by decide) (by rfl) (by decide) (Nat.le_of_ble_eq_true rfl) (Nat.le_of_ble_eq_true rfl) dX5_init_17 (fun H hP hS => ?_)
  refine W.widen (k := 2) (n := 4001) (by omega) (by omega) ?_
  obtain ⟨h5, hf⟩ := hs_ck hf
  refine hs_putr (C := RX5) (T := TX5) (N := 5) hx hb hts (fun w h => List.mem_cons_of_mem _ (inlX5 w h)) tyX5 tyX5_ok nmX5 hown hK.1 hP hS h5 (by decide) rfl 1 (by decide) (hts _ (List.mem_cons_of_mem _ wq86)) (fun _ h => h) (Or.inr ⟨rfl, hin, rfl⟩) (fun _ => rfl) (fun _ => rfl) rfl dX5_init_19 (fun H locs hP hS => ?_)
  refine lv_aload_n hx hb dX5_init_22 rfl (lv_at hl 0 rfl) ?_
  refine lv_sipush (v := 2000) hx hb dX5_init_23 (by decide) ?_
  obtain ⟨g6, e7, hf⟩ := hs_bv_some hf
  replace e7 := Option.some.inj e7
  rw [e7] at hP
  have h8 : hs_kd g6 v0 = 4 := by rw [← e7]; exact h5
  refine hs_newI (t := 0) (k := 100) (N := 2000) (atype := .int) hx hb (by decide) rfl (hts _ (List.mem_cons_of_mem _ wq44)) rfl (fun _ _ h => h) rfl hK.1 hP hS (by decide) (by rfl) (by decide) (Nat.le_of_ble_eq_true rfl) (Nat.le_of_ble_eq_true rfl) dX5_init_26 (fun H hP hS => ?_)
  refine W.widen (k := 3) (n := 6001) (by omega) (by omega) ?_
  obtain ⟨h9, hf⟩ := hs_ck hf
  refine hs_putr (C := RX5) (T := TX5) (N := 5) hx hb hts (fun w h => List.mem_cons_of_mem _ (inlX5 w h)) tyX5 tyX5_ok nmX5 hown hK.1 hP hS h9 (by decide) rfl 2 (by decide) (hts _ (List.mem_cons_of_mem _ wq87)) (fun _ h => h) (Or.inr ⟨rfl, hin, rfl⟩) (fun _ => rfl) (fun _ => rfl) rfl dX5_init_28 (fun H locs hP hS => ?_)
  refine lv_aload_n hx hb dX5_init_31 rfl (lv_at hl 0 rfl) ?_
  refine lv_sipush (v := 2000) hx hb dX5_init_32 (by decide) ?_
  obtain ⟨g10, e11, hf⟩ := hs_bv_some hf
  replace e11 := Option.some.inj e11
  rw [e11] at hP
  have h12 : hs_kd g10 v0 = 4 := by rw [← e11]; exact h9
  refine hs_newI (t := 0) (k := 100) (N := 2000) (atype := .int) hx hb (by decide) rfl (hts _ (List.mem_cons_of_mem _ wq44)) rfl (fun _ _ h => h) rfl hK.1 hP hS (by decide) (by rfl) (by decide) (Nat.le_of_ble_eq_true rfl) (Nat.le_of_ble_eq_true rfl) dX5_init_35 (fun H hP hS => ?_)
  refine W.widen (k := 4) (n := 8001) (by omega) (by omega) ?_
  obtain ⟨h13, hf⟩ := hs_ck hf
  refine hs_putr (C := RX5) (T := TX5) (N := 5) hx hb hts (fun w h => List.mem_cons_of_mem _ (inlX5 w h)) tyX5 tyX5_ok nmX5 hown hK.1 hP hS h13 (by decide) rfl 3 (by decide) (hts _ (List.mem_cons_of_mem _ wq88)) (fun _ h => h) (Or.inr ⟨rfl, hin, rfl⟩) (fun _ => rfl) (fun _ => rfl) rfl dX5_init_37 (fun H locs hP hS => ?_)
  refine W.widen (k := 4) (n := 8001) (by omega) (by omega) ?_
  exact hs_vret hx hb hr hlocks hK hP hS hf dX5_init_40

theorem dX10_init_0 : decode cX10_init 0 = .ok (.aload_n 0, 1) := by decide +kernel
theorem dX10_init_1 : decode cX10_init 1 = .ok (.invokespecial 3, 3) := by decide +kernel
theorem dX10_init_4 : decode cX10_init 4 = .ok (.aload_n 0, 1) := by decide +kernel
theorem dX10_init_5 : decode cX10_init 5 = .ok (.iconst 4, 1) := by decide +kernel
theorem dX10_init_6 : decode cX10_init 6 = .ok (.newarray .int, 2) := by decide +kernel
theorem dX10_init_8 : decode cX10_init 8 = .ok (.putfield 9, 3) := by decide +kernel
theorem dX10_init_11 : decode cX10_init 11 = .ok (.aload_n 0, 1) := by decide +kernel
theorem dX10_init_12 : decode cX10_init 12 = .ok (.sipush 4000, 3) := by decide +kernel
theorem dX10_init_15 : decode cX10_init 15 = .ok (.newarray .int, 2) := by decide +kernel
theorem dX10_init_17 : decode cX10_init 17 = .ok (.putfield 15, 3) := by decide +kernel
theorem dX10_init_20 : decode cX10_init 20 = .ok (.return_, 1) := by decide +kernel
abbrev wcX10_init : List Cond := .code yX10_init cX10_init 1 none :: wsL_law
def fX10_init (v0 : Nat) (g : hs_S) : Option (hs_S) :=
  if hs_kd (hs_new g 100 4) v0 = 8 then
  hs_bv (some (hs_wR (hs_new g 100 4) v0 0 g.1)) fun g2 =>
  if hs_kd (hs_new g2 100 4000) v0 = 8 then
  some (hs_wR (hs_new g2 100 4000) v0 1 g2.1)
  else none else none
abbrev rmX10_init : Room := { frames := 1, cells := 2, slots := 4004, locals := 20 }
set_option maxHeartbeats 4000000 in
set_option maxRecDepth 100000 in
theorem ctX10_init (l : Launch) (B : Nat) (D : va_G) (E : Nat → ClassId) (v0 : Nat) (g : hs_S) (o : hs_S) (hf : fX10_init v0 g = some o) : Met l yX10_init wcX10_init rmX10_init (hs_Pc B D E g [.ref (B + v0)]) (hs_Qv B D E o) (2) (4004) (hs_F B) := by
  refine Met.ofW (cc := cX10_init) (maxL := 1) (ret := none) (by decide) rfl ?_
  intro p e s m args below meth c s₁ Bd hml hv
  obtain ⟨rfl, hP, hK⟩ := hv
  have hx := Bd.exec
  have hb := Bd.bytes
  have hr := Bd.returns
  have hts := atoms_spec (ws := wcX10_init) Bd.pre
  have hown : s.vm.findClass RX10 = some m.cls := findClass_of_methodNamed Bd.named
  have hlocks := Bd.notSynchronized
  have hin : meth.name = "<init>" := (name_of_methodNamed Bd.named Bd.method).1
  have hS : hs_Sx B s.heap s.heap [] := va_S.rf
  have hX : hs_cx cX10_init none 1 RX10 wcX10_init p s m (List.toArray [.ref (B + v0)]) meth c D E := ⟨hx, hb, hr, hml, hown, hts, hlocks, hK⟩
  have hl := lv_entry ([.ref (B + v0)]) (n := 1) (Nat.le_of_ble_eq_true rfl)
  rw [lg_entry_eq]
  generalize (lg_sl ([.ref (B + v0)]) ++ List.replicate (1 - (lg_sl ([.ref (B + v0)])).length) Slot.unset).toArray = ls at hl ⊢
  have hl : lv_has ls 1 [(0, .ref (B + v0))] := hl
  have hP : hs_P B D E g s.heap := hP
  unfold fX10_init at hf
  refine lv_aload_n hx hb dX10_init_0 rfl (lv_at hl 0 rfl) ?_
  refine W.objInit hx hb hown (hts _ (List.mem_cons_of_mem _ wq104)) (hts _ (List.mem_cons_of_mem _ wq11)) (hts _ (List.mem_cons_of_mem _ wq12)) rfl (hl.1.trans hml.symm) rfl dX10_init_1 (Nat.le_of_ble_eq_true rfl) (Nat.le_of_ble_eq_true rfl) ?_
  refine lv_aload_n hx hb dX10_init_4 rfl (lv_at hl 0 rfl) ?_
  refine lv_iconst (v := 4) hx hb dX10_init_5 (by decide) ?_
  refine hs_newI (t := 0) (k := 100) (N := 4) (atype := .int) hx hb (by decide) rfl (hts _ (List.mem_cons_of_mem _ wq44)) rfl (fun _ _ h => h) rfl hK.1 hP hS (by decide) (by rfl) (by decide) (Nat.le_of_ble_eq_true rfl) (Nat.le_of_ble_eq_true rfl) dX10_init_6 (fun H hP hS => ?_)
  refine W.widen (k := 1) (n := 4) (by omega) (by omega) ?_
  obtain ⟨h1, hf⟩ := hs_ck hf
  refine hs_putr (C := RX10) (T := TX10) (N := 2) hx hb hts (fun w h => List.mem_cons_of_mem _ (inlX10 w h)) tyX10 tyX10_ok nmX10 hown hK.1 hP hS h1 (by decide) rfl 0 (by decide) (hts _ (List.mem_cons_of_mem _ wq105)) (fun _ h => h) (Or.inr ⟨rfl, hin, rfl⟩) (fun _ => rfl) (fun _ => rfl) rfl dX10_init_8 (fun H locs hP hS => ?_)
  refine lv_aload_n hx hb dX10_init_11 rfl (lv_at hl 0 rfl) ?_
  refine lv_sipush (v := 4000) hx hb dX10_init_12 (by decide) ?_
  obtain ⟨g2, e3, hf⟩ := hs_bv_some hf
  replace e3 := Option.some.inj e3
  rw [e3] at hP
  have h4 : hs_kd g2 v0 = 8 := by rw [← e3]; exact h1
  refine hs_newI (t := 0) (k := 100) (N := 4000) (atype := .int) hx hb (by decide) rfl (hts _ (List.mem_cons_of_mem _ wq44)) rfl (fun _ _ h => h) rfl hK.1 hP hS (by decide) (by rfl) (by decide) (Nat.le_of_ble_eq_true rfl) (Nat.le_of_ble_eq_true rfl) dX10_init_15 (fun H hP hS => ?_)
  refine W.widen (k := 2) (n := 4004) (by omega) (by omega) ?_
  obtain ⟨h5, hf⟩ := hs_ck hf
  refine hs_putr (C := RX10) (T := TX10) (N := 2) hx hb hts (fun w h => List.mem_cons_of_mem _ (inlX10 w h)) tyX10 tyX10_ok nmX10 hown hK.1 hP hS h5 (by decide) rfl 1 (by decide) (hts _ (List.mem_cons_of_mem _ wq106)) (fun _ h => h) (Or.inr ⟨rfl, hin, rfl⟩) (fun _ => rfl) (fun _ => rfl) rfl dX10_init_17 (fun H locs hP hS => ?_)
  refine W.widen (k := 2) (n := 4004) (by omega) (by omega) ?_
  exact hs_vret hx hb hr hlocks hK hP hS hf dX10_init_20

theorem dX0_method_0 : decode cX0_method 0 = .ok (.iload_n 1, 1) := by decide +kernel
theorem dX0_method_1 : decode cX0_method 1 = .ok (.ifCond .lt 18, 3) := by decide +kernel
theorem dX0_method_4 : decode cX0_method 4 = .ok (.iload_n 1, 1) := by decide +kernel
theorem dX0_method_5 : decode cX0_method 5 = .ok (.bipush 8, 2) := by decide +kernel
theorem dX0_method_7 : decode cX0_method 7 = .ok (.if_icmp .ge 12, 3) := by decide +kernel
theorem dX0_method_10 : decode cX0_method 10 = .ok (.aload_n 0, 1) := by decide +kernel
theorem dX0_method_11 : decode cX0_method 11 = .ok (.getfield 11, 3) := by decide +kernel
theorem dX0_method_14 : decode cX0_method 14 = .ok (.iload_n 1, 1) := by decide +kernel
theorem dX0_method_15 : decode cX0_method 15 = .ok (.aaload, 1) := by decide +kernel
theorem dX0_method_16 : decode cX0_method 16 = .ok (.goto 7, 3) := by decide +kernel
theorem dX0_method_19 : decode cX0_method 19 = .ok (.aload_n 0, 1) := by decide +kernel
theorem dX0_method_20 : decode cX0_method 20 = .ok (.getfield 20, 3) := by decide +kernel
theorem dX0_method_23 : decode cX0_method 23 = .ok (.areturn, 1) := by decide +kernel
abbrev wcX0_method : List Cond := .code yX0_method cX0_method 2 (some (.object "StepRewriter$Method")) :: wsL_law
def fX0_method (v0 : Nat) (v1 : Int32) (g : hs_S) : Option (Nat × hs_S) :=
  if v1 < 0 then (
    if hs_kd g v0 = 0 then
    if ¬ (hs_R g v0 2) = 0 then
    some (((hs_R g v0 2) - 1), g)
    else none else none
  ) else (
    if (8 : Int32) ≤ v1 then (
      if hs_kd g v0 = 0 then
      if ¬ (hs_R g v0 2) = 0 then
      some (((hs_R g v0 2) - 1), g)
      else none else none
    ) else (
      if hs_kd g v0 = 0 then
      if ¬ (hs_R g v0 1) = 0 then
      if hs_kd g ((hs_R g v0 1) - 1) = 102 then
      if hs_in v1 (hs_ln g ((hs_R g v0 1) - 1)) = true then
      if ¬ (hs_R g ((hs_R g v0 1) - 1) v1.toNatClampNeg) = 0 then
      some (((hs_R g ((hs_R g v0 1) - 1) v1.toNatClampNeg) - 1), g)
      else none else none else none else none else none
    )
  )
abbrev rmX0_method : Room := { frames := 0, cells := 0, slots := 0, locals := 0 }
set_option maxHeartbeats 4000000 in
set_option maxRecDepth 100000 in
theorem ctX0_method (l : Launch) (B : Nat) (D : va_G) (E : Nat → ClassId) (v0 : Nat) (v1 : Int32) (g : hs_S) (o : Nat × hs_S) (hf : fX0_method v0 v1 g = some o) : Met l yX0_method wcX0_method rmX0_method (hs_Pc B D E g [.ref (B + v0), .int v1]) (hs_Qr B D E o) (0) (0) (hs_F B) := by
  refine Met.ofW (cc := cX0_method) (maxL := 2) (ret := (some (.object "StepRewriter$Method"))) (by decide) rfl ?_
  intro p e s m args below meth c s₁ Bd hml hv
  obtain ⟨rfl, hP, hK⟩ := hv
  have hx := Bd.exec
  have hb := Bd.bytes
  have hr := Bd.returns
  have hts := atoms_spec (ws := wcX0_method) Bd.pre
  have hown : s.vm.findClass RX0 = some m.cls := findClass_of_methodNamed Bd.named
  have hlocks := Bd.notSynchronized
  have hS : hs_Sx B s.heap s.heap [] := va_S.rf
  have hX : hs_cx cX0_method (some (.object "StepRewriter$Method")) 2 RX0 wcX0_method p s m (List.toArray [.ref (B + v0), .int v1]) meth c D E := ⟨hx, hb, hr, hml, hown, hts, hlocks, hK⟩
  have hl := lv_entry ([.ref (B + v0), .int v1]) (n := 2) (Nat.le_of_ble_eq_true rfl)
  rw [lg_entry_eq]
  generalize (lg_sl ([.ref (B + v0), .int v1]) ++ List.replicate (2 - (lg_sl ([.ref (B + v0), .int v1])).length) Slot.unset).toArray = ls at hl ⊢
  have hl : lv_has ls 2 [(0, .ref (B + v0)), (1, .int v1)] := hl
  have hP : hs_P B D E g s.heap := hP
  unfold fX0_method at hf
  refine lv_iload_n hx hb dX0_method_0 rfl (lv_at hl 1 rfl) ?_
  refine lv_if_lt (tgt := 19) hx hb dX0_method_1 (by decide) (fun hc => ?_) (fun hc => ?_)
  · replace hf := hs_t hf hc
    refine lv_aload_n hx hb dX0_method_19 rfl (lv_at hl 0 rfl) ?_
    obtain ⟨h1, hf⟩ := hs_ck hf
    obtain ⟨h2, hf⟩ := hs_ck hf
    refine hs_getr (C := RX0) (T := TX0) (N := 5) hx hb hts (fun w h => List.mem_cons_of_mem _ (inlX0 w h)) hown hK.1 hP h1 (by decide) rfl 2 (by decide) (hts _ (List.mem_cons_of_mem _ wq45)) (fun _ h => h) rfl h2 dX0_method_20 ?_
    exact hs_aret hx hb hr (Or.inl ⟨_, rfl⟩) hlocks hK hP hS hf dX0_method_23
  · replace hf := hs_f hf hc
    refine lv_iload_n hx hb dX0_method_4 rfl (lv_at hl 1 rfl) ?_
    refine lv_bipush (v := 8) hx hb dX0_method_5 (by decide) ?_
    refine lv_icmp_ge (tgt := 19) hx hb dX0_method_7 (by decide) (fun hc => ?_) (fun hc => ?_)
    · replace hf := hs_t hf hc
      refine lv_aload_n hx hb dX0_method_19 rfl (lv_at hl 0 rfl) ?_
      obtain ⟨h3, hf⟩ := hs_ck hf
      obtain ⟨h4, hf⟩ := hs_ck hf
      refine hs_getr (C := RX0) (T := TX0) (N := 5) hx hb hts (fun w h => List.mem_cons_of_mem _ (inlX0 w h)) hown hK.1 hP h3 (by decide) rfl 2 (by decide) (hts _ (List.mem_cons_of_mem _ wq45)) (fun _ h => h) rfl h4 dX0_method_20 ?_
      exact hs_aret hx hb hr (Or.inl ⟨_, rfl⟩) hlocks hK hP hS hf dX0_method_23
    · replace hf := hs_f hf hc
      refine lv_aload_n hx hb dX0_method_10 rfl (lv_at hl 0 rfl) ?_
      obtain ⟨h5, hf⟩ := hs_ck hf
      obtain ⟨h6, hf⟩ := hs_ck hf
      refine hs_getr (C := RX0) (T := TX0) (N := 5) hx hb hts (fun w h => List.mem_cons_of_mem _ (inlX0 w h)) hown hK.1 hP h5 (by decide) rfl 1 (by decide) (hts _ (List.mem_cons_of_mem _ wq41)) (fun _ h => h) rfl h6 dX0_method_11 ?_
      refine lv_iload_n hx hb dX0_method_14 rfl (lv_at hl 1 rfl) ?_
      obtain ⟨h7, hf⟩ := hs_ck hf
      obtain ⟨h8, hf⟩ := hs_ck hf
      obtain ⟨h9, hf⟩ := hs_ck hf
      refine hs_aald (t := 2) hx hb hK.1 hP h7 (by decide) (by decide) h8 h9 dX0_method_15 ?_
      refine lv_goto (tgt := 23) hx hb dX0_method_16 (by decide) ?_
      exact hs_aret hx hb hr (Or.inl ⟨_, rfl⟩) hlocks hK hP hS hf dX0_method_23

theorem dX3_init_0 : decode cX3_init 0 = .ok (.aload_n 0, 1) := by decide +kernel
theorem dX3_init_1 : decode cX3_init 1 = .ok (.invokespecial 3, 3) := by decide +kernel
theorem dX3_init_4 : decode cX3_init 4 = .ok (.aload_n 0, 1) := by decide +kernel
theorem dX3_init_5 : decode cX3_init 5 = .ok (.bipush 20, 2) := by decide +kernel
theorem dX3_init_7 : decode cX3_init 7 = .ok (.newarray .int, 2) := by decide +kernel
theorem dX3_init_9 : decode cX3_init 9 = .ok (.putfield 9, 3) := by decide +kernel
theorem dX3_init_12 : decode cX3_init 12 = .ok (.aload_n 0, 1) := by decide +kernel
theorem dX3_init_13 : decode cX3_init 13 = .ok (.bipush 20, 2) := by decide +kernel
theorem dX3_init_15 : decode cX3_init 15 = .ok (.newarray .int, 2) := by decide +kernel
theorem dX3_init_17 : decode cX3_init 17 = .ok (.putfield 15, 3) := by decide +kernel
theorem dX3_init_20 : decode cX3_init 20 = .ok (.aload_n 0, 1) := by decide +kernel
theorem dX3_init_21 : decode cX3_init 21 = .ok (.aload_n 1, 1) := by decide +kernel
theorem dX3_init_22 : decode cX3_init 22 = .ok (.putfield 18, 3) := by decide +kernel
theorem dX3_init_25 : decode cX3_init 25 = .ok (.return_, 1) := by decide +kernel
abbrev wcX3_init : List Cond := .code yX3_init cX3_init 2 none :: wsL_law
def fX3_init (v0 : Nat) (v1 : Nat) (g : hs_S) : Option (hs_S) :=
  if hs_kd (hs_new g 100 20) v0 = 3 then
  hs_bv (some (hs_wR (hs_new g 100 20) v0 0 g.1)) fun g2 =>
  if hs_kd (hs_new g2 100 20) v0 = 3 then
  some (hs_wR (hs_wR (hs_new g2 100 20) v0 1 g2.1) v0 3 v1)
  else none else none
abbrev rmX3_init : Room := { frames := 1, cells := 2, slots := 40, locals := 20 }
set_option maxHeartbeats 4000000 in
set_option maxRecDepth 100000 in
theorem ctX3_init (l : Launch) (B : Nat) (D : va_G) (E : Nat → ClassId) (v0 : Nat) (v1 : Nat) (g : hs_S) (o : hs_S) (hf : fX3_init v0 v1 g = some o) : Met l yX3_init wcX3_init rmX3_init (hs_Pc B D E g [.ref (B + v0), .ref (B + v1)]) (hs_Qv B D E o) (2) (40) (hs_F B) := by
  refine Met.ofW (cc := cX3_init) (maxL := 2) (ret := none) (by decide) rfl ?_
  intro p e s m args below meth c s₁ Bd hml hv
  obtain ⟨rfl, hP, hK⟩ := hv
  have hx := Bd.exec
  have hb := Bd.bytes
  have hr := Bd.returns
  have hts := atoms_spec (ws := wcX3_init) Bd.pre
  have hown : s.vm.findClass RX3 = some m.cls := findClass_of_methodNamed Bd.named
  have hlocks := Bd.notSynchronized
  have hin : meth.name = "<init>" := (name_of_methodNamed Bd.named Bd.method).1
  have hS : hs_Sx B s.heap s.heap [] := va_S.rf
  have hX : hs_cx cX3_init none 2 RX3 wcX3_init p s m (List.toArray [.ref (B + v0), .ref (B + v1)]) meth c D E := ⟨hx, hb, hr, hml, hown, hts, hlocks, hK⟩
  have hl := lv_entry ([.ref (B + v0), .ref (B + v1)]) (n := 2) (Nat.le_of_ble_eq_true rfl)
  rw [lg_entry_eq]
  generalize (lg_sl ([.ref (B + v0), .ref (B + v1)]) ++ List.replicate (2 - (lg_sl ([.ref (B + v0), .ref (B + v1)])).length) Slot.unset).toArray = ls at hl ⊢
  have hl : lv_has ls 2 [(0, .ref (B + v0)), (1, .ref (B + v1))] := hl
  have hP : hs_P B D E g s.heap := hP
  unfold fX3_init at hf
  refine lv_aload_n hx hb dX3_init_0 rfl (lv_at hl 0 rfl) ?_
  refine W.objInit hx hb hown (hts _ (List.mem_cons_of_mem _ wq114)) (hts _ (List.mem_cons_of_mem _ wq11)) (hts _ (List.mem_cons_of_mem _ wq12)) rfl (hl.1.trans hml.symm) rfl dX3_init_1 (Nat.le_of_ble_eq_true rfl) (Nat.le_of_ble_eq_true rfl) ?_
  refine lv_aload_n hx hb dX3_init_4 rfl (lv_at hl 0 rfl) ?_
  refine lv_bipush (v := 20) hx hb dX3_init_5 (by decide) ?_
  refine hs_newI (t := 0) (k := 100) (N := 20) (atype := .int) hx hb (by decide) rfl (hts _ (List.mem_cons_of_mem _ wq44)) rfl (fun _ _ h => h) rfl hK.1 hP hS (by decide) (by rfl) (by decide) (Nat.le_of_ble_eq_true rfl) (Nat.le_of_ble_eq_true rfl) dX3_init_7 (fun H hP hS => ?_)
  refine W.widen (k := 1) (n := 20) (by omega) (by omega) ?_
  obtain ⟨h1, hf⟩ := hs_ck hf
  refine hs_putr (C := RX3) (T := TX3) (N := 5) hx hb hts (fun w h => List.mem_cons_of_mem _ (inlX3 w h)) tyX3 tyX3_ok nmX3 hown hK.1 hP hS h1 (by decide) rfl 0 (by decide) (hts _ (List.mem_cons_of_mem _ wq115)) (fun _ h => h) (Or.inr ⟨rfl, hin, rfl⟩) (fun _ => rfl) (fun _ => rfl) rfl dX3_init_9 (fun H locs hP hS => ?_)
  refine lv_aload_n hx hb dX3_init_12 rfl (lv_at hl 0 rfl) ?_
  refine lv_bipush (v := 20) hx hb dX3_init_13 (by decide) ?_
  obtain ⟨g2, e3, hf⟩ := hs_bv_some hf
  replace e3 := Option.some.inj e3
  rw [e3] at hP
  have h4 : hs_kd g2 v0 = 3 := by rw [← e3]; exact h1
  refine hs_newI (t := 0) (k := 100) (N := 20) (atype := .int) hx hb (by decide) rfl (hts _ (List.mem_cons_of_mem _ wq44)) rfl (fun _ _ h => h) rfl hK.1 hP hS (by decide) (by rfl) (by decide) (Nat.le_of_ble_eq_true rfl) (Nat.le_of_ble_eq_true rfl) dX3_init_15 (fun H hP hS => ?_)
  refine W.widen (k := 2) (n := 40) (by omega) (by omega) ?_
  obtain ⟨h5, hf⟩ := hs_ck hf
  refine hs_putr (C := RX3) (T := TX3) (N := 5) hx hb hts (fun w h => List.mem_cons_of_mem _ (inlX3 w h)) tyX3 tyX3_ok nmX3 hown hK.1 hP hS h5 (by decide) rfl 1 (by decide) (hts _ (List.mem_cons_of_mem _ wq116)) (fun _ h => h) (Or.inr ⟨rfl, hin, rfl⟩) (fun _ => rfl) (fun _ => rfl) rfl dX3_init_17 (fun H locs hP hS => ?_)
  refine lv_aload_n hx hb dX3_init_20 rfl (lv_at hl 0 rfl) ?_
  refine lv_aload_n hx hb dX3_init_21 rfl (lv_at hl 1 rfl) ?_
  refine hs_putr (C := RX3) (T := TX3) (N := 5) hx hb hts (fun w h => List.mem_cons_of_mem _ (inlX3 w h)) tyX3 tyX3_ok nmX3 hown hK.1 hP hS h5 (by decide) rfl 3 (by decide) (hts _ (List.mem_cons_of_mem _ wq117)) (fun _ h => h) (Or.inl rfl) (fun _ => rfl) (fun _ => rfl) rfl dX3_init_22 (fun H locs hP hS => ?_)
  refine W.widen (k := 2) (n := 40) (by omega) (by omega) ?_
  exact hs_vret hx hb hr hlocks hK hP hS hf dX3_init_25

theorem dX6_init_0 : decode cX6_init 0 = .ok (.aload_n 0, 1) := by decide +kernel
theorem dX6_init_1 : decode cX6_init 1 = .ok (.invokespecial 3, 3) := by decide +kernel
theorem dX6_init_4 : decode cX6_init 4 = .ok (.aload_n 0, 1) := by decide +kernel
theorem dX6_init_5 : decode cX6_init 5 = .ok (.bipush 60, 2) := by decide +kernel
theorem dX6_init_7 : decode cX6_init 7 = .ok (.anewarray 11, 3) := by decide +kernel
theorem dX6_init_10 : decode cX6_init 10 = .ok (.putfield 13, 3) := by decide +kernel
theorem dX6_init_13 : decode cX6_init 13 = .ok (.aload_n 0, 1) := by decide +kernel
theorem dX6_init_14 : decode cX6_init 14 = .ok (.new 17, 3) := by decide +kernel
theorem dX6_init_17 : decode cX6_init 17 = .ok (.dup, 1) := by decide +kernel
theorem dX6_init_18 : decode cX6_init 18 = .ok (.invokespecial 19, 3) := by decide +kernel
theorem dX6_init_21 : decode cX6_init 21 = .ok (.putfield 20, 3) := by decide +kernel
theorem dX6_init_24 : decode cX6_init 24 = .ok (.aload_n 0, 1) := by decide +kernel
theorem dX6_init_25 : decode cX6_init 25 = .ok (.aload_n 1, 1) := by decide +kernel
theorem dX6_init_26 : decode cX6_init 26 = .ok (.putfield 24, 3) := by decide +kernel
theorem dX6_init_29 : decode cX6_init 29 = .ok (.iconst 0, 1) := by decide +kernel
theorem dX6_init_30 : decode cX6_init 30 = .ok (.istore_n 2, 1) := by decide +kernel
theorem dX6_init_31 : decode cX6_init 31 = .ok (.iload_n 2, 1) := by decide +kernel
theorem dX6_init_32 : decode cX6_init 32 = .ok (.bipush 60, 2) := by decide +kernel
theorem dX6_init_34 : decode cX6_init 34 = .ok (.if_icmp .ge 27, 3) := by decide +kernel
theorem dX6_init_37 : decode cX6_init 37 = .ok (.aload_n 0, 1) := by decide +kernel
theorem dX6_init_38 : decode cX6_init 38 = .ok (.getfield 13, 3) := by decide +kernel
theorem dX6_init_41 : decode cX6_init 41 = .ok (.iload_n 2, 1) := by decide +kernel
theorem dX6_init_42 : decode cX6_init 42 = .ok (.new 11, 3) := by decide +kernel
theorem dX6_init_45 : decode cX6_init 45 = .ok (.dup, 1) := by decide +kernel
theorem dX6_init_46 : decode cX6_init 46 = .ok (.aload_n 1, 1) := by decide +kernel
theorem dX6_init_47 : decode cX6_init 47 = .ok (.iconst 0, 1) := by decide +kernel
theorem dX6_init_48 : decode cX6_init 48 = .ok (.invokevirtual 28, 3) := by decide +kernel
theorem dX6_init_51 : decode cX6_init 51 = .ok (.invokespecial 34, 3) := by decide +kernel
theorem dX6_init_54 : decode cX6_init 54 = .ok (.aastore, 1) := by decide +kernel
theorem dX6_init_55 : decode cX6_init 55 = .ok (.iinc 2 1, 3) := by decide +kernel
theorem dX6_init_58 : decode cX6_init 58 = .ok (.goto (-27), 3) := by decide +kernel
theorem dX6_init_61 : decode cX6_init 61 = .ok (.return_, 1) := by decide +kernel
abbrev wcX6_init : List Cond := .code yX6_init cX6_init 3 none :: wsL_law
def lX6_init_31 : Nat → Nat → Nat → Int32 → hs_S → Option (hs_S)
  | 0, _, _, _, _ => none
  | n + 1, v0, v1, v2, g =>
    if (60 : Int32) ≤ v2 then (
      some g
    ) else (
      if hs_kd g v0 = 5 then
      if ¬ (hs_R g v0 1) = 0 then
      if hs_kd (hs_new g 3 0) v1 = 0 then
      hs_bd (fX0_method v1 (0 : Int32) (hs_new g 3 0)) fun r13 g12 =>
      hs_bv (fX3_init g.1 r13 g12) fun g15 =>
      if hs_kd g15 ((hs_R g v0 1) - 1) = 103 then
      if hs_in v2 (hs_ln g15 ((hs_R g v0 1) - 1)) = true then
      if hs_kd g15 g.1 = 3 then
      lX6_init_31 n v0 v1 (v2 + (1 : Int32)) (hs_wR g15 ((hs_R g v0 1) - 1) v2.toNatClampNeg g.1)
      else none else none else none else none else none else none
    )
theorem lX6_init_31_s (n : Nat) (v0 : Nat) (v1 : Nat) (v2 : Int32) (g : hs_S) : lX6_init_31 (n + 1) v0 v1 v2 g =
    if (60 : Int32) ≤ v2 then (
      some g
    ) else (
      if hs_kd g v0 = 5 then
      if ¬ (hs_R g v0 1) = 0 then
      if hs_kd (hs_new g 3 0) v1 = 0 then
      hs_bd (fX0_method v1 (0 : Int32) (hs_new g 3 0)) fun r13 g12 =>
      hs_bv (fX3_init g.1 r13 g12) fun g15 =>
      if hs_kd g15 ((hs_R g v0 1) - 1) = 103 then
      if hs_in v2 (hs_ln g15 ((hs_R g v0 1) - 1)) = true then
      if hs_kd g15 g.1 = 3 then
      lX6_init_31 n v0 v1 (v2 + (1 : Int32)) (hs_wR g15 ((hs_R g v0 1) - 1) v2.toNatClampNeg g.1)
      else none else none else none else none else none else none
    ) := rfl
def fX6_init (v0 : Nat) (v1 : Nat) (g : hs_S) : Option (hs_S) :=
  if hs_kd (hs_new g 103 60) v0 = 5 then
  hs_bv (some (hs_wR (hs_new g 103 60) v0 1 g.1)) fun g2 =>
  hs_bv (fX10_init g2.1 (hs_new g2 8 0)) fun g5 =>
  if hs_kd g5 v0 = 5 then
  hs_bv (lX6_init_31 hs_N v0 v1 (0 : Int32) (hs_wR (hs_wR g5 v0 2 g2.1) v0 0 v1)) fun g22 =>
  some g22
  else none else none
abbrev rmX6_init : Room := { frames := 2, cells := 184, slots := 6766, locals := 41 }
set_option maxHeartbeats 4000000 in
set_option maxRecDepth 100000 in
theorem wX6_init_31 {p : Program} {l : Launch} {e : Env} {s : State} {m : MethodId} {args : Array Value} {below : List Frame} {meth : Method} {c : Code} {B : Nat} {D : va_G} {E : Nat → ClassId} (hX : hs_cx cX6_init none 3 RX6 wcX6_init p s m args meth c D E) {Q : State → Prop} {o : hs_S} {v0 : Nat} {v1 : Nat} (hex0 : ∀ (H : Heap) (locs : List Loc) (ls : Array Slot), hs_P B D E (o) H → hs_Sx B s.heap H locs → lv_has ls 3 [] → W p l e rmX6_init s m args below meth c H locs (4 + 3 * 60) (4066 + 45 * 60) Q (F0 m 61 ls [])) : ∀ (n : Nat) (j : Nat) (v2 : Int32) (g : hs_S), lX6_init_31 n v0 v1 v2 g = some o → v2 = nI j → j ≤ 60 → ∀ (H : Heap) (locs : List Loc) (ls : Array Slot), hs_P B D E g H → hs_Sx B s.heap H locs → lv_has ls 3 [(0, .ref (B + v0)), (1, .ref (B + v1)), (2, .int v2)] → W p l e rmX6_init s m args below meth c H locs (4 + 3 * j) (4066 + 45 * j) Q (F0 m 31 ls []) := by
  obtain ⟨hx, hb, hr, hml, hown, hts, hlocks, hK⟩ := id hX
  intro n
  induction n with
  | zero =>
    intro j v2 g hf
    cases hf
  | succ n ih =>
    intro j v2 g hf hj hjK H locs ls hP hS hl
    replace hf := (lX6_init_31_s n v0 v1 v2 g).symm.trans hf
    refine W.widen (k := 4 + 3 * j) (n := 4066 + 45 * j) (by omega) (by omega) ?_
    refine lv_iload_n hx hb dX6_init_31 rfl (lv_at hl 2 rfl) ?_
    refine lv_bipush (v := 60) hx hb dX6_init_32 (by decide) ?_
    refine lv_icmp_ge (tgt := 61) hx hb dX6_init_34 (by decide) (fun hc => ?_) (fun hc => ?_)
    · replace hf := hs_t hf hc
      obtain rfl := Option.some.inj hf
      refine W.widen (k := 4 + 3 * 60) (n := 4066 + 45 * 60) (by omega) (by omega) ?_
      exact hex0 _ _ _ hP hS (lv_sub hl [] rfl)
    · replace hf := hs_f hf hc
      have hjl : j < 60 := Nat.lt_of_not_le fun q => hc (by rw [hj]; exact nI_le (a := 60) q (by omega))
      refine lv_aload_n hx hb dX6_init_37 rfl (lv_at hl 0 rfl) ?_
      obtain ⟨h9, hf⟩ := hs_ck hf
      obtain ⟨h10, hf⟩ := hs_ck hf
      refine hs_getr (C := RX6) (T := TX6) (N := 8) hx hb hts (fun w h => List.mem_cons_of_mem _ (inlX6 w h)) hown hK.1 hP h9 (by decide) rfl 1 (by decide) (hts _ (List.mem_cons_of_mem _ wq94)) (fun _ h => h) rfl h10 dX6_init_38 ?_
      refine lv_iload_n hx hb dX6_init_41 rfl (lv_at hl 2 rfl) ?_
      refine hs_newc (ci := 3) (C := RX3) (T := TX3) (N := 5) hx hb hts (fun w h => List.mem_cons_of_mem _ (inlX3 w h)) tyX3 tyX3_ok hown (hts _ (List.mem_cons_of_mem _ wq93)) (hts _ (List.mem_cons_of_mem _ wq100)) (hts _ (List.mem_cons_of_mem _ wq101)) hK.1 hP hS (by decide) rfl hs_dfX3 (show _ ≤ (184 : Nat) by omega) (show _ ≤ (6766 : Nat) by omega) dX6_init_42 (fun H hP hS => ?_)
      refine W.widen (k := 4 + 3 * j + 1) (n := 4066 + 45 * j + 5) (by omega) (by omega) ?_
      refine lv_dup hx hb dX6_init_45 rfl ?_
      refine lv_aload_n hx hb dX6_init_46 rfl (lv_at hl 1 rfl) ?_
      refine lv_iconst (v := 0) hx hb dX6_init_47 (by decide) ?_
      obtain ⟨h11, hf⟩ := hs_ck hf
      obtain ⟨r13, g12, h14, hf⟩ := hs_bd_some hf
      refine hs_callr (va_runV (As := [.int (0 : Int32)]) (rest := [.ref (B + g.1), .ref (B + g.1), .int v2, .ref (B + ((hs_R g v0 1) - 1))]) ⟨hx, hb, hml, hown, hts⟩ (ctX0_method l B D E v1 (0 : Int32) (hs_new g 3 0) _ h14) (cwV 1 hts (hs_gV (fun _ h => List.mem_cons_of_mem _ h) wq107 wq108 wq109 wq15 wq110) rfl rfl rfl (by decide +kernel) ⟨Nat.le_of_ble_eq_true rfl, Nat.le_of_ble_eq_true rfl⟩) (hs_preV (r := (RX0, TX0, 5)) hP hK h11 (by decide) rfl) rfl rfl hl.1 rfl (lv_room (Nat.le_of_ble_eq_true rfl)) dX6_init_48 ⟨(show _ ≤ (184 : Nat) by omega), (show _ ≤ (6766 : Nat) by omega)⟩) hS (fun H locs hP hS => ?_)
      obtain ⟨g15, h17, hf⟩ := hs_bv_some hf
      refine hs_callv (va_runI (As := [.ref (B + r13)]) (rest := [.ref (B + g.1), .int v2, .ref (B + ((hs_R g v0 1) - 1))]) ⟨hx, hb, hml, hown, hts⟩ (ctX3_init l B D E g.1 r13 g12 _ h17) (cwI 1 hts (hs_gI (fun _ h => List.mem_cons_of_mem _ h) wq113) rfl rfl rfl (hts _ (List.mem_cons_of_mem _ wq101)) (hts _ (List.mem_cons_of_mem _ wq111)) (hts _ (List.mem_cons_of_mem _ wq112)) rfl (by decide +kernel) ⟨Nat.le_of_ble_eq_true rfl, Nat.le_of_ble_eq_true rfl⟩) (hs_pre hP hK) rfl rfl hl.1 rfl (lv_room (Nat.le_of_ble_eq_true rfl)) dX6_init_51 ⟨(show _ ≤ (184 : Nat) by omega), (show _ ≤ (6766 : Nat) by omega)⟩) hS (fun H locs hP hS => ?_)
      refine W.widen (k := 4 + 3 * j + 3) (n := 4066 + 45 * j + 45) (by omega) (by omega) ?_
      obtain ⟨h18, hf⟩ := hs_ck hf
      obtain ⟨h19, hf⟩ := hs_ck hf
      obtain ⟨h20, hf⟩ := hs_ck hf
      refine hs_aast (t := 3) (r := (RX3, TX3, 5)) hx hb hK.1 hP hS h18 (by decide) (by decide) rfl h20 (by decide) rfl h19 dX6_init_54 (fun H locs hP hS => ?_)
      refine lv_iinc (v := (v2 + (1 : Int32))) (lv' := [(2, .int (v2 + (1 : Int32))), (0, .ref (B + v0)), (1, .ref (B + v1))]) hx hb dX6_init_55 hl (k := 2) rfl (by rfl) (by decide) rfl (fun ls hl => ?_)
      refine lv_goto (tgt := 31) hx hb dX6_init_58 (by decide) ?_
      refine W.widen (k := 4 + 3 * (j + 1)) (n := 4066 + 45 * (j + 1)) (by omega) (by omega) ?_
      exact ih (j + 1) _ _ hf (by rw [hj]; exact nI_1 j) (by omega) _ _ _ hP hS (lv_sub hl [1, 2, 0] rfl)

set_option maxHeartbeats 4000000 in
set_option maxRecDepth 100000 in
theorem ctX6_init (l : Launch) (B : Nat) (D : va_G) (E : Nat → ClassId) (v0 : Nat) (v1 : Nat) (g : hs_S) (o : hs_S) (hf : fX6_init v0 v1 g = some o) : Met l yX6_init wcX6_init rmX6_init (hs_Pc B D E g [.ref (B + v0), .ref (B + v1)]) (hs_Qv B D E o) (184) (6766) (hs_F B) := by
  refine Met.ofW (cc := cX6_init) (maxL := 3) (ret := none) (by decide) rfl ?_
  intro p e s m args below meth c s₁ Bd hml hv
  obtain ⟨rfl, hP, hK⟩ := hv
  have hx := Bd.exec
  have hb := Bd.bytes
  have hr := Bd.returns
  have hts := atoms_spec (ws := wcX6_init) Bd.pre
  have hown : s.vm.findClass RX6 = some m.cls := findClass_of_methodNamed Bd.named
  have hlocks := Bd.notSynchronized
  have hin : meth.name = "<init>" := (name_of_methodNamed Bd.named Bd.method).1
  have hS : hs_Sx B s.heap s.heap [] := va_S.rf
  have hX : hs_cx cX6_init none 3 RX6 wcX6_init p s m (List.toArray [.ref (B + v0), .ref (B + v1)]) meth c D E := ⟨hx, hb, hr, hml, hown, hts, hlocks, hK⟩
  have hl := lv_entry ([.ref (B + v0), .ref (B + v1)]) (n := 3) (Nat.le_of_ble_eq_true rfl)
  rw [lg_entry_eq]
  generalize (lg_sl ([.ref (B + v0), .ref (B + v1)]) ++ List.replicate (3 - (lg_sl ([.ref (B + v0), .ref (B + v1)])).length) Slot.unset).toArray = ls at hl ⊢
  have hl : lv_has ls 3 [(0, .ref (B + v0)), (1, .ref (B + v1))] := hl
  have hP : hs_P B D E g s.heap := hP
  unfold fX6_init at hf
  refine lv_aload_n hx hb dX6_init_0 rfl (lv_at hl 0 rfl) ?_
  refine W.objInit hx hb hown (hts _ (List.mem_cons_of_mem _ wq92)) (hts _ (List.mem_cons_of_mem _ wq11)) (hts _ (List.mem_cons_of_mem _ wq12)) rfl (hl.1.trans hml.symm) rfl dX6_init_1 (Nat.le_of_ble_eq_true rfl) (Nat.le_of_ble_eq_true rfl) ?_
  refine lv_aload_n hx hb dX6_init_4 rfl (lv_at hl 0 rfl) ?_
  refine lv_bipush (v := 60) hx hb dX6_init_5 (by decide) ?_
  refine hs_newR (t := 3) (k := 103) (N := 60) (C := RX3) hx hb (by decide) rfl hown (hts _ (List.mem_cons_of_mem _ wq93)) (va_AO.use hK.2.2.1) rfl hK.1 hP hS (by decide) (by rfl) (by decide) (Nat.le_of_ble_eq_true rfl) (Nat.le_of_ble_eq_true rfl) dX6_init_7 (fun H hP hS => ?_)
  refine W.widen (k := 1) (n := 60) (by omega) (by omega) ?_
  obtain ⟨h1, hf⟩ := hs_ck hf
  refine hs_putr (C := RX6) (T := TX6) (N := 8) hx hb hts (fun w h => List.mem_cons_of_mem _ (inlX6 w h)) tyX6 tyX6_ok nmX6 hown hK.1 hP hS h1 (by decide) rfl 1 (by decide) (hts _ (List.mem_cons_of_mem _ wq94)) (fun _ h => h) (Or.inr ⟨rfl, hin, rfl⟩) (fun _ => rfl) (fun _ => rfl) rfl dX6_init_10 (fun H locs hP hS => ?_)
  refine lv_aload_n hx hb dX6_init_13 rfl (lv_at hl 0 rfl) ?_
  obtain ⟨g2, e3, hf⟩ := hs_bv_some hf
  replace e3 := Option.some.inj e3
  rw [e3] at hP
  have h4 : hs_kd g2 v0 = 5 := by rw [← e3]; exact h1
  refine hs_newc (ci := 8) (C := RX10) (T := TX10) (N := 2) hx hb hts (fun w h => List.mem_cons_of_mem _ (inlX10 w h)) tyX10 tyX10_ok hown (hts _ (List.mem_cons_of_mem _ wq95)) (hts _ (List.mem_cons_of_mem _ wq96)) (hts _ (List.mem_cons_of_mem _ wq97)) hK.1 hP hS (by decide) rfl hs_dfX10 (Nat.le_of_ble_eq_true rfl) (Nat.le_of_ble_eq_true rfl) dX6_init_14 (fun H hP hS => ?_)
  refine W.widen (k := 2) (n := 62) (by omega) (by omega) ?_
  refine lv_dup hx hb dX6_init_17 rfl ?_
  obtain ⟨g5, h7, hf⟩ := hs_bv_some hf
  refine hs_callv (va_runIN (As := []) (rest := [.ref (B + g2.1), .ref (B + v0)]) ⟨hx, hb, hml, hown, hts⟩ (ctX10_init l B D E g2.1 (hs_new g2 8 0) _ h7) ⟨va_cnB 0 hts (hs_gI (fun _ h => List.mem_cons_of_mem _ h) wq103) rfl rfl rfl hK.2.2.2.2.1 (hts _ (List.mem_cons_of_mem _ wq97)) (by decide +kernel) ⟨Nat.le_of_ble_eq_true rfl, Nat.le_of_ble_eq_true rfl⟩, rfl, (hts _ (List.mem_cons_of_mem _ wq102))⟩ (hs_pre hP hK) rfl rfl hl.1 rfl (lv_room (Nat.le_of_ble_eq_true rfl)) dX6_init_18 ⟨(Nat.le_of_ble_eq_true rfl), (Nat.le_of_ble_eq_true rfl)⟩) hS (fun H locs hP hS => ?_)
  refine W.widen (k := 4) (n := 4066) (by omega) (by omega) ?_
  obtain ⟨h8, hf⟩ := hs_ck hf
  refine hs_putr (C := RX6) (T := TX6) (N := 8) hx hb hts (fun w h => List.mem_cons_of_mem _ (inlX6 w h)) tyX6 tyX6_ok nmX6 hown hK.1 hP hS h8 (by decide) rfl 2 (by decide) (hts _ (List.mem_cons_of_mem _ wq98)) (fun _ h => h) (Or.inr ⟨rfl, hin, rfl⟩) (fun _ => rfl) (fun _ => rfl) rfl dX6_init_21 (fun H locs hP hS => ?_)
  refine lv_aload_n hx hb dX6_init_24 rfl (lv_at hl 0 rfl) ?_
  refine lv_aload_n hx hb dX6_init_25 rfl (lv_at hl 1 rfl) ?_
  refine hs_putr (C := RX6) (T := TX6) (N := 8) hx hb hts (fun w h => List.mem_cons_of_mem _ (inlX6 w h)) tyX6 tyX6_ok nmX6 hown hK.1 hP hS h8 (by decide) rfl 0 (by decide) (hts _ (List.mem_cons_of_mem _ wq99)) (fun _ h => h) (Or.inr ⟨rfl, hin, rfl⟩) (fun _ => rfl) (fun _ => rfl) rfl dX6_init_26 (fun H locs hP hS => ?_)
  refine lv_iconst (v := 0) hx hb dX6_init_29 (by decide) ?_
  refine lv_istore_n (lv' := [(2, .int (0 : Int32)), (0, .ref (B + v0)), (1, .ref (B + v1))]) hx hb dX6_init_30 rfl hl (by decide) rfl (fun ls hl => ?_)
  obtain ⟨g22, h23, hf⟩ := hs_bv_some hf
  refine W.widen (k := 4 + 3 * 0) (n := 4066 + 45 * 0) (by omega) (by omega) ?_
  refine wX6_init_31 hX (fun H locs ls hP hS hl => ?_) hs_N 0 _ _ h23 nI_0.symm (by omega) _ _ _ hP hS (lv_sub hl [1, 2, 0] rfl)
  refine W.widen (k := 184) (n := 6766) (by omega) (by omega) ?_
  exact hs_vret hx hb hr hlocks hK hP hS hf dX6_init_61

theorem dX11_init_0 : decode cX11_init 0 = .ok (.aload_n 0, 1) := by decide +kernel
theorem dX11_init_1 : decode cX11_init 1 = .ok (.invokespecial 1, 3) := by decide +kernel
theorem dX11_init_4 : decode cX11_init 4 = .ok (.aload_n 0, 1) := by decide +kernel
theorem dX11_init_5 : decode cX11_init 5 = .ok (.new 7, 3) := by decide +kernel
theorem dX11_init_8 : decode cX11_init 8 = .ok (.dup, 1) := by decide +kernel
theorem dX11_init_9 : decode cX11_init 9 = .ok (.sipush 6000, 3) := by decide +kernel
theorem dX11_init_12 : decode cX11_init 12 = .ok (.invokespecial 11, 3) := by decide +kernel
theorem dX11_init_15 : decode cX11_init 15 = .ok (.putfield 14, 3) := by decide +kernel
theorem dX11_init_18 : decode cX11_init 18 = .ok (.aload_n 0, 1) := by decide +kernel
theorem dX11_init_19 : decode cX11_init 19 = .ok (.new 7, 3) := by decide +kernel
theorem dX11_init_22 : decode cX11_init 22 = .ok (.dup, 1) := by decide +kernel
theorem dX11_init_23 : decode cX11_init 23 = .ok (.sipush 6000, 3) := by decide +kernel
theorem dX11_init_26 : decode cX11_init 26 = .ok (.invokespecial 11, 3) := by decide +kernel
theorem dX11_init_29 : decode cX11_init 29 = .ok (.putfield 18, 3) := by decide +kernel
theorem dX11_init_32 : decode cX11_init 32 = .ok (.aload_n 0, 1) := by decide +kernel
theorem dX11_init_33 : decode cX11_init 33 = .ok (.new 7, 3) := by decide +kernel
theorem dX11_init_36 : decode cX11_init 36 = .ok (.dup, 1) := by decide +kernel
theorem dX11_init_37 : decode cX11_init 37 = .ok (.sipush 6000, 3) := by decide +kernel
theorem dX11_init_40 : decode cX11_init 40 = .ok (.invokespecial 11, 3) := by decide +kernel
theorem dX11_init_43 : decode cX11_init 43 = .ok (.putfield 21, 3) := by decide +kernel
theorem dX11_init_46 : decode cX11_init 46 = .ok (.aload_n 0, 1) := by decide +kernel
theorem dX11_init_47 : decode cX11_init 47 = .ok (.new 7, 3) := by decide +kernel
theorem dX11_init_50 : decode cX11_init 50 = .ok (.dup, 1) := by decide +kernel
theorem dX11_init_51 : decode cX11_init 51 = .ok (.sipush 32000, 3) := by decide +kernel
theorem dX11_init_54 : decode cX11_init 54 = .ok (.invokespecial 11, 3) := by decide +kernel
theorem dX11_init_57 : decode cX11_init 57 = .ok (.putfield 24, 3) := by decide +kernel
theorem dX11_init_60 : decode cX11_init 60 = .ok (.aload_n 0, 1) := by decide +kernel
theorem dX11_init_61 : decode cX11_init 61 = .ok (.new 27, 3) := by decide +kernel
theorem dX11_init_64 : decode cX11_init 64 = .ok (.dup, 1) := by decide +kernel
theorem dX11_init_65 : decode cX11_init 65 = .ok (.invokespecial 29, 3) := by decide +kernel
theorem dX11_init_68 : decode cX11_init 68 = .ok (.putfield 30, 3) := by decide +kernel
theorem dX11_init_71 : decode cX11_init 71 = .ok (.aload_n 0, 1) := by decide +kernel
theorem dX11_init_72 : decode cX11_init 72 = .ok (.new 34, 3) := by decide +kernel
theorem dX11_init_75 : decode cX11_init 75 = .ok (.dup, 1) := by decide +kernel
theorem dX11_init_76 : decode cX11_init 76 = .ok (.invokespecial 36, 3) := by decide +kernel
theorem dX11_init_79 : decode cX11_init 79 = .ok (.putfield 37, 3) := by decide +kernel
theorem dX11_init_82 : decode cX11_init 82 = .ok (.aload_n 0, 1) := by decide +kernel
theorem dX11_init_83 : decode cX11_init 83 = .ok (.new 41, 3) := by decide +kernel
theorem dX11_init_86 : decode cX11_init 86 = .ok (.dup, 1) := by decide +kernel
theorem dX11_init_87 : decode cX11_init 87 = .ok (.invokespecial 43, 3) := by decide +kernel
theorem dX11_init_90 : decode cX11_init 90 = .ok (.putfield 44, 3) := by decide +kernel
theorem dX11_init_93 : decode cX11_init 93 = .ok (.aload_n 0, 1) := by decide +kernel
theorem dX11_init_94 : decode cX11_init 94 = .ok (.new 48, 3) := by decide +kernel
theorem dX11_init_97 : decode cX11_init 97 = .ok (.dup, 1) := by decide +kernel
theorem dX11_init_98 : decode cX11_init 98 = .ok (.aload_n 0, 1) := by decide +kernel
theorem dX11_init_99 : decode cX11_init 99 = .ok (.getfield 24, 3) := by decide +kernel
theorem dX11_init_102 : decode cX11_init 102 = .ok (.invokespecial 50, 3) := by decide +kernel
theorem dX11_init_105 : decode cX11_init 105 = .ok (.putfield 53, 3) := by decide +kernel
theorem dX11_init_108 : decode cX11_init 108 = .ok (.return_, 1) := by decide +kernel
abbrev wcX11_init : List Cond := .code yX11_init cX11_init 1 none :: wsL_law
def fX11_init (v0 : Nat) (g : hs_S) : Option (hs_S) :=
  hs_bv (fX0_init g.1 (6000 : Int32) (hs_new g 0 0)) fun g1 =>
  if hs_kd g1 v0 = 9 then
  hs_bv (some (hs_wR g1 v0 0 g.1)) fun g5 =>
  hs_bv (fX0_init g5.1 (6000 : Int32) (hs_new g5 0 0)) fun g8 =>
  if hs_kd g8 v0 = 9 then
  hs_bv (some (hs_wR g8 v0 1 g5.1)) fun g12 =>
  hs_bv (fX0_init g12.1 (6000 : Int32) (hs_new g12 0 0)) fun g15 =>
  if hs_kd g15 v0 = 9 then
  hs_bv (some (hs_wR g15 v0 2 g12.1)) fun g19 =>
  hs_bv (fX0_init g19.1 (32000 : Int32) (hs_new g19 0 0)) fun g22 =>
  if hs_kd g22 v0 = 9 then
  hs_bv (some (hs_wR g22 v0 3 g19.1)) fun g26 =>
  hs_bv (fX8_init g26.1 (hs_new g26 7 0)) fun g29 =>
  if hs_kd g29 v0 = 9 then
  hs_bv (some (hs_wR g29 v0 4 g26.1)) fun g33 =>
  hs_bv (fX2_init g33.1 (hs_new g33 2 0)) fun g36 =>
  if hs_kd g36 v0 = 9 then
  hs_bv (some (hs_wR g36 v0 5 g33.1)) fun g40 =>
  hs_bv (fX5_init g40.1 (hs_new g40 4 0)) fun g43 =>
  if hs_kd g43 v0 = 9 then
  hs_bv (some (hs_wR g43 v0 6 g40.1)) fun g47 =>
  if hs_kd (hs_new g47 5 0) v0 = 9 then
  if ¬ (hs_R (hs_new g47 5 0) v0 3) = 0 then
  hs_bv (fX6_init g47.1 ((hs_R (hs_new g47 5 0) v0 3) - 1) (hs_new g47 5 0)) fun g52 =>
  if hs_kd g52 v0 = 9 then
  some (hs_wR g52 v0 7 g47.1)
  else none else none else none else none else none else none else none else none else none else none
abbrev rmX11_init : Room := { frames := 3, cells := 284, slots := 148641, locals := 63 }
set_option maxHeartbeats 4000000 in
set_option maxRecDepth 100000 in
theorem ctX11_init (l : Launch) (B : Nat) (D : va_G) (E : Nat → ClassId) (v0 : Nat) (g : hs_S) (o : hs_S) (hf : fX11_init v0 g = some o) : Met l yX11_init wcX11_init rmX11_init (hs_Pc B D E g [.ref (B + v0)]) (hs_Qv B D E o) (284) (148641) (hs_F B) := by
  refine Met.ofW (cc := cX11_init) (maxL := 1) (ret := none) (by decide) rfl ?_
  intro p e s m args below meth c s₁ Bd hml hv
  obtain ⟨rfl, hP, hK⟩ := hv
  have hx := Bd.exec
  have hb := Bd.bytes
  have hr := Bd.returns
  have hts := atoms_spec (ws := wcX11_init) Bd.pre
  have hown : s.vm.findClass RX11 = some m.cls := findClass_of_methodNamed Bd.named
  have hlocks := Bd.notSynchronized
  have hin : meth.name = "<init>" := (name_of_methodNamed Bd.named Bd.method).1
  have hS : hs_Sx B s.heap s.heap [] := va_S.rf
  have hX : hs_cx cX11_init none 1 RX11 wcX11_init p s m (List.toArray [.ref (B + v0)]) meth c D E := ⟨hx, hb, hr, hml, hown, hts, hlocks, hK⟩
  have hl := lv_entry ([.ref (B + v0)]) (n := 1) (Nat.le_of_ble_eq_true rfl)
  rw [lg_entry_eq]
  generalize (lg_sl ([.ref (B + v0)]) ++ List.replicate (1 - (lg_sl ([.ref (B + v0)])).length) Slot.unset).toArray = ls at hl ⊢
  have hl : lv_has ls 1 [(0, .ref (B + v0))] := hl
  have hP : hs_P B D E g s.heap := hP
  unfold fX11_init at hf
  refine lv_aload_n hx hb dX11_init_0 rfl (lv_at hl 0 rfl) ?_
  refine W.objInit hx hb hown (hts _ (List.mem_cons_of_mem _ wq10)) (hts _ (List.mem_cons_of_mem _ wq11)) (hts _ (List.mem_cons_of_mem _ wq12)) rfl (hl.1.trans hml.symm) rfl dX11_init_1 (Nat.le_of_ble_eq_true rfl) (Nat.le_of_ble_eq_true rfl) ?_
  refine lv_aload_n hx hb dX11_init_4 rfl (lv_at hl 0 rfl) ?_
  refine hs_newc (ci := 0) (C := RX0) (T := TX0) (N := 5) hx hb hts (fun w h => List.mem_cons_of_mem _ (inlX0 w h)) tyX0 tyX0_ok hown (hts _ (List.mem_cons_of_mem _ wq13)) (hts _ (List.mem_cons_of_mem _ wq14)) (hts _ (List.mem_cons_of_mem _ wq15)) hK.1 hP hS (by decide) rfl hs_dfX0 (Nat.le_of_ble_eq_true rfl) (Nat.le_of_ble_eq_true rfl) dX11_init_5 (fun H hP hS => ?_)
  refine W.widen (k := 1) (n := 5) (by omega) (by omega) ?_
  refine lv_dup hx hb dX11_init_8 rfl ?_
  refine lv_sipush (v := 6000) hx hb dX11_init_9 (by decide) ?_
  obtain ⟨g1, h3, hf⟩ := hs_bv_some hf
  refine hs_callv (va_runI (As := [.int (6000 : Int32)]) (rest := [.ref (B + g.1), .ref (B + v0)]) ⟨hx, hb, hml, hown, hts⟩ (ctX0_init l B D E g.1 (6000 : Int32) (hs_new g 0 0) _ h3) (cwI 1 hts (hs_gI (fun _ h => List.mem_cons_of_mem _ h) wq38) rfl rfl rfl (hts _ (List.mem_cons_of_mem _ wq15)) (hts _ (List.mem_cons_of_mem _ wq36)) (hts _ (List.mem_cons_of_mem _ wq37)) rfl (by decide +kernel) ⟨Nat.le_of_ble_eq_true rfl, Nat.le_of_ble_eq_true rfl⟩) (hs_pre hP hK) rfl rfl hl.1 rfl (lv_room (Nat.le_of_ble_eq_true rfl)) dX11_init_12 ⟨(Nat.le_of_ble_eq_true rfl), (Nat.le_of_ble_eq_true rfl)⟩) hS (fun H locs hP hS => ?_)
  refine W.widen (k := 22) (n := 32400) (by omega) (by omega) ?_
  obtain ⟨h4, hf⟩ := hs_ck hf
  refine hs_putr (C := RX11) (T := TX11) (N := 8) hx hb hts (fun w h => List.mem_cons_of_mem _ (inlX11 w h)) tyX11 tyX11_ok nmX11 hown hK.1 hP hS h4 (by decide) rfl 0 (by decide) (hts _ (List.mem_cons_of_mem _ wq16)) (fun _ h => h) (Or.inl rfl) (fun _ => rfl) (fun _ => rfl) rfl dX11_init_15 (fun H locs hP hS => ?_)
  refine lv_aload_n hx hb dX11_init_18 rfl (lv_at hl 0 rfl) ?_
  obtain ⟨g5, e6, hf⟩ := hs_bv_some hf
  replace e6 := Option.some.inj e6
  rw [e6] at hP
  have h7 : hs_kd g5 v0 = 9 := by rw [← e6]; exact h4
  refine hs_newc (ci := 0) (C := RX0) (T := TX0) (N := 5) hx hb hts (fun w h => List.mem_cons_of_mem _ (inlX0 w h)) tyX0 tyX0_ok hown (hts _ (List.mem_cons_of_mem _ wq13)) (hts _ (List.mem_cons_of_mem _ wq14)) (hts _ (List.mem_cons_of_mem _ wq15)) hK.1 hP hS (by decide) rfl hs_dfX0 (Nat.le_of_ble_eq_true rfl) (Nat.le_of_ble_eq_true rfl) dX11_init_19 (fun H hP hS => ?_)
  refine W.widen (k := 23) (n := 32405) (by omega) (by omega) ?_
  refine lv_dup hx hb dX11_init_22 rfl ?_
  refine lv_sipush (v := 6000) hx hb dX11_init_23 (by decide) ?_
  obtain ⟨g8, h10, hf⟩ := hs_bv_some hf
  refine hs_callv (va_runI (As := [.int (6000 : Int32)]) (rest := [.ref (B + g5.1), .ref (B + v0)]) ⟨hx, hb, hml, hown, hts⟩ (ctX0_init l B D E g5.1 (6000 : Int32) (hs_new g5 0 0) _ h10) (cwI 1 hts (hs_gI (fun _ h => List.mem_cons_of_mem _ h) wq38) rfl rfl rfl (hts _ (List.mem_cons_of_mem _ wq15)) (hts _ (List.mem_cons_of_mem _ wq36)) (hts _ (List.mem_cons_of_mem _ wq37)) rfl (by decide +kernel) ⟨Nat.le_of_ble_eq_true rfl, Nat.le_of_ble_eq_true rfl⟩) (hs_pre hP hK) rfl rfl hl.1 rfl (lv_room (Nat.le_of_ble_eq_true rfl)) dX11_init_26 ⟨(Nat.le_of_ble_eq_true rfl), (Nat.le_of_ble_eq_true rfl)⟩) hS (fun H locs hP hS => ?_)
  refine W.widen (k := 44) (n := 64800) (by omega) (by omega) ?_
  obtain ⟨h11, hf⟩ := hs_ck hf
  refine hs_putr (C := RX11) (T := TX11) (N := 8) hx hb hts (fun w h => List.mem_cons_of_mem _ (inlX11 w h)) tyX11 tyX11_ok nmX11 hown hK.1 hP hS h11 (by decide) rfl 1 (by decide) (hts _ (List.mem_cons_of_mem _ wq17)) (fun _ h => h) (Or.inl rfl) (fun _ => rfl) (fun _ => rfl) rfl dX11_init_29 (fun H locs hP hS => ?_)
  refine lv_aload_n hx hb dX11_init_32 rfl (lv_at hl 0 rfl) ?_
  obtain ⟨g12, e13, hf⟩ := hs_bv_some hf
  replace e13 := Option.some.inj e13
  rw [e13] at hP
  have h14 : hs_kd g12 v0 = 9 := by rw [← e13]; exact h11
  refine hs_newc (ci := 0) (C := RX0) (T := TX0) (N := 5) hx hb hts (fun w h => List.mem_cons_of_mem _ (inlX0 w h)) tyX0 tyX0_ok hown (hts _ (List.mem_cons_of_mem _ wq13)) (hts _ (List.mem_cons_of_mem _ wq14)) (hts _ (List.mem_cons_of_mem _ wq15)) hK.1 hP hS (by decide) rfl hs_dfX0 (Nat.le_of_ble_eq_true rfl) (Nat.le_of_ble_eq_true rfl) dX11_init_33 (fun H hP hS => ?_)
  refine W.widen (k := 45) (n := 64805) (by omega) (by omega) ?_
  refine lv_dup hx hb dX11_init_36 rfl ?_
  refine lv_sipush (v := 6000) hx hb dX11_init_37 (by decide) ?_
  obtain ⟨g15, h17, hf⟩ := hs_bv_some hf
  refine hs_callv (va_runI (As := [.int (6000 : Int32)]) (rest := [.ref (B + g12.1), .ref (B + v0)]) ⟨hx, hb, hml, hown, hts⟩ (ctX0_init l B D E g12.1 (6000 : Int32) (hs_new g12 0 0) _ h17) (cwI 1 hts (hs_gI (fun _ h => List.mem_cons_of_mem _ h) wq38) rfl rfl rfl (hts _ (List.mem_cons_of_mem _ wq15)) (hts _ (List.mem_cons_of_mem _ wq36)) (hts _ (List.mem_cons_of_mem _ wq37)) rfl (by decide +kernel) ⟨Nat.le_of_ble_eq_true rfl, Nat.le_of_ble_eq_true rfl⟩) (hs_pre hP hK) rfl rfl hl.1 rfl (lv_room (Nat.le_of_ble_eq_true rfl)) dX11_init_40 ⟨(Nat.le_of_ble_eq_true rfl), (Nat.le_of_ble_eq_true rfl)⟩) hS (fun H locs hP hS => ?_)
  refine W.widen (k := 66) (n := 97200) (by omega) (by omega) ?_
  obtain ⟨h18, hf⟩ := hs_ck hf
  refine hs_putr (C := RX11) (T := TX11) (N := 8) hx hb hts (fun w h => List.mem_cons_of_mem _ (inlX11 w h)) tyX11 tyX11_ok nmX11 hown hK.1 hP hS h18 (by decide) rfl 2 (by decide) (hts _ (List.mem_cons_of_mem _ wq18)) (fun _ h => h) (Or.inl rfl) (fun _ => rfl) (fun _ => rfl) rfl dX11_init_43 (fun H locs hP hS => ?_)
  refine lv_aload_n hx hb dX11_init_46 rfl (lv_at hl 0 rfl) ?_
  obtain ⟨g19, e20, hf⟩ := hs_bv_some hf
  replace e20 := Option.some.inj e20
  rw [e20] at hP
  have h21 : hs_kd g19 v0 = 9 := by rw [← e20]; exact h18
  refine hs_newc (ci := 0) (C := RX0) (T := TX0) (N := 5) hx hb hts (fun w h => List.mem_cons_of_mem _ (inlX0 w h)) tyX0 tyX0_ok hown (hts _ (List.mem_cons_of_mem _ wq13)) (hts _ (List.mem_cons_of_mem _ wq14)) (hts _ (List.mem_cons_of_mem _ wq15)) hK.1 hP hS (by decide) rfl hs_dfX0 (Nat.le_of_ble_eq_true rfl) (Nat.le_of_ble_eq_true rfl) dX11_init_47 (fun H hP hS => ?_)
  refine W.widen (k := 67) (n := 97205) (by omega) (by omega) ?_
  refine lv_dup hx hb dX11_init_50 rfl ?_
  refine lv_sipush (v := 32000) hx hb dX11_init_51 (by decide) ?_
  obtain ⟨g22, h24, hf⟩ := hs_bv_some hf
  refine hs_callv (va_runI (As := [.int (32000 : Int32)]) (rest := [.ref (B + g19.1), .ref (B + v0)]) ⟨hx, hb, hml, hown, hts⟩ (ctX0_init l B D E g19.1 (32000 : Int32) (hs_new g19 0 0) _ h24) (cwI 1 hts (hs_gI (fun _ h => List.mem_cons_of_mem _ h) wq38) rfl rfl rfl (hts _ (List.mem_cons_of_mem _ wq15)) (hts _ (List.mem_cons_of_mem _ wq36)) (hts _ (List.mem_cons_of_mem _ wq37)) rfl (by decide +kernel) ⟨Nat.le_of_ble_eq_true rfl, Nat.le_of_ble_eq_true rfl⟩) (hs_pre hP hK) rfl rfl hl.1 rfl (lv_room (Nat.le_of_ble_eq_true rfl)) dX11_init_54 ⟨(Nat.le_of_ble_eq_true rfl), (Nat.le_of_ble_eq_true rfl)⟩) hS (fun H locs hP hS => ?_)
  refine W.widen (k := 88) (n := 129600) (by omega) (by omega) ?_
  obtain ⟨h25, hf⟩ := hs_ck hf
  refine hs_putr (C := RX11) (T := TX11) (N := 8) hx hb hts (fun w h => List.mem_cons_of_mem _ (inlX11 w h)) tyX11 tyX11_ok nmX11 hown hK.1 hP hS h25 (by decide) rfl 3 (by decide) (hts _ (List.mem_cons_of_mem _ wq19)) (fun _ h => h) (Or.inr ⟨rfl, hin, rfl⟩) (fun _ => rfl) (fun _ => rfl) rfl dX11_init_57 (fun H locs hP hS => ?_)
  refine lv_aload_n hx hb dX11_init_60 rfl (lv_at hl 0 rfl) ?_
  obtain ⟨g26, e27, hf⟩ := hs_bv_some hf
  replace e27 := Option.some.inj e27
  rw [e27] at hP
  have h28 : hs_kd g26 v0 = 9 := by rw [← e27]; exact h25
  refine hs_newc (ci := 7) (C := RX8) (T := TX8) (N := 1) hx hb hts (fun w h => List.mem_cons_of_mem _ (inlX8 w h)) tyX8 tyX8_ok hown (hts _ (List.mem_cons_of_mem _ wq20)) (hts _ (List.mem_cons_of_mem _ wq21)) (hts _ (List.mem_cons_of_mem _ wq22)) hK.1 hP hS (by decide) rfl hs_dfX8 (Nat.le_of_ble_eq_true rfl) (Nat.le_of_ble_eq_true rfl) dX11_init_61 (fun H hP hS => ?_)
  refine W.widen (k := 89) (n := 129601) (by omega) (by omega) ?_
  refine lv_dup hx hb dX11_init_64 rfl ?_
  obtain ⟨g29, h31, hf⟩ := hs_bv_some hf
  refine hs_callv (va_runI (As := []) (rest := [.ref (B + g26.1), .ref (B + v0)]) ⟨hx, hb, hml, hown, hts⟩ (ctX8_init l B D E g26.1 (hs_new g26 7 0) _ h31) (cwI 0 hts (hs_gI (fun _ h => List.mem_cons_of_mem _ h) wq55) rfl rfl rfl (hts _ (List.mem_cons_of_mem _ wq22)) (hts _ (List.mem_cons_of_mem _ wq53)) (hts _ (List.mem_cons_of_mem _ wq54)) rfl (by decide +kernel) ⟨Nat.le_of_ble_eq_true rfl, Nat.le_of_ble_eq_true rfl⟩) (hs_pre hP hK) rfl rfl hl.1 rfl (lv_room (Nat.le_of_ble_eq_true rfl)) dX11_init_65 ⟨(Nat.le_of_ble_eq_true rfl), (Nat.le_of_ble_eq_true rfl)⟩) hS (fun H locs hP hS => ?_)
  refine W.widen (k := 90) (n := 129857) (by omega) (by omega) ?_
  obtain ⟨h32, hf⟩ := hs_ck hf
  refine hs_putr (C := RX11) (T := TX11) (N := 8) hx hb hts (fun w h => List.mem_cons_of_mem _ (inlX11 w h)) tyX11 tyX11_ok nmX11 hown hK.1 hP hS h32 (by decide) rfl 4 (by decide) (hts _ (List.mem_cons_of_mem _ wq23)) (fun _ h => h) (Or.inr ⟨rfl, hin, rfl⟩) (fun _ => rfl) (fun _ => rfl) rfl dX11_init_68 (fun H locs hP hS => ?_)
  refine lv_aload_n hx hb dX11_init_71 rfl (lv_at hl 0 rfl) ?_
  obtain ⟨g33, e34, hf⟩ := hs_bv_some hf
  replace e34 := Option.some.inj e34
  rw [e34] at hP
  have h35 : hs_kd g33 v0 = 9 := by rw [← e34]; exact h32
  refine hs_newc (ci := 2) (C := RX2) (T := TX2) (N := 1) hx hb hts (fun w h => List.mem_cons_of_mem _ (inlX2 w h)) tyX2 tyX2_ok hown (hts _ (List.mem_cons_of_mem _ wq24)) (hts _ (List.mem_cons_of_mem _ wq25)) (hts _ (List.mem_cons_of_mem _ wq26)) hK.1 hP hS (by decide) rfl hs_dfX2 (Nat.le_of_ble_eq_true rfl) (Nat.le_of_ble_eq_true rfl) dX11_init_72 (fun H hP hS => ?_)
  refine W.widen (k := 91) (n := 129858) (by omega) (by omega) ?_
  refine lv_dup hx hb dX11_init_75 rfl ?_
  obtain ⟨g36, h38, hf⟩ := hs_bv_some hf
  refine hs_callv (va_runIN (As := []) (rest := [.ref (B + g33.1), .ref (B + v0)]) ⟨hx, hb, hml, hown, hts⟩ (ctX2_init l B D E g33.1 (hs_new g33 2 0) _ h38) ⟨va_cnB 0 hts (hs_gI (fun _ h => List.mem_cons_of_mem _ h) wq71) rfl rfl rfl hK.2.2.2.2.2.1 (hts _ (List.mem_cons_of_mem _ wq26)) (by decide +kernel) ⟨Nat.le_of_ble_eq_true rfl, Nat.le_of_ble_eq_true rfl⟩, rfl, (hts _ (List.mem_cons_of_mem _ wq70))⟩ (hs_pre hP hK) rfl rfl hl.1 rfl (lv_room (Nat.le_of_ble_eq_true rfl)) dX11_init_76 ⟨(Nat.le_of_ble_eq_true rfl), (Nat.le_of_ble_eq_true rfl)⟩) hS (fun H locs hP hS => ?_)
  refine W.widen (k := 94) (n := 133861) (by omega) (by omega) ?_
  obtain ⟨h39, hf⟩ := hs_ck hf
  refine hs_putr (C := RX11) (T := TX11) (N := 8) hx hb hts (fun w h => List.mem_cons_of_mem _ (inlX11 w h)) tyX11 tyX11_ok nmX11 hown hK.1 hP hS h39 (by decide) rfl 5 (by decide) (hts _ (List.mem_cons_of_mem _ wq27)) (fun _ h => h) (Or.inr ⟨rfl, hin, rfl⟩) (fun _ => rfl) (fun _ => rfl) rfl dX11_init_79 (fun H locs hP hS => ?_)
  refine lv_aload_n hx hb dX11_init_82 rfl (lv_at hl 0 rfl) ?_
  obtain ⟨g40, e41, hf⟩ := hs_bv_some hf
  replace e41 := Option.some.inj e41
  rw [e41] at hP
  have h42 : hs_kd g40 v0 = 9 := by rw [← e41]; exact h39
  refine hs_newc (ci := 4) (C := RX5) (T := TX5) (N := 5) hx hb hts (fun w h => List.mem_cons_of_mem _ (inlX5 w h)) tyX5 tyX5_ok hown (hts _ (List.mem_cons_of_mem _ wq28)) (hts _ (List.mem_cons_of_mem _ wq29)) (hts _ (List.mem_cons_of_mem _ wq30)) hK.1 hP hS (by decide) rfl hs_dfX5 (Nat.le_of_ble_eq_true rfl) (Nat.le_of_ble_eq_true rfl) dX11_init_83 (fun H hP hS => ?_)
  refine W.widen (k := 95) (n := 133866) (by omega) (by omega) ?_
  refine lv_dup hx hb dX11_init_86 rfl ?_
  obtain ⟨g43, h45, hf⟩ := hs_bv_some hf
  refine hs_callv (va_runIN (As := []) (rest := [.ref (B + g40.1), .ref (B + v0)]) ⟨hx, hb, hml, hown, hts⟩ (ctX5_init l B D E g40.1 (hs_new g40 4 0) _ h45) ⟨va_cnB 0 hts (hs_gI (fun _ h => List.mem_cons_of_mem _ h) wq83) rfl rfl rfl hK.2.2.2.2.2.2 (hts _ (List.mem_cons_of_mem _ wq30)) (by decide +kernel) ⟨Nat.le_of_ble_eq_true rfl, Nat.le_of_ble_eq_true rfl⟩, rfl, (hts _ (List.mem_cons_of_mem _ wq82))⟩ (hs_pre hP hK) rfl rfl hl.1 rfl (lv_room (Nat.le_of_ble_eq_true rfl)) dX11_init_87 ⟨(Nat.le_of_ble_eq_true rfl), (Nat.le_of_ble_eq_true rfl)⟩) hS (fun H locs hP hS => ?_)
  refine W.widen (k := 99) (n := 141867) (by omega) (by omega) ?_
  obtain ⟨h46, hf⟩ := hs_ck hf
  refine hs_putr (C := RX11) (T := TX11) (N := 8) hx hb hts (fun w h => List.mem_cons_of_mem _ (inlX11 w h)) tyX11 tyX11_ok nmX11 hown hK.1 hP hS h46 (by decide) rfl 6 (by decide) (hts _ (List.mem_cons_of_mem _ wq31)) (fun _ h => h) (Or.inr ⟨rfl, hin, rfl⟩) (fun _ => rfl) (fun _ => rfl) rfl dX11_init_90 (fun H locs hP hS => ?_)
  refine lv_aload_n hx hb dX11_init_93 rfl (lv_at hl 0 rfl) ?_
  obtain ⟨g47, e48, hf⟩ := hs_bv_some hf
  replace e48 := Option.some.inj e48
  rw [e48] at hP
  have h49 : hs_kd g47 v0 = 9 := by rw [← e48]; exact h46
  refine hs_newc (ci := 5) (C := RX6) (T := TX6) (N := 8) hx hb hts (fun w h => List.mem_cons_of_mem _ (inlX6 w h)) tyX6 tyX6_ok hown (hts _ (List.mem_cons_of_mem _ wq32)) (hts _ (List.mem_cons_of_mem _ wq33)) (hts _ (List.mem_cons_of_mem _ wq34)) hK.1 hP hS (by decide) rfl hs_dfX6 (Nat.le_of_ble_eq_true rfl) (Nat.le_of_ble_eq_true rfl) dX11_init_94 (fun H hP hS => ?_)
  refine W.widen (k := 100) (n := 141875) (by omega) (by omega) ?_
  refine lv_dup hx hb dX11_init_97 rfl ?_
  refine lv_aload_n hx hb dX11_init_98 rfl (lv_at hl 0 rfl) ?_
  obtain ⟨h50, hf⟩ := hs_ck hf
  obtain ⟨h51, hf⟩ := hs_ck hf
  refine hs_getr (C := RX11) (T := TX11) (N := 8) hx hb hts (fun w h => List.mem_cons_of_mem _ (inlX11 w h)) hown hK.1 hP h50 (by decide) rfl 3 (by decide) (hts _ (List.mem_cons_of_mem _ wq19)) (fun _ h => h) rfl h51 dX11_init_99 ?_
  obtain ⟨g52, h54, hf⟩ := hs_bv_some hf
  refine hs_callv (va_runI (As := [.ref (B + ((hs_R (hs_new g47 5 0) v0 3) - 1))]) (rest := [.ref (B + g47.1), .ref (B + v0)]) ⟨hx, hb, hml, hown, hts⟩ (ctX6_init l B D E g47.1 ((hs_R (hs_new g47 5 0) v0 3) - 1) (hs_new g47 5 0) _ h54) (cwI 1 hts (hs_gI (fun _ h => List.mem_cons_of_mem _ h) wq91) rfl rfl rfl (hts _ (List.mem_cons_of_mem _ wq34)) (hts _ (List.mem_cons_of_mem _ wq89)) (hts _ (List.mem_cons_of_mem _ wq90)) rfl (by decide +kernel) ⟨Nat.le_of_ble_eq_true rfl, Nat.le_of_ble_eq_true rfl⟩) (hs_pre hP hK) rfl rfl hl.1 rfl (lv_room (Nat.le_of_ble_eq_true rfl)) dX11_init_102 ⟨(Nat.le_of_ble_eq_true rfl), (Nat.le_of_ble_eq_true rfl)⟩) hS (fun H locs hP hS => ?_)
  refine W.widen (k := 284) (n := 148641) (by omega) (by omega) ?_
  obtain ⟨h55, hf⟩ := hs_ck hf
  refine hs_putr (C := RX11) (T := TX11) (N := 8) hx hb hts (fun w h => List.mem_cons_of_mem _ (inlX11 w h)) tyX11 tyX11_ok nmX11 hown hK.1 hP hS h55 (by decide) rfl 7 (by decide) (hts _ (List.mem_cons_of_mem _ wq35)) (fun _ h => h) (Or.inr ⟨rfl, hin, rfl⟩) (fun _ => rfl) (fun _ => rfl) rfl dX11_init_105 (fun H locs hP hS => ?_)
  refine W.widen (k := 284) (n := 148641) (by omega) (by omega) ?_
  exact hs_vret hx hb hr hlocks hK hP hS hf dX11_init_108

theorem dX0_append_0 : decode cX0_append 0 = .ok (.aload_n 0, 1) := by decide +kernel
theorem dX0_append_1 : decode cX0_append 1 = .ok (.getfield 28, 3) := by decide +kernel
theorem dX0_append_4 : decode cX0_append 4 = .ok (.aload_n 0, 1) := by decide +kernel
theorem dX0_append_5 : decode cX0_append 5 = .ok (.getfield 24, 3) := by decide +kernel
theorem dX0_append_8 : decode cX0_append 8 = .ok (.arraylength, 1) := by decide +kernel
theorem dX0_append_9 : decode cX0_append 9 = .ok (.if_icmp .ge 29, 3) := by decide +kernel
theorem dX0_append_12 : decode cX0_append 12 = .ok (.aload_n 0, 1) := by decide +kernel
theorem dX0_append_13 : decode cX0_append 13 = .ok (.getfield 24, 3) := by decide +kernel
theorem dX0_append_16 : decode cX0_append 16 = .ok (.aload_n 0, 1) := by decide +kernel
theorem dX0_append_17 : decode cX0_append 17 = .ok (.getfield 28, 3) := by decide +kernel
theorem dX0_append_20 : decode cX0_append 20 = .ok (.iload_n 1, 1) := by decide +kernel
theorem dX0_append_21 : decode cX0_append 21 = .ok (.sipush 255, 3) := by decide +kernel
theorem dX0_append_24 : decode cX0_append 24 = .ok (.iand, 1) := by decide +kernel
theorem dX0_append_25 : decode cX0_append 25 = .ok (.invokestatic 35, 3) := by decide +kernel
theorem dX0_append_28 : decode cX0_append 28 = .ok (.aload_n 0, 1) := by decide +kernel
theorem dX0_append_29 : decode cX0_append 29 = .ok (.dup, 1) := by decide +kernel
theorem dX0_append_30 : decode cX0_append 30 = .ok (.getfield 28, 3) := by decide +kernel
theorem dX0_append_33 : decode cX0_append 33 = .ok (.iconst 1, 1) := by decide +kernel
theorem dX0_append_34 : decode cX0_append 34 = .ok (.iadd, 1) := by decide +kernel
theorem dX0_append_35 : decode cX0_append 35 = .ok (.putfield 28, 3) := by decide +kernel
theorem dX0_append_38 : decode cX0_append 38 = .ok (.return_, 1) := by decide +kernel
abbrev wcX0_append : List Cond := .code yX0_append cX0_append 2 none :: wsL_law
def fX0_append (v0 : Nat) (v1 : Int32) (g : hs_S) : Option (hs_S) :=
  if hs_kd g v0 = 0 then
  if ¬ (hs_R g v0 0) = 0 then
  if hs_kd g ((hs_R g v0 0) - 1) = 100 then
  if (Int32.ofNat (hs_ln g ((hs_R g v0 0) - 1))) ≤ (hs_I g v0 3) then (
    some g
  ) else (
    hs_bv (fX9_put ((hs_R g v0 0) - 1) (hs_I g v0 3) (v1 &&& (255 : Int32)) g) fun g4 =>
    if hs_kd g4 v0 = 0 then
    some (hs_wI g4 v0 3 ((hs_I g4 v0 3) + (1 : Int32)))
    else none
  )
  else none else none else none
abbrev rmX0_append : Room := { frames := 1, cells := 0, slots := 0, locals := 22 }
set_option maxHeartbeats 4000000 in
set_option maxRecDepth 100000 in
theorem ctX0_append (l : Launch) (B : Nat) (D : va_G) (E : Nat → ClassId) (v0 : Nat) (v1 : Int32) (g : hs_S) (o : hs_S) (hf : fX0_append v0 v1 g = some o) : Met l yX0_append wcX0_append rmX0_append (hs_Pc B D E g [.ref (B + v0), .int v1]) (hs_Qv B D E o) (0) (0) (hs_F B) := by
  refine Met.ofW (cc := cX0_append) (maxL := 2) (ret := none) (by decide) rfl ?_
  intro p e s m args below meth c s₁ Bd hml hv
  obtain ⟨rfl, hP, hK⟩ := hv
  have hx := Bd.exec
  have hb := Bd.bytes
  have hr := Bd.returns
  have hts := atoms_spec (ws := wcX0_append) Bd.pre
  have hown : s.vm.findClass RX0 = some m.cls := findClass_of_methodNamed Bd.named
  have hlocks := Bd.notSynchronized
  have hS : hs_Sx B s.heap s.heap [] := va_S.rf
  have hX : hs_cx cX0_append none 2 RX0 wcX0_append p s m (List.toArray [.ref (B + v0), .int v1]) meth c D E := ⟨hx, hb, hr, hml, hown, hts, hlocks, hK⟩
  have hl := lv_entry ([.ref (B + v0), .int v1]) (n := 2) (Nat.le_of_ble_eq_true rfl)
  rw [lg_entry_eq]
  generalize (lg_sl ([.ref (B + v0), .int v1]) ++ List.replicate (2 - (lg_sl ([.ref (B + v0), .int v1])).length) Slot.unset).toArray = ls at hl ⊢
  have hl : lv_has ls 2 [(0, .ref (B + v0)), (1, .int v1)] := hl
  have hP : hs_P B D E g s.heap := hP
  unfold fX0_append at hf
  refine lv_aload_n hx hb dX0_append_0 rfl (lv_at hl 0 rfl) ?_
  obtain ⟨h1, hf⟩ := hs_ck hf
  refine hs_geti (C := RX0) (T := TX0) (N := 5) hx hb hts (fun w h => List.mem_cons_of_mem _ (inlX0 w h)) hown hK.1 hP h1 (by decide) rfl 3 (by decide) (hts _ (List.mem_cons_of_mem _ wq170)) (fun _ h => h) rfl dX0_append_1 ?_
  refine lv_aload_n hx hb dX0_append_4 rfl (lv_at hl 0 rfl) ?_
  obtain ⟨h2, hf⟩ := hs_ck hf
  refine hs_getr (C := RX0) (T := TX0) (N := 5) hx hb hts (fun w h => List.mem_cons_of_mem _ (inlX0 w h)) hown hK.1 hP h1 (by decide) rfl 0 (by decide) (hts _ (List.mem_cons_of_mem _ wq46)) (fun _ h => h) rfl h2 dX0_append_5 ?_
  obtain ⟨h3, hf⟩ := hs_ck hf
  refine hs_alen (t := 0) hx hb hK.1 hP h3 (by decide) dX0_append_8 ?_
  refine lv_icmp_ge (tgt := 38) hx hb dX0_append_9 (by decide) (fun hc => ?_) (fun hc => ?_)
  · replace hf := hs_t hf hc
    exact hs_vret hx hb hr hlocks hK hP hS hf dX0_append_38
  · replace hf := hs_f hf hc
    refine lv_aload_n hx hb dX0_append_12 rfl (lv_at hl 0 rfl) ?_
    refine hs_getr (C := RX0) (T := TX0) (N := 5) hx hb hts (fun w h => List.mem_cons_of_mem _ (inlX0 w h)) hown hK.1 hP h1 (by decide) rfl 0 (by decide) (hts _ (List.mem_cons_of_mem _ wq46)) (fun _ h => h) rfl h2 dX0_append_13 ?_
    refine lv_aload_n hx hb dX0_append_16 rfl (lv_at hl 0 rfl) ?_
    refine hs_geti (C := RX0) (T := TX0) (N := 5) hx hb hts (fun w h => List.mem_cons_of_mem _ (inlX0 w h)) hown hK.1 hP h1 (by decide) rfl 3 (by decide) (hts _ (List.mem_cons_of_mem _ wq170)) (fun _ h => h) rfl dX0_append_17 ?_
    refine lv_iload_n hx hb dX0_append_20 rfl (lv_at hl 1 rfl) ?_
    refine lv_sipush (v := 255) hx hb dX0_append_21 (by decide) ?_
    refine lv_iand hx hb dX0_append_24 ?_
    obtain ⟨g4, h6, hf⟩ := hs_bv_some hf
    refine hs_callv (va_runS (As := [.ref (B + ((hs_R g v0 0) - 1)), .int (hs_I g v0 3), .int (v1 &&& (255 : Int32))]) (rest := []) ⟨hx, hb, hml, hown, hts⟩ (ctX9_put l B D E ((hs_R g v0 0) - 1) (hs_I g v0 3) (v1 &&& (255 : Int32)) g _ h6) (va_cwS 3 hts (hs_gS (fun _ h => List.mem_cons_of_mem _ h) wq171 wq67 wq68 wq69) rfl rfl rfl (by decide +kernel) ⟨Nat.le_of_ble_eq_true rfl, Nat.le_of_ble_eq_true rfl⟩) (hs_pre hP hK) rfl rfl hl.1 rfl (lv_room (Nat.le_of_ble_eq_true rfl)) dX0_append_25 ⟨(Nat.le_of_ble_eq_true rfl), (Nat.le_of_ble_eq_true rfl)⟩) hS (fun H locs hP hS => ?_)
    refine lv_aload_n hx hb dX0_append_28 rfl (lv_at hl 0 rfl) ?_
    refine lv_dup hx hb dX0_append_29 rfl ?_
    obtain ⟨h7, hf⟩ := hs_ck hf
    refine hs_geti (C := RX0) (T := TX0) (N := 5) hx hb hts (fun w h => List.mem_cons_of_mem _ (inlX0 w h)) hown hK.1 hP h7 (by decide) rfl 3 (by decide) (hts _ (List.mem_cons_of_mem _ wq170)) (fun _ h => h) rfl dX0_append_30 ?_
    refine lv_iconst (v := 1) hx hb dX0_append_33 (by decide) ?_
    refine lv_iadd hx hb dX0_append_34 ?_
    refine hs_puti (C := RX0) (T := TX0) (N := 5) hx hb hts (fun w h => List.mem_cons_of_mem _ (inlX0 w h)) tyX0 tyX0_ok nmX0 hown hK.1 hP hS h7 (by decide) rfl 3 (by decide) (hts _ (List.mem_cons_of_mem _ wq170)) (fun _ h => h) (Or.inl rfl) rfl rfl rfl dX0_append_35 (fun H locs hP hS => ?_)
    exact hs_vret hx hb hr hlocks hK hP hS hf dX0_append_38

theorem dX11_feed_0 : decode cX11_feed 0 = .ok (.iload_n 3, 1) := by decide +kernel
theorem dX11_feed_1 : decode cX11_feed 1 = .ok (.iconst 1, 1) := by decide +kernel
theorem dX11_feed_2 : decode cX11_feed 2 = .ok (.if_icmp .lt 9, 3) := by decide +kernel
theorem dX11_feed_5 : decode cX11_feed 5 = .ok (.iload_n 3, 1) := by decide +kernel
theorem dX11_feed_6 : decode cX11_feed 6 = .ok (.bipush 8, 2) := by decide +kernel
theorem dX11_feed_8 : decode cX11_feed 8 = .ok (.if_icmp .le 6, 3) := by decide +kernel
theorem dX11_feed_11 : decode cX11_feed 11 = .ok (.bipush (-3), 2) := by decide +kernel
theorem dX11_feed_13 : decode cX11_feed 13 = .ok (.ireturn, 1) := by decide +kernel
theorem dX11_feed_14 : decode cX11_feed 14 = .ok (.aload_n 0, 1) := by decide +kernel
theorem dX11_feed_15 : decode cX11_feed 15 = .ok (.getfield 14, 3) := by decide +kernel
theorem dX11_feed_18 : decode cX11_feed 18 = .ok (.getfield 57, 3) := by decide +kernel
theorem dX11_feed_21 : decode cX11_feed 21 = .ok (.iload_n 3, 1) := by decide +kernel
theorem dX11_feed_22 : decode cX11_feed 22 = .ok (.iadd, 1) := by decide +kernel
theorem dX11_feed_23 : decode cX11_feed 23 = .ok (.sipush 6000, 3) := by decide +kernel
theorem dX11_feed_26 : decode cX11_feed 26 = .ok (.if_icmp .le 6, 3) := by decide +kernel
theorem dX11_feed_29 : decode cX11_feed 29 = .ok (.bipush (-4), 2) := by decide +kernel
theorem dX11_feed_31 : decode cX11_feed 31 = .ok (.ireturn, 1) := by decide +kernel
theorem dX11_feed_32 : decode cX11_feed 32 = .ok (.iload_n 3, 1) := by decide +kernel
theorem dX11_feed_33 : decode cX11_feed 33 = .ok (.iconst 1, 1) := by decide +kernel
theorem dX11_feed_34 : decode cX11_feed 34 = .ok (.isub, 1) := by decide +kernel
theorem dX11_feed_35 : decode cX11_feed 35 = .ok (.istore 4, 2) := by decide +kernel
theorem dX11_feed_37 : decode cX11_feed 37 = .ok (.iload 4, 2) := by decide +kernel
theorem dX11_feed_39 : decode cX11_feed 39 = .ok (.ifCond .lt 24, 3) := by decide +kernel
theorem dX11_feed_42 : decode cX11_feed 42 = .ok (.aload_n 0, 1) := by decide +kernel
theorem dX11_feed_43 : decode cX11_feed 43 = .ok (.getfield 14, 3) := by decide +kernel
theorem dX11_feed_46 : decode cX11_feed 46 = .ok (.lload_n 1, 1) := by decide +kernel
theorem dX11_feed_47 : decode cX11_feed 47 = .ok (.bipush 8, 2) := by decide +kernel
theorem dX11_feed_49 : decode cX11_feed 49 = .ok (.iload 4, 2) := by decide +kernel
theorem dX11_feed_51 : decode cX11_feed 51 = .ok (.imul, 1) := by decide +kernel
theorem dX11_feed_52 : decode cX11_feed 52 = .ok (.lshr, 1) := by decide +kernel
theorem dX11_feed_53 : decode cX11_feed 53 = .ok (.l2i, 1) := by decide +kernel
theorem dX11_feed_54 : decode cX11_feed 54 = .ok (.invokevirtual 61, 3) := by decide +kernel
theorem dX11_feed_57 : decode cX11_feed 57 = .ok (.iinc 4 (-1), 3) := by decide +kernel
theorem dX11_feed_60 : decode cX11_feed 60 = .ok (.goto (-23), 3) := by decide +kernel
theorem dX11_feed_63 : decode cX11_feed 63 = .ok (.aload_n 0, 1) := by decide +kernel
theorem dX11_feed_64 : decode cX11_feed 64 = .ok (.getfield 14, 3) := by decide +kernel
theorem dX11_feed_67 : decode cX11_feed 67 = .ok (.getfield 57, 3) := by decide +kernel
theorem dX11_feed_70 : decode cX11_feed 70 = .ok (.ireturn, 1) := by decide +kernel
abbrev wcX11_feed : List Cond := .code yX11_feed cX11_feed 5 (some .int) :: wsL_law
def lX11_feed_37 : Nat → Nat → Int64 → Int32 → hs_S → Option (hs_S)
  | 0, _, _, _, _ => none
  | n + 1, v0, v1, v4, g =>
    if v4 < 0 then (
      some g
    ) else (
      if hs_kd g v0 = 9 then
      if ¬ (hs_R g v0 0) = 0 then
      if hs_kd g ((hs_R g v0 0) - 1) = 0 then
      hs_bv (fX0_append ((hs_R g v0 0) - 1) ((v1 >>> (((8 : Int32) * v4).toInt64 &&& 63)).toInt32) g) fun g7 =>
      lX11_feed_37 n v0 v1 (v4 + (-1 : Int32)) g7
      else none else none else none
    )
theorem lX11_feed_37_s (n : Nat) (v0 : Nat) (v1 : Int64) (v4 : Int32) (g : hs_S) : lX11_feed_37 (n + 1) v0 v1 v4 g =
    if v4 < 0 then (
      some g
    ) else (
      if hs_kd g v0 = 9 then
      if ¬ (hs_R g v0 0) = 0 then
      if hs_kd g ((hs_R g v0 0) - 1) = 0 then
      hs_bv (fX0_append ((hs_R g v0 0) - 1) ((v1 >>> (((8 : Int32) * v4).toInt64 &&& 63)).toInt32) g) fun g7 =>
      lX11_feed_37 n v0 v1 (v4 + (-1 : Int32)) g7
      else none else none else none
    ) := rfl
def fX11_feed (v0 : Nat) (v1 : Int64) (v3 : Int32) (g : hs_S) : Option (Int32 × hs_S) :=
  if v3 < (1 : Int32) then (
    some ((-3 : Int32), g)
  ) else (
    if v3 ≤ (8 : Int32) then (
      if hs_kd g v0 = 9 then
      if ¬ (hs_R g v0 0) = 0 then
      if hs_kd g ((hs_R g v0 0) - 1) = 0 then
      if ((hs_I g ((hs_R g v0 0) - 1) 3) + v3) ≤ (6000 : Int32) then (
        hs_bv (lX11_feed_37 hs_N v0 v1 (v3 - (1 : Int32)) g) fun g11 =>
        if hs_kd g11 v0 = 9 then
        if ¬ (hs_R g11 v0 0) = 0 then
        if hs_kd g11 ((hs_R g11 v0 0) - 1) = 0 then
        some ((hs_I g11 ((hs_R g11 v0 0) - 1) 3), g11)
        else none else none else none
      ) else (
        some ((-4 : Int32), g)
      )
      else none else none else none
    ) else (
      some ((-3 : Int32), g)
    )
  )
abbrev rmX11_feed : Room := { frames := 2, cells := 0, slots := 0, locals := 43 }
set_option maxHeartbeats 4000000 in
set_option maxRecDepth 100000 in
theorem wX11_feed_37 {p : Program} {l : Launch} {e : Env} {s : State} {m : MethodId} {args : Array Value} {below : List Frame} {meth : Method} {c : Code} {B : Nat} {D : va_G} {E : Nat → ClassId} (hX : hs_cx cX11_feed (some .int) 5 RX11 wcX11_feed p s m args meth c D E) {Q : State → Prop} {o : hs_S} {v0 : Nat} {v1 : Int64} (hex0 : ∀ (H : Heap) (locs : List Loc) (ls : Array Slot), hs_P B D E (o) H → hs_Sx B s.heap H locs → lv_has ls 5 [(0, .ref (B + v0))] → W p l e rmX11_feed s m args below meth c H locs 0 0 Q (F0 m 63 ls [])) : ∀ (n : Nat) (v4 : Int32) (g : hs_S), lX11_feed_37 n v0 v1 v4 g = some o → ∀ (H : Heap) (locs : List Loc) (ls : Array Slot), hs_P B D E g H → hs_Sx B s.heap H locs → lv_has ls 5 [(0, .ref (B + v0)), (1, .long v1), (4, .int v4)] → W p l e rmX11_feed s m args below meth c H locs 0 0 Q (F0 m 37 ls []) := by
  obtain ⟨hx, hb, hr, hml, hown, hts, hlocks, hK⟩ := id hX
  intro n
  induction n with
  | zero =>
    intro v4 g hf
    cases hf
  | succ n ih =>
    intro v4 g hf H locs ls hP hS hl
    replace hf := (lX11_feed_37_s n v0 v1 v4 g).symm.trans hf
    refine lv_iload hx hb dX11_feed_37 (lv_at hl 2 rfl) ?_
    refine lv_if_lt (tgt := 63) hx hb dX11_feed_39 (by decide) (fun hc => ?_) (fun hc => ?_)
    · replace hf := hs_t hf hc
      obtain rfl := Option.some.inj hf
      exact hex0 _ _ _ hP hS (lv_sub hl [0] rfl)
    · replace hf := hs_f hf hc
      refine lv_aload_n hx hb dX11_feed_42 rfl (lv_at hl 0 rfl) ?_
      obtain ⟨h4, hf⟩ := hs_ck hf
      obtain ⟨h5, hf⟩ := hs_ck hf
      refine hs_getr (C := RX11) (T := TX11) (N := 8) hx hb hts (fun w h => List.mem_cons_of_mem _ (inlX11 w h)) hown hK.1 hP h4 (by decide) rfl 0 (by decide) (hts _ (List.mem_cons_of_mem _ wq16)) (fun _ h => h) rfl h5 dX11_feed_43 ?_
      refine lv_lload_n hx hb dX11_feed_46 rfl (lv_at hl 1 rfl) ?_
      refine lv_bipush (v := 8) hx hb dX11_feed_47 (by decide) ?_
      refine lv_iload hx hb dX11_feed_49 (lv_at hl 2 rfl) ?_
      refine lv_imul hx hb dX11_feed_51 ?_
      refine lv_lshr hx hb dX11_feed_52 rfl ?_
      refine lv_l2i hx hb dX11_feed_53 rfl ?_
      obtain ⟨h6, hf⟩ := hs_ck hf
      obtain ⟨g7, h9, hf⟩ := hs_bv_some hf
      refine hs_callv (va_runV (As := [.int ((v1 >>> (((8 : Int32) * v4).toInt64 &&& 63)).toInt32)]) (rest := []) ⟨hx, hb, hml, hown, hts⟩ (ctX0_append l B D E ((hs_R g v0 0) - 1) ((v1 >>> (((8 : Int32) * v4).toInt64 &&& 63)).toInt32) g _ h9) (cwV 1 hts (hs_gV (fun _ h => List.mem_cons_of_mem _ h) wq166 wq167 wq168 wq15 wq169) rfl rfl rfl (by decide +kernel) ⟨Nat.le_of_ble_eq_true rfl, Nat.le_of_ble_eq_true rfl⟩) (hs_preV (r := (RX0, TX0, 5)) hP hK h6 (by decide) rfl) rfl rfl hl.1 rfl (lv_room (Nat.le_of_ble_eq_true rfl)) dX11_feed_54 ⟨(Nat.le_of_ble_eq_true rfl), (Nat.le_of_ble_eq_true rfl)⟩) hS (fun H locs hP hS => ?_)
      refine lv_iinc (v := (v4 + (-1 : Int32))) (lv' := [(4, .int (v4 + (-1 : Int32))), (0, .ref (B + v0)), (1, .long v1)]) hx hb dX11_feed_57 hl (k := 2) rfl (by rfl) (by decide) rfl (fun ls hl => ?_)
      refine lv_goto (tgt := 37) hx hb dX11_feed_60 (by decide) ?_
      exact ih _ _ hf _ _ _ hP hS (lv_sub hl [1, 2, 0] rfl)

set_option maxHeartbeats 4000000 in
set_option maxRecDepth 100000 in
theorem ctX11_feed (l : Launch) (B : Nat) (D : va_G) (E : Nat → ClassId) (v0 : Nat) (v1 : Int64) (v3 : Int32) (g : hs_S) (o : Int32 × hs_S) (hf : fX11_feed v0 v1 v3 g = some o) : Met l yX11_feed wcX11_feed rmX11_feed (hs_Pc B D E g [.ref (B + v0), .long v1, .int v3]) (hs_Qi B D E o) (0) (0) (hs_F B) := by
  refine Met.ofW (cc := cX11_feed) (maxL := 5) (ret := (some .int)) (by decide) rfl ?_
  intro p e s m args below meth c s₁ Bd hml hv
  obtain ⟨rfl, hP, hK⟩ := hv
  have hx := Bd.exec
  have hb := Bd.bytes
  have hr := Bd.returns
  have hts := atoms_spec (ws := wcX11_feed) Bd.pre
  have hown : s.vm.findClass RX11 = some m.cls := findClass_of_methodNamed Bd.named
  have hlocks := Bd.notSynchronized
  have hS : hs_Sx B s.heap s.heap [] := va_S.rf
  have hX : hs_cx cX11_feed (some .int) 5 RX11 wcX11_feed p s m (List.toArray [.ref (B + v0), .long v1, .int v3]) meth c D E := ⟨hx, hb, hr, hml, hown, hts, hlocks, hK⟩
  have hl := lv_entry ([.ref (B + v0), .long v1, .int v3]) (n := 5) (Nat.le_of_ble_eq_true rfl)
  rw [lg_entry_eq]
  generalize (lg_sl ([.ref (B + v0), .long v1, .int v3]) ++ List.replicate (5 - (lg_sl ([.ref (B + v0), .long v1, .int v3])).length) Slot.unset).toArray = ls at hl ⊢
  have hl : lv_has ls 5 [(0, .ref (B + v0)), (1, .long v1), (3, .int v3)] := hl
  have hP : hs_P B D E g s.heap := hP
  unfold fX11_feed at hf
  refine lv_iload_n hx hb dX11_feed_0 rfl (lv_at hl 2 rfl) ?_
  refine lv_iconst (v := 1) hx hb dX11_feed_1 (by decide) ?_
  refine lv_icmp_lt (tgt := 11) hx hb dX11_feed_2 (by decide) (fun hc => ?_) (fun hc => ?_)
  · replace hf := hs_t hf hc
    refine lv_bipush (v := -3) hx hb dX11_feed_11 (by decide) ?_
    exact hs_iret hx hb hr hlocks rfl hK hP hS hf dX11_feed_13
  · replace hf := hs_f hf hc
    refine lv_iload_n hx hb dX11_feed_5 rfl (lv_at hl 2 rfl) ?_
    refine lv_bipush (v := 8) hx hb dX11_feed_6 (by decide) ?_
    refine lv_icmp_le (tgt := 14) hx hb dX11_feed_8 (by decide) (fun hc => ?_) (fun hc => ?_)
    · replace hf := hs_t hf hc
      refine lv_aload_n hx hb dX11_feed_14 rfl (lv_at hl 0 rfl) ?_
      obtain ⟨h1, hf⟩ := hs_ck hf
      obtain ⟨h2, hf⟩ := hs_ck hf
      refine hs_getr (C := RX11) (T := TX11) (N := 8) hx hb hts (fun w h => List.mem_cons_of_mem _ (inlX11 w h)) hown hK.1 hP h1 (by decide) rfl 0 (by decide) (hts _ (List.mem_cons_of_mem _ wq16)) (fun _ h => h) rfl h2 dX11_feed_15 ?_
      obtain ⟨h3, hf⟩ := hs_ck hf
      refine hs_geti (C := RX0) (T := TX0) (N := 5) hx hb hts (fun w h => List.mem_cons_of_mem _ (inlX0 w h)) hown hK.1 hP h3 (by decide) rfl 3 (by decide) (hts _ (List.mem_cons_of_mem _ wq165)) (fun _ h => h) rfl dX11_feed_18 ?_
      refine lv_iload_n hx hb dX11_feed_21 rfl (lv_at hl 2 rfl) ?_
      refine lv_iadd hx hb dX11_feed_22 ?_
      refine lv_sipush (v := 6000) hx hb dX11_feed_23 (by decide) ?_
      refine lv_icmp_le (tgt := 32) hx hb dX11_feed_26 (by decide) (fun hc => ?_) (fun hc => ?_)
      · replace hf := hs_t hf hc
        refine lv_iload_n hx hb dX11_feed_32 rfl (lv_at hl 2 rfl) ?_
        refine lv_iconst (v := 1) hx hb dX11_feed_33 (by decide) ?_
        refine lv_isub hx hb dX11_feed_34 ?_
        refine lv_istore (lv' := [(4, .int (v3 - (1 : Int32))), (0, .ref (B + v0)), (1, .long v1), (3, .int v3)]) hx hb dX11_feed_35 hl (by decide) rfl (fun ls hl => ?_)
        obtain ⟨g11, h12, hf⟩ := hs_bv_some hf
        refine wX11_feed_37 hX (fun H locs ls hP hS hl => ?_) hs_N _ _ h12 _ _ _ hP hS (lv_sub hl [1, 2, 0] rfl)
        refine lv_aload_n hx hb dX11_feed_63 rfl (lv_at hl 0 rfl) ?_
        obtain ⟨h13, hf⟩ := hs_ck hf
        obtain ⟨h14, hf⟩ := hs_ck hf
        refine hs_getr (C := RX11) (T := TX11) (N := 8) hx hb hts (fun w h => List.mem_cons_of_mem _ (inlX11 w h)) hown hK.1 hP h13 (by decide) rfl 0 (by decide) (hts _ (List.mem_cons_of_mem _ wq16)) (fun _ h => h) rfl h14 dX11_feed_64 ?_
        obtain ⟨h15, hf⟩ := hs_ck hf
        refine hs_geti (C := RX0) (T := TX0) (N := 5) hx hb hts (fun w h => List.mem_cons_of_mem _ (inlX0 w h)) hown hK.1 hP h15 (by decide) rfl 3 (by decide) (hts _ (List.mem_cons_of_mem _ wq165)) (fun _ h => h) rfl dX11_feed_67 ?_
        exact hs_iret hx hb hr hlocks rfl hK hP hS hf dX11_feed_70
      · replace hf := hs_f hf hc
        refine lv_bipush (v := -4) hx hb dX11_feed_29 (by decide) ?_
        exact hs_iret hx hb hr hlocks rfl hK hP hS hf dX11_feed_31
    · replace hf := hs_f hf hc
      refine lv_bipush (v := -3) hx hb dX11_feed_11 (by decide) ?_
      exact hs_iret hx hb hr hlocks rfl hK hP hS hf dX11_feed_13

theorem dX9_at_0 : decode cX9_at 0 = .ok (.iload_n 1, 1) := by decide +kernel
theorem dX9_at_1 : decode cX9_at 1 = .ok (.ifCond .lt 15, 3) := by decide +kernel
theorem dX9_at_4 : decode cX9_at 4 = .ok (.iload_n 1, 1) := by decide +kernel
theorem dX9_at_5 : decode cX9_at 5 = .ok (.aload_n 0, 1) := by decide +kernel
theorem dX9_at_6 : decode cX9_at 6 = .ok (.arraylength, 1) := by decide +kernel
theorem dX9_at_7 : decode cX9_at 7 = .ok (.if_icmp .ge 9, 3) := by decide +kernel
theorem dX9_at_10 : decode cX9_at 10 = .ok (.aload_n 0, 1) := by decide +kernel
theorem dX9_at_11 : decode cX9_at 11 = .ok (.iload_n 1, 1) := by decide +kernel
theorem dX9_at_12 : decode cX9_at 12 = .ok (.iaload, 1) := by decide +kernel
theorem dX9_at_13 : decode cX9_at 13 = .ok (.goto 4, 3) := by decide +kernel
theorem dX9_at_16 : decode cX9_at 16 = .ok (.iconst 0, 1) := by decide +kernel
theorem dX9_at_17 : decode cX9_at 17 = .ok (.ireturn, 1) := by decide +kernel
abbrev wcX9_at : List Cond := .code yX9_at cX9_at 2 (some .int) :: wsL_law
def fX9_at (v0 : Nat) (v1 : Int32) (g : hs_S) : Option (Int32 × hs_S) :=
  if v1 < 0 then (
    some ((0 : Int32), g)
  ) else (
    if hs_kd g v0 = 100 then
    if (Int32.ofNat (hs_ln g v0)) ≤ v1 then (
      some ((0 : Int32), g)
    ) else (
      if hs_in v1 (hs_ln g v0) = true then
      some ((hs_I g v0 v1.toNatClampNeg), g)
      else none
    )
    else none
  )
abbrev rmX9_at : Room := { frames := 0, cells := 0, slots := 0, locals := 0 }
set_option maxHeartbeats 4000000 in
set_option maxRecDepth 100000 in
theorem ctX9_at (l : Launch) (B : Nat) (D : va_G) (E : Nat → ClassId) (v0 : Nat) (v1 : Int32) (g : hs_S) (o : Int32 × hs_S) (hf : fX9_at v0 v1 g = some o) : Met l yX9_at wcX9_at rmX9_at (hs_Pc B D E g [.ref (B + v0), .int v1]) (hs_Qi B D E o) (0) (0) (hs_F B) := by
  refine Met.ofW (cc := cX9_at) (maxL := 2) (ret := (some .int)) (by decide) rfl ?_
  intro p e s m args below meth c s₁ Bd hml hv
  obtain ⟨rfl, hP, hK⟩ := hv
  have hx := Bd.exec
  have hb := Bd.bytes
  have hr := Bd.returns
  have hts := atoms_spec (ws := wcX9_at) Bd.pre
  have hown : s.vm.findClass RX9 = some m.cls := findClass_of_methodNamed Bd.named
  have hlocks := Bd.notSynchronized
  have hS : hs_Sx B s.heap s.heap [] := va_S.rf
  have hX : hs_cx cX9_at (some .int) 2 RX9 wcX9_at p s m (List.toArray [.ref (B + v0), .int v1]) meth c D E := ⟨hx, hb, hr, hml, hown, hts, hlocks, hK⟩
  have hl := lv_entry ([.ref (B + v0), .int v1]) (n := 2) (Nat.le_of_ble_eq_true rfl)
  rw [lg_entry_eq]
  generalize (lg_sl ([.ref (B + v0), .int v1]) ++ List.replicate (2 - (lg_sl ([.ref (B + v0), .int v1])).length) Slot.unset).toArray = ls at hl ⊢
  have hl : lv_has ls 2 [(0, .ref (B + v0)), (1, .int v1)] := hl
  have hP : hs_P B D E g s.heap := hP
  unfold fX9_at at hf
  refine lv_iload_n hx hb dX9_at_0 rfl (lv_at hl 1 rfl) ?_
  refine lv_if_lt (tgt := 16) hx hb dX9_at_1 (by decide) (fun hc => ?_) (fun hc => ?_)
  · replace hf := hs_t hf hc
    refine lv_iconst (v := 0) hx hb dX9_at_16 (by decide) ?_
    exact hs_iret hx hb hr hlocks rfl hK hP hS hf dX9_at_17
  · replace hf := hs_f hf hc
    refine lv_iload_n hx hb dX9_at_4 rfl (lv_at hl 1 rfl) ?_
    refine lv_aload_n hx hb dX9_at_5 rfl (lv_at hl 0 rfl) ?_
    obtain ⟨h1, hf⟩ := hs_ck hf
    refine hs_alen (t := 0) hx hb hK.1 hP h1 (by decide) dX9_at_6 ?_
    refine lv_icmp_ge (tgt := 16) hx hb dX9_at_7 (by decide) (fun hc => ?_) (fun hc => ?_)
    · replace hf := hs_t hf hc
      refine lv_iconst (v := 0) hx hb dX9_at_16 (by decide) ?_
      exact hs_iret hx hb hr hlocks rfl hK hP hS hf dX9_at_17
    · replace hf := hs_f hf hc
      refine lv_aload_n hx hb dX9_at_10 rfl (lv_at hl 0 rfl) ?_
      refine lv_iload_n hx hb dX9_at_11 rfl (lv_at hl 1 rfl) ?_
      obtain ⟨h2, hf⟩ := hs_ck hf
      refine hs_iald hx hb hK.1 hP h1 h2 dX9_at_12 ?_
      refine lv_goto (tgt := 17) hx hb dX9_at_13 (by decide) ?_
      exact hs_iret hx hb hr hlocks rfl hK hP hS hf dX9_at_17

theorem dX0_valueAt_0 : decode cX0_valueAt 0 = .ok (.iload_n 1, 1) := by decide +kernel
theorem dX0_valueAt_1 : decode cX0_valueAt 1 = .ok (.aload_n 0, 1) := by decide +kernel
theorem dX0_valueAt_2 : decode cX0_valueAt 2 = .ok (.getfield 28, 3) := by decide +kernel
theorem dX0_valueAt_5 : decode cX0_valueAt 5 = .ok (.if_icmp .ge 18, 3) := by decide +kernel
theorem dX0_valueAt_8 : decode cX0_valueAt 8 = .ok (.aload_n 0, 1) := by decide +kernel
theorem dX0_valueAt_9 : decode cX0_valueAt 9 = .ok (.getfield 24, 3) := by decide +kernel
theorem dX0_valueAt_12 : decode cX0_valueAt 12 = .ok (.iload_n 1, 1) := by decide +kernel
theorem dX0_valueAt_13 : decode cX0_valueAt 13 = .ok (.invokestatic 45, 3) := by decide +kernel
theorem dX0_valueAt_16 : decode cX0_valueAt 16 = .ok (.sipush 255, 3) := by decide +kernel
theorem dX0_valueAt_19 : decode cX0_valueAt 19 = .ok (.iand, 1) := by decide +kernel
theorem dX0_valueAt_20 : decode cX0_valueAt 20 = .ok (.goto 4, 3) := by decide +kernel
theorem dX0_valueAt_23 : decode cX0_valueAt 23 = .ok (.iconst 0, 1) := by decide +kernel
theorem dX0_valueAt_24 : decode cX0_valueAt 24 = .ok (.ireturn, 1) := by decide +kernel
abbrev wcX0_valueAt : List Cond := .code yX0_valueAt cX0_valueAt 2 (some .int) :: wsL_law
def fX0_valueAt (v0 : Nat) (v1 : Int32) (g : hs_S) : Option (Int32 × hs_S) :=
  if hs_kd g v0 = 0 then
  if (hs_I g v0 3) ≤ v1 then (
    some ((0 : Int32), g)
  ) else (
    if ¬ (hs_R g v0 0) = 0 then
    hs_bd (fX9_at ((hs_R g v0 0) - 1) v1 g) fun r4 g3 =>
    some ((r4 &&& (255 : Int32)), g3)
    else none
  )
  else none
abbrev rmX0_valueAt : Room := { frames := 1, cells := 0, slots := 0, locals := 21 }
set_option maxHeartbeats 4000000 in
set_option maxRecDepth 100000 in
theorem ctX0_valueAt (l : Launch) (B : Nat) (D : va_G) (E : Nat → ClassId) (v0 : Nat) (v1 : Int32) (g : hs_S) (o : Int32 × hs_S) (hf : fX0_valueAt v0 v1 g = some o) : Met l yX0_valueAt wcX0_valueAt rmX0_valueAt (hs_Pc B D E g [.ref (B + v0), .int v1]) (hs_Qi B D E o) (0) (0) (hs_F B) := by
  refine Met.ofW (cc := cX0_valueAt) (maxL := 2) (ret := (some .int)) (by decide) rfl ?_
  intro p e s m args below meth c s₁ Bd hml hv
  obtain ⟨rfl, hP, hK⟩ := hv
  have hx := Bd.exec
  have hb := Bd.bytes
  have hr := Bd.returns
  have hts := atoms_spec (ws := wcX0_valueAt) Bd.pre
  have hown : s.vm.findClass RX0 = some m.cls := findClass_of_methodNamed Bd.named
  have hlocks := Bd.notSynchronized
  have hS : hs_Sx B s.heap s.heap [] := va_S.rf
  have hX : hs_cx cX0_valueAt (some .int) 2 RX0 wcX0_valueAt p s m (List.toArray [.ref (B + v0), .int v1]) meth c D E := ⟨hx, hb, hr, hml, hown, hts, hlocks, hK⟩
  have hl := lv_entry ([.ref (B + v0), .int v1]) (n := 2) (Nat.le_of_ble_eq_true rfl)
  rw [lg_entry_eq]
  generalize (lg_sl ([.ref (B + v0), .int v1]) ++ List.replicate (2 - (lg_sl ([.ref (B + v0), .int v1])).length) Slot.unset).toArray = ls at hl ⊢
  have hl : lv_has ls 2 [(0, .ref (B + v0)), (1, .int v1)] := hl
  have hP : hs_P B D E g s.heap := hP
  unfold fX0_valueAt at hf
  refine lv_iload_n hx hb dX0_valueAt_0 rfl (lv_at hl 1 rfl) ?_
  refine lv_aload_n hx hb dX0_valueAt_1 rfl (lv_at hl 0 rfl) ?_
  obtain ⟨h1, hf⟩ := hs_ck hf
  refine hs_geti (C := RX0) (T := TX0) (N := 5) hx hb hts (fun w h => List.mem_cons_of_mem _ (inlX0 w h)) hown hK.1 hP h1 (by decide) rfl 3 (by decide) (hts _ (List.mem_cons_of_mem _ wq170)) (fun _ h => h) rfl dX0_valueAt_2 ?_
  refine lv_icmp_ge (tgt := 23) hx hb dX0_valueAt_5 (by decide) (fun hc => ?_) (fun hc => ?_)
  · replace hf := hs_t hf hc
    refine lv_iconst (v := 0) hx hb dX0_valueAt_23 (by decide) ?_
    exact hs_iret hx hb hr hlocks rfl hK hP hS hf dX0_valueAt_24
  · replace hf := hs_f hf hc
    refine lv_aload_n hx hb dX0_valueAt_8 rfl (lv_at hl 0 rfl) ?_
    obtain ⟨h2, hf⟩ := hs_ck hf
    refine hs_getr (C := RX0) (T := TX0) (N := 5) hx hb hts (fun w h => List.mem_cons_of_mem _ (inlX0 w h)) hown hK.1 hP h1 (by decide) rfl 0 (by decide) (hts _ (List.mem_cons_of_mem _ wq46)) (fun _ h => h) rfl h2 dX0_valueAt_9 ?_
    refine lv_iload_n hx hb dX0_valueAt_12 rfl (lv_at hl 1 rfl) ?_
    obtain ⟨r4, g3, h5, hf⟩ := hs_bd_some hf
    refine hs_calli (va_runS (As := [.ref (B + ((hs_R g v0 0) - 1)), .int v1]) (rest := []) ⟨hx, hb, hml, hown, hts⟩ (ctX9_at l B D E ((hs_R g v0 0) - 1) v1 g _ h5) (va_cwS 2 hts (hs_gS (fun _ h => List.mem_cons_of_mem _ h) wq192 wq193 wq68 wq194) rfl rfl rfl (by decide +kernel) ⟨Nat.le_of_ble_eq_true rfl, Nat.le_of_ble_eq_true rfl⟩) (hs_pre hP hK) rfl rfl hl.1 rfl (lv_room (Nat.le_of_ble_eq_true rfl)) dX0_valueAt_13 ⟨(Nat.le_of_ble_eq_true rfl), (Nat.le_of_ble_eq_true rfl)⟩) hS (fun H locs hP hS => ?_)
    refine lv_sipush (v := 255) hx hb dX0_valueAt_16 (by decide) ?_
    refine lv_iand hx hb dX0_valueAt_19 ?_
    refine lv_goto (tgt := 24) hx hb dX0_valueAt_20 (by decide) ?_
    exact hs_iret hx hb hr hlocks rfl hK hP hS hf dX0_valueAt_24

theorem dX7_empty_0 : decode cX7_empty 0 = .ok (.aload_n 0, 1) := by decide +kernel
theorem dX7_empty_1 : decode cX7_empty 1 = .ok (.iconst 0, 1) := by decide +kernel
theorem dX7_empty_2 : decode cX7_empty 2 = .ok (.putfield 18, 3) := by decide +kernel
theorem dX7_empty_5 : decode cX7_empty 5 = .ok (.aload_n 0, 1) := by decide +kernel
theorem dX7_empty_6 : decode cX7_empty 6 = .ok (.iconst 0, 1) := by decide +kernel
theorem dX7_empty_7 : decode cX7_empty 7 = .ok (.putfield 22, 3) := by decide +kernel
theorem dX7_empty_10 : decode cX7_empty 10 = .ok (.aload_n 0, 1) := by decide +kernel
theorem dX7_empty_11 : decode cX7_empty 11 = .ok (.iconst 0, 1) := by decide +kernel
theorem dX7_empty_12 : decode cX7_empty 12 = .ok (.putfield 25, 3) := by decide +kernel
theorem dX7_empty_15 : decode cX7_empty 15 = .ok (.aload_n 0, 1) := by decide +kernel
theorem dX7_empty_16 : decode cX7_empty 16 = .ok (.iconst 0, 1) := by decide +kernel
theorem dX7_empty_17 : decode cX7_empty 17 = .ok (.putfield 28, 3) := by decide +kernel
theorem dX7_empty_20 : decode cX7_empty 20 = .ok (.aload_n 0, 1) := by decide +kernel
theorem dX7_empty_21 : decode cX7_empty 21 = .ok (.iconst 0, 1) := by decide +kernel
theorem dX7_empty_22 : decode cX7_empty 22 = .ok (.putfield 31, 3) := by decide +kernel
theorem dX7_empty_25 : decode cX7_empty 25 = .ok (.aload_n 0, 1) := by decide +kernel
theorem dX7_empty_26 : decode cX7_empty 26 = .ok (.iconst 0, 1) := by decide +kernel
theorem dX7_empty_27 : decode cX7_empty 27 = .ok (.putfield 34, 3) := by decide +kernel
theorem dX7_empty_30 : decode cX7_empty 30 = .ok (.aload_n 0, 1) := by decide +kernel
theorem dX7_empty_31 : decode cX7_empty 31 = .ok (.iconst 0, 1) := by decide +kernel
theorem dX7_empty_32 : decode cX7_empty 32 = .ok (.putfield 37, 3) := by decide +kernel
theorem dX7_empty_35 : decode cX7_empty 35 = .ok (.aload_n 0, 1) := by decide +kernel
theorem dX7_empty_36 : decode cX7_empty 36 = .ok (.iconst 0, 1) := by decide +kernel
theorem dX7_empty_37 : decode cX7_empty 37 = .ok (.putfield 40, 3) := by decide +kernel
theorem dX7_empty_40 : decode cX7_empty 40 = .ok (.aload_n 0, 1) := by decide +kernel
theorem dX7_empty_41 : decode cX7_empty 41 = .ok (.iconst 0, 1) := by decide +kernel
theorem dX7_empty_42 : decode cX7_empty 42 = .ok (.putfield 43, 3) := by decide +kernel
theorem dX7_empty_45 : decode cX7_empty 45 = .ok (.return_, 1) := by decide +kernel
abbrev wcX7_empty : List Cond := .code yX7_empty cX7_empty 1 none :: wsL_law
def fX7_empty (v0 : Nat) (g : hs_S) : Option (hs_S) :=
  if hs_kd g v0 = 6 then
  hs_bv (some (hs_wI (hs_wI (hs_wI (hs_wI g v0 2 (0 : Int32)) v0 3 (0 : Int32)) v0 4 (0 : Int32)) v0 5 (0 : Int32))) fun g2 =>
  hs_bv (some (hs_wI (hs_wI (hs_wI (hs_wI g2 v0 6 (0 : Int32)) v0 7 (0 : Int32)) v0 8 (0 : Int32)) v0 9 (0 : Int32))) fun g5 =>
  some (hs_wI g5 v0 10 (0 : Int32))
  else none
abbrev rmX7_empty : Room := { frames := 0, cells := 0, slots := 0, locals := 0 }
set_option maxHeartbeats 4000000 in
set_option maxRecDepth 100000 in
theorem ctX7_empty (l : Launch) (B : Nat) (D : va_G) (E : Nat → ClassId) (v0 : Nat) (g : hs_S) (o : hs_S) (hf : fX7_empty v0 g = some o) : Met l yX7_empty wcX7_empty rmX7_empty (hs_Pc B D E g [.ref (B + v0)]) (hs_Qv B D E o) (0) (0) (hs_F B) := by
  refine Met.ofW (cc := cX7_empty) (maxL := 1) (ret := none) (by decide) rfl ?_
  intro p e s m args below meth c s₁ Bd hml hv
  obtain ⟨rfl, hP, hK⟩ := hv
  have hx := Bd.exec
  have hb := Bd.bytes
  have hr := Bd.returns
  have hts := atoms_spec (ws := wcX7_empty) Bd.pre
  have hown : s.vm.findClass RX7 = some m.cls := findClass_of_methodNamed Bd.named
  have hlocks := Bd.notSynchronized
  have hS : hs_Sx B s.heap s.heap [] := va_S.rf
  have hX : hs_cx cX7_empty none 1 RX7 wcX7_empty p s m (List.toArray [.ref (B + v0)]) meth c D E := ⟨hx, hb, hr, hml, hown, hts, hlocks, hK⟩
  have hl := lv_entry ([.ref (B + v0)]) (n := 1) (Nat.le_of_ble_eq_true rfl)
  rw [lg_entry_eq]
  generalize (lg_sl ([.ref (B + v0)]) ++ List.replicate (1 - (lg_sl ([.ref (B + v0)])).length) Slot.unset).toArray = ls at hl ⊢
  have hl : lv_has ls 1 [(0, .ref (B + v0))] := hl
  have hP : hs_P B D E g s.heap := hP
  unfold fX7_empty at hf
  refine lv_aload_n hx hb dX7_empty_0 rfl (lv_at hl 0 rfl) ?_
  refine lv_iconst (v := 0) hx hb dX7_empty_1 (by decide) ?_
  obtain ⟨h1, hf⟩ := hs_ck hf
  refine hs_puti (C := RX7) (T := TX7) (N := 11) hx hb hts (fun w h => List.mem_cons_of_mem _ (inlX7 w h)) tyX7 tyX7_ok nmX7 hown hK.1 hP hS h1 (by decide) rfl 2 (by decide) (hts _ (List.mem_cons_of_mem _ wq204)) (fun _ h => h) (Or.inl rfl) rfl rfl rfl dX7_empty_2 (fun H locs hP hS => ?_)
  refine lv_aload_n hx hb dX7_empty_5 rfl (lv_at hl 0 rfl) ?_
  refine lv_iconst (v := 0) hx hb dX7_empty_6 (by decide) ?_
  refine hs_puti (C := RX7) (T := TX7) (N := 11) hx hb hts (fun w h => List.mem_cons_of_mem _ (inlX7 w h)) tyX7 tyX7_ok nmX7 hown hK.1 hP hS h1 (by decide) rfl 3 (by decide) (hts _ (List.mem_cons_of_mem _ wq205)) (fun _ h => h) (Or.inl rfl) rfl rfl rfl dX7_empty_7 (fun H locs hP hS => ?_)
  refine lv_aload_n hx hb dX7_empty_10 rfl (lv_at hl 0 rfl) ?_
  refine lv_iconst (v := 0) hx hb dX7_empty_11 (by decide) ?_
  refine hs_puti (C := RX7) (T := TX7) (N := 11) hx hb hts (fun w h => List.mem_cons_of_mem _ (inlX7 w h)) tyX7 tyX7_ok nmX7 hown hK.1 hP hS h1 (by decide) rfl 4 (by decide) (hts _ (List.mem_cons_of_mem _ wq206)) (fun _ h => h) (Or.inl rfl) rfl rfl rfl dX7_empty_12 (fun H locs hP hS => ?_)
  refine lv_aload_n hx hb dX7_empty_15 rfl (lv_at hl 0 rfl) ?_
  refine lv_iconst (v := 0) hx hb dX7_empty_16 (by decide) ?_
  refine hs_puti (C := RX7) (T := TX7) (N := 11) hx hb hts (fun w h => List.mem_cons_of_mem _ (inlX7 w h)) tyX7 tyX7_ok nmX7 hown hK.1 hP hS h1 (by decide) rfl 5 (by decide) (hts _ (List.mem_cons_of_mem _ wq207)) (fun _ h => h) (Or.inl rfl) rfl rfl rfl dX7_empty_17 (fun H locs hP hS => ?_)
  obtain ⟨g2, e3, hf⟩ := hs_bv_some hf
  replace e3 := Option.some.inj e3
  rw [e3] at hP
  have h4 : hs_kd g2 v0 = 6 := by rw [← e3]; exact h1
  refine lv_aload_n hx hb dX7_empty_20 rfl (lv_at hl 0 rfl) ?_
  refine lv_iconst (v := 0) hx hb dX7_empty_21 (by decide) ?_
  refine hs_puti (C := RX7) (T := TX7) (N := 11) hx hb hts (fun w h => List.mem_cons_of_mem _ (inlX7 w h)) tyX7 tyX7_ok nmX7 hown hK.1 hP hS h4 (by decide) rfl 6 (by decide) (hts _ (List.mem_cons_of_mem _ wq208)) (fun _ h => h) (Or.inl rfl) rfl rfl rfl dX7_empty_22 (fun H locs hP hS => ?_)
  refine lv_aload_n hx hb dX7_empty_25 rfl (lv_at hl 0 rfl) ?_
  refine lv_iconst (v := 0) hx hb dX7_empty_26 (by decide) ?_
  refine hs_puti (C := RX7) (T := TX7) (N := 11) hx hb hts (fun w h => List.mem_cons_of_mem _ (inlX7 w h)) tyX7 tyX7_ok nmX7 hown hK.1 hP hS h4 (by decide) rfl 7 (by decide) (hts _ (List.mem_cons_of_mem _ wq209)) (fun _ h => h) (Or.inl rfl) rfl rfl rfl dX7_empty_27 (fun H locs hP hS => ?_)
  refine lv_aload_n hx hb dX7_empty_30 rfl (lv_at hl 0 rfl) ?_
  refine lv_iconst (v := 0) hx hb dX7_empty_31 (by decide) ?_
  refine hs_puti (C := RX7) (T := TX7) (N := 11) hx hb hts (fun w h => List.mem_cons_of_mem _ (inlX7 w h)) tyX7 tyX7_ok nmX7 hown hK.1 hP hS h4 (by decide) rfl 8 (by decide) (hts _ (List.mem_cons_of_mem _ wq210)) (fun _ h => h) (Or.inl rfl) rfl rfl rfl dX7_empty_32 (fun H locs hP hS => ?_)
  refine lv_aload_n hx hb dX7_empty_35 rfl (lv_at hl 0 rfl) ?_
  refine lv_iconst (v := 0) hx hb dX7_empty_36 (by decide) ?_
  refine hs_puti (C := RX7) (T := TX7) (N := 11) hx hb hts (fun w h => List.mem_cons_of_mem _ (inlX7 w h)) tyX7 tyX7_ok nmX7 hown hK.1 hP hS h4 (by decide) rfl 9 (by decide) (hts _ (List.mem_cons_of_mem _ wq211)) (fun _ h => h) (Or.inl rfl) rfl rfl rfl dX7_empty_37 (fun H locs hP hS => ?_)
  obtain ⟨g5, e6, hf⟩ := hs_bv_some hf
  replace e6 := Option.some.inj e6
  rw [e6] at hP
  have h7 : hs_kd g5 v0 = 6 := by rw [← e6]; exact h4
  refine lv_aload_n hx hb dX7_empty_40 rfl (lv_at hl 0 rfl) ?_
  refine lv_iconst (v := 0) hx hb dX7_empty_41 (by decide) ?_
  refine hs_puti (C := RX7) (T := TX7) (N := 11) hx hb hts (fun w h => List.mem_cons_of_mem _ (inlX7 w h)) tyX7 tyX7_ok nmX7 hown hK.1 hP hS h7 (by decide) rfl 10 (by decide) (hts _ (List.mem_cons_of_mem _ wq212)) (fun _ h => h) (Or.inl rfl) rfl rfl rfl dX7_empty_42 (fun H locs hP hS => ?_)
  exact hs_vret hx hb hr hlocks hK hP hS hf dX7_empty_45

theorem dX0_pairAt_0 : decode cX0_pairAt 0 = .ok (.aload_n 0, 1) := by decide +kernel
theorem dX0_pairAt_1 : decode cX0_pairAt 1 = .ok (.iload_n 1, 1) := by decide +kernel
theorem dX0_pairAt_2 : decode cX0_pairAt 2 = .ok (.invokevirtual 49, 3) := by decide +kernel
theorem dX0_pairAt_5 : decode cX0_pairAt 5 = .ok (.bipush 8, 2) := by decide +kernel
theorem dX0_pairAt_7 : decode cX0_pairAt 7 = .ok (.ishl, 1) := by decide +kernel
theorem dX0_pairAt_8 : decode cX0_pairAt 8 = .ok (.aload_n 0, 1) := by decide +kernel
theorem dX0_pairAt_9 : decode cX0_pairAt 9 = .ok (.iload_n 1, 1) := by decide +kernel
theorem dX0_pairAt_10 : decode cX0_pairAt 10 = .ok (.iconst 1, 1) := by decide +kernel
theorem dX0_pairAt_11 : decode cX0_pairAt 11 = .ok (.iadd, 1) := by decide +kernel
theorem dX0_pairAt_12 : decode cX0_pairAt 12 = .ok (.invokevirtual 49, 3) := by decide +kernel
theorem dX0_pairAt_15 : decode cX0_pairAt 15 = .ok (.ior, 1) := by decide +kernel
theorem dX0_pairAt_16 : decode cX0_pairAt 16 = .ok (.ireturn, 1) := by decide +kernel
abbrev wcX0_pairAt : List Cond := .code yX0_pairAt cX0_pairAt 2 (some .int) :: wsL_law
def fX0_pairAt (v0 : Nat) (v1 : Int32) (g : hs_S) : Option (Int32 × hs_S) :=
  if hs_kd g v0 = 0 then
  hs_bd (fX0_valueAt v0 v1 g) fun r3 g2 =>
  if hs_kd g2 v0 = 0 then
  hs_bd (fX0_valueAt v0 (v1 + (1 : Int32)) g2) fun r7 g6 =>
  some (((r3 <<< ((8 : Int32) &&& 31)) ||| r7), g6)
  else none else none
abbrev rmX0_pairAt : Room := { frames := 2, cells := 0, slots := 0, locals := 42 }
set_option maxHeartbeats 4000000 in
set_option maxRecDepth 100000 in
theorem ctX0_pairAt (l : Launch) (B : Nat) (D : va_G) (E : Nat → ClassId) (v0 : Nat) (v1 : Int32) (g : hs_S) (o : Int32 × hs_S) (hf : fX0_pairAt v0 v1 g = some o) : Met l yX0_pairAt wcX0_pairAt rmX0_pairAt (hs_Pc B D E g [.ref (B + v0), .int v1]) (hs_Qi B D E o) (0) (0) (hs_F B) := by
  refine Met.ofW (cc := cX0_pairAt) (maxL := 2) (ret := (some .int)) (by decide) rfl ?_
  intro p e s m args below meth c s₁ Bd hml hv
  obtain ⟨rfl, hP, hK⟩ := hv
  have hx := Bd.exec
  have hb := Bd.bytes
  have hr := Bd.returns
  have hts := atoms_spec (ws := wcX0_pairAt) Bd.pre
  have hown : s.vm.findClass RX0 = some m.cls := findClass_of_methodNamed Bd.named
  have hlocks := Bd.notSynchronized
  have hS : hs_Sx B s.heap s.heap [] := va_S.rf
  have hX : hs_cx cX0_pairAt (some .int) 2 RX0 wcX0_pairAt p s m (List.toArray [.ref (B + v0), .int v1]) meth c D E := ⟨hx, hb, hr, hml, hown, hts, hlocks, hK⟩
  have hl := lv_entry ([.ref (B + v0), .int v1]) (n := 2) (Nat.le_of_ble_eq_true rfl)
  rw [lg_entry_eq]
  generalize (lg_sl ([.ref (B + v0), .int v1]) ++ List.replicate (2 - (lg_sl ([.ref (B + v0), .int v1])).length) Slot.unset).toArray = ls at hl ⊢
  have hl : lv_has ls 2 [(0, .ref (B + v0)), (1, .int v1)] := hl
  have hP : hs_P B D E g s.heap := hP
  unfold fX0_pairAt at hf
  refine lv_aload_n hx hb dX0_pairAt_0 rfl (lv_at hl 0 rfl) ?_
  refine lv_iload_n hx hb dX0_pairAt_1 rfl (lv_at hl 1 rfl) ?_
  obtain ⟨h1, hf⟩ := hs_ck hf
  obtain ⟨r3, g2, h4, hf⟩ := hs_bd_some hf
  refine hs_calli (va_runV (As := [.int v1]) (rest := []) ⟨hx, hb, hml, hown, hts⟩ (ctX0_valueAt l B D E v0 v1 g _ h4) (cwV 1 hts (hs_gV (fun _ h => List.mem_cons_of_mem _ h) wq225 wq189 wq190 wq15 wq191) rfl rfl rfl (by decide +kernel) ⟨Nat.le_of_ble_eq_true rfl, Nat.le_of_ble_eq_true rfl⟩) (hs_preV (r := (RX0, TX0, 5)) hP hK h1 (by decide) rfl) rfl rfl hl.1 rfl (lv_room (Nat.le_of_ble_eq_true rfl)) dX0_pairAt_2 ⟨(Nat.le_of_ble_eq_true rfl), (Nat.le_of_ble_eq_true rfl)⟩) hS (fun H locs hP hS => ?_)
  refine lv_bipush (v := 8) hx hb dX0_pairAt_5 (by decide) ?_
  refine lv_ishl hx hb dX0_pairAt_7 ?_
  refine lv_aload_n hx hb dX0_pairAt_8 rfl (lv_at hl 0 rfl) ?_
  refine lv_iload_n hx hb dX0_pairAt_9 rfl (lv_at hl 1 rfl) ?_
  refine lv_iconst (v := 1) hx hb dX0_pairAt_10 (by decide) ?_
  refine lv_iadd hx hb dX0_pairAt_11 ?_
  obtain ⟨h5, hf⟩ := hs_ck hf
  obtain ⟨r7, g6, h8, hf⟩ := hs_bd_some hf
  refine hs_calli (va_runV (As := [.int (v1 + (1 : Int32))]) (rest := [.int (r3 <<< ((8 : Int32) &&& 31))]) ⟨hx, hb, hml, hown, hts⟩ (ctX0_valueAt l B D E v0 (v1 + (1 : Int32)) g2 _ h8) (cwV 1 hts (hs_gV (fun _ h => List.mem_cons_of_mem _ h) wq225 wq189 wq190 wq15 wq191) rfl rfl rfl (by decide +kernel) ⟨Nat.le_of_ble_eq_true rfl, Nat.le_of_ble_eq_true rfl⟩) (hs_preV (r := (RX0, TX0, 5)) hP hK h5 (by decide) rfl) rfl rfl hl.1 rfl (lv_room (Nat.le_of_ble_eq_true rfl)) dX0_pairAt_12 ⟨(Nat.le_of_ble_eq_true rfl), (Nat.le_of_ble_eq_true rfl)⟩) hS (fun H locs hP hS => ?_)
  refine lv_ior hx hb dX0_pairAt_15 ?_
  exact hs_iret hx hb hr hlocks rfl hK hP hS hf dX0_pairAt_16

theorem dX2_handlerPlace_0 : decode cX2_handlerPlace 0 = .ok (.aload_n 1, 1) := by decide +kernel
theorem dX2_handlerPlace_1 : decode cX2_handlerPlace 1 = .ok (.getfield 56, 3) := by decide +kernel
theorem dX2_handlerPlace_4 : decode cX2_handlerPlace 4 = .ok (.aload_n 1, 1) := by decide +kernel
theorem dX2_handlerPlace_5 : decode cX2_handlerPlace 5 = .ok (.getfield 59, 3) := by decide +kernel
theorem dX2_handlerPlace_8 : decode cX2_handlerPlace 8 = .ok (.iadd, 1) := by decide +kernel
theorem dX2_handlerPlace_9 : decode cX2_handlerPlace 9 = .ok (.iconst 1, 1) := by decide +kernel
theorem dX2_handlerPlace_10 : decode cX2_handlerPlace 10 = .ok (.iadd, 1) := by decide +kernel
theorem dX2_handlerPlace_11 : decode cX2_handlerPlace 11 = .ok (.bipush 7, 2) := by decide +kernel
theorem dX2_handlerPlace_13 : decode cX2_handlerPlace 13 = .ok (.iload_n 2, 1) := by decide +kernel
theorem dX2_handlerPlace_14 : decode cX2_handlerPlace 14 = .ok (.imul, 1) := by decide +kernel
theorem dX2_handlerPlace_15 : decode cX2_handlerPlace 15 = .ok (.iadd, 1) := by decide +kernel
theorem dX2_handlerPlace_16 : decode cX2_handlerPlace 16 = .ok (.ireturn, 1) := by decide +kernel
abbrev wcX2_handlerPlace : List Cond := .code yX2_handlerPlace cX2_handlerPlace 3 (some .int) :: wsL_law
def fX2_handlerPlace (v0 : Nat) (v1 : Nat) (v2 : Int32) (g : hs_S) : Option (Int32 × hs_S) :=
  if hs_kd g v1 = 6 then
  some (((((hs_I g v1 2) + (hs_I g v1 3)) + (1 : Int32)) + ((7 : Int32) * v2)), g)
  else none
abbrev rmX2_handlerPlace : Room := { frames := 0, cells := 0, slots := 0, locals := 0 }
set_option maxHeartbeats 4000000 in
set_option maxRecDepth 100000 in
theorem ctX2_handlerPlace (l : Launch) (B : Nat) (D : va_G) (E : Nat → ClassId) (v0 : Nat) (v1 : Nat) (v2 : Int32) (g : hs_S) (o : Int32 × hs_S) (hf : fX2_handlerPlace v0 v1 v2 g = some o) : Met l yX2_handlerPlace wcX2_handlerPlace rmX2_handlerPlace (hs_Pc B D E g [.ref (B + v0), .ref (B + v1), .int v2]) (hs_Qi B D E o) (0) (0) (hs_F B) := by
  refine Met.ofW (cc := cX2_handlerPlace) (maxL := 3) (ret := (some .int)) (by decide) rfl ?_
  intro p e s m args below meth c s₁ Bd hml hv
  obtain ⟨rfl, hP, hK⟩ := hv
  have hx := Bd.exec
  have hb := Bd.bytes
  have hr := Bd.returns
  have hts := atoms_spec (ws := wcX2_handlerPlace) Bd.pre
  have hown : s.vm.findClass RX2 = some m.cls := findClass_of_methodNamed Bd.named
  have hlocks := Bd.notSynchronized
  have hS : hs_Sx B s.heap s.heap [] := va_S.rf
  have hX : hs_cx cX2_handlerPlace (some .int) 3 RX2 wcX2_handlerPlace p s m (List.toArray [.ref (B + v0), .ref (B + v1), .int v2]) meth c D E := ⟨hx, hb, hr, hml, hown, hts, hlocks, hK⟩
  have hl := lv_entry ([.ref (B + v0), .ref (B + v1), .int v2]) (n := 3) (Nat.le_of_ble_eq_true rfl)
  rw [lg_entry_eq]
  generalize (lg_sl ([.ref (B + v0), .ref (B + v1), .int v2]) ++ List.replicate (3 - (lg_sl ([.ref (B + v0), .ref (B + v1), .int v2])).length) Slot.unset).toArray = ls at hl ⊢
  have hl : lv_has ls 3 [(0, .ref (B + v0)), (1, .ref (B + v1)), (2, .int v2)] := hl
  have hP : hs_P B D E g s.heap := hP
  unfold fX2_handlerPlace at hf
  refine lv_aload_n hx hb dX2_handlerPlace_0 rfl (lv_at hl 1 rfl) ?_
  obtain ⟨h1, hf⟩ := hs_ck hf
  refine hs_geti (C := RX7) (T := TX7) (N := 11) hx hb hts (fun w h => List.mem_cons_of_mem _ (inlX7 w h)) hown hK.1 hP h1 (by decide) rfl 2 (by decide) (hts _ (List.mem_cons_of_mem _ wq220)) (fun _ h => h) rfl dX2_handlerPlace_1 ?_
  refine lv_aload_n hx hb dX2_handlerPlace_4 rfl (lv_at hl 1 rfl) ?_
  refine hs_geti (C := RX7) (T := TX7) (N := 11) hx hb hts (fun w h => List.mem_cons_of_mem _ (inlX7 w h)) hown hK.1 hP h1 (by decide) rfl 3 (by decide) (hts _ (List.mem_cons_of_mem _ wq219)) (fun _ h => h) rfl dX2_handlerPlace_5 ?_
  refine lv_iadd hx hb dX2_handlerPlace_8 ?_
  refine lv_iconst (v := 1) hx hb dX2_handlerPlace_9 (by decide) ?_
  refine lv_iadd hx hb dX2_handlerPlace_10 ?_
  refine lv_bipush (v := 7) hx hb dX2_handlerPlace_11 (by decide) ?_
  refine lv_iload_n hx hb dX2_handlerPlace_13 rfl (lv_at hl 2 rfl) ?_
  refine lv_imul hx hb dX2_handlerPlace_14 ?_
  refine lv_iadd hx hb dX2_handlerPlace_15 ?_
  exact hs_iret hx hb hr hlocks rfl hK hP hS hf dX2_handlerPlace_16

theorem dX2_endOf_0 : decode cX2_endOf 0 = .ok (.aload_n 0, 1) := by decide +kernel
theorem dX2_endOf_1 : decode cX2_endOf 1 = .ok (.aload_n 1, 1) := by decide +kernel
theorem dX2_endOf_2 : decode cX2_endOf 2 = .ok (.aload_n 1, 1) := by decide +kernel
theorem dX2_endOf_3 : decode cX2_endOf 3 = .ok (.getfield 47, 3) := by decide +kernel
theorem dX2_endOf_6 : decode cX2_endOf 6 = .ok (.invokevirtual 52, 3) := by decide +kernel
theorem dX2_endOf_9 : decode cX2_endOf 9 = .ok (.ireturn, 1) := by decide +kernel
abbrev wcX2_endOf : List Cond := .code yX2_endOf cX2_endOf 2 (some .int) :: wsL_law
def fX2_endOf (v0 : Nat) (v1 : Nat) (g : hs_S) : Option (Int32 × hs_S) :=
  if hs_kd g v1 = 6 then
  if hs_kd g v0 = 2 then
  hs_bd (fX2_handlerPlace v0 v1 (hs_I g v1 6) g) fun r4 g3 =>
  some (r4, g3)
  else none else none
abbrev rmX2_endOf : Room := { frames := 1, cells := 0, slots := 0, locals := 22 }
set_option maxHeartbeats 4000000 in
set_option maxRecDepth 100000 in
theorem ctX2_endOf (l : Launch) (B : Nat) (D : va_G) (E : Nat → ClassId) (v0 : Nat) (v1 : Nat) (g : hs_S) (o : Int32 × hs_S) (hf : fX2_endOf v0 v1 g = some o) : Met l yX2_endOf wcX2_endOf rmX2_endOf (hs_Pc B D E g [.ref (B + v0), .ref (B + v1)]) (hs_Qi B D E o) (0) (0) (hs_F B) := by
  refine Met.ofW (cc := cX2_endOf) (maxL := 2) (ret := (some .int)) (by decide) rfl ?_
  intro p e s m args below meth c s₁ Bd hml hv
  obtain ⟨rfl, hP, hK⟩ := hv
  have hx := Bd.exec
  have hb := Bd.bytes
  have hr := Bd.returns
  have hts := atoms_spec (ws := wcX2_endOf) Bd.pre
  have hown : s.vm.findClass RX2 = some m.cls := findClass_of_methodNamed Bd.named
  have hlocks := Bd.notSynchronized
  have hS : hs_Sx B s.heap s.heap [] := va_S.rf
  have hX : hs_cx cX2_endOf (some .int) 2 RX2 wcX2_endOf p s m (List.toArray [.ref (B + v0), .ref (B + v1)]) meth c D E := ⟨hx, hb, hr, hml, hown, hts, hlocks, hK⟩
  have hl := lv_entry ([.ref (B + v0), .ref (B + v1)]) (n := 2) (Nat.le_of_ble_eq_true rfl)
  rw [lg_entry_eq]
  generalize (lg_sl ([.ref (B + v0), .ref (B + v1)]) ++ List.replicate (2 - (lg_sl ([.ref (B + v0), .ref (B + v1)])).length) Slot.unset).toArray = ls at hl ⊢
  have hl : lv_has ls 2 [(0, .ref (B + v0)), (1, .ref (B + v1))] := hl
  have hP : hs_P B D E g s.heap := hP
  unfold fX2_endOf at hf
  refine lv_aload_n hx hb dX2_endOf_0 rfl (lv_at hl 0 rfl) ?_
  refine lv_aload_n hx hb dX2_endOf_1 rfl (lv_at hl 1 rfl) ?_
  refine lv_aload_n hx hb dX2_endOf_2 rfl (lv_at hl 1 rfl) ?_
  obtain ⟨h1, hf⟩ := hs_ck hf
  refine hs_geti (C := RX7) (T := TX7) (N := 11) hx hb hts (fun w h => List.mem_cons_of_mem _ (inlX7 w h)) hown hK.1 hP h1 (by decide) rfl 6 (by decide) (hts _ (List.mem_cons_of_mem _ wq230)) (fun _ h => h) rfl dX2_endOf_3 ?_
  obtain ⟨h2, hf⟩ := hs_ck hf
  obtain ⟨r4, g3, h5, hf⟩ := hs_bd_some hf
  refine hs_calli (va_runV (As := [.ref (B + v1), .int (hs_I g v1 6)]) (rest := []) ⟨hx, hb, hml, hown, hts⟩ (ctX2_handlerPlace l B D E v0 v1 (hs_I g v1 6) g _ h5) (cwV 2 hts (hs_gV (fun _ h => List.mem_cons_of_mem _ h) wq235 wq236 wq237 wq26 wq238) rfl rfl rfl (by decide +kernel) ⟨Nat.le_of_ble_eq_true rfl, Nat.le_of_ble_eq_true rfl⟩) (hs_preV (r := (RX2, TX2, 1)) hP hK h2 (by decide) rfl) rfl rfl hl.1 rfl (lv_room (Nat.le_of_ble_eq_true rfl)) dX2_endOf_6 ⟨(Nat.le_of_ble_eq_true rfl), (Nat.le_of_ble_eq_true rfl)⟩) hS (fun H locs hP hS => ?_)
  exact hs_iret hx hb hr hlocks rfl hK hP hS hf dX2_endOf_9

