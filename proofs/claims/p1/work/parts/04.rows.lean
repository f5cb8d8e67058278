theorem dX9_at_0 : decode cX9_at 0 = .ok (.iload_n 1, 1) := by decide +kernel
theorem dX9_at_1 : decode cX9_at 1 = .ok (.ifCond .lt 15, 3) := by decide +kernel
theorem dX9_at_4 : decode cX9_at 4 = .ok (.iload_n 1, 1) := by decide +kernel
theorem dX9_at_5 : decode cX9_at 5 = .ok (.aload_n 0, 1) := by decide +kernel
theorem dX9_at_6 : decode cX9_at 6 = .ok (.arraylength, 1) := by decide +kernel
theorem dX9_at_7 : decode cX9_at 7 = .ok (.if_icmp .ge 9, 3) := by decide +kernel
theorem dX9_at_10 : decode cX9_at 10 = .ok (.aload_n 0, 1) := by decide +kernel
theorem dX9_at_11 : decode cX9_at 11 = .ok (.iload_n 1, 1) := by decide +kernel
theorem dX9_at_12 : decode cX9_at 12 = .ok (.iaload, 1) := by decide +kernel
theorem dX9_at_13 : decode cX9_at 13 = .ok (.goto 4, 3) := by decide +kernel
theorem dX9_at_16 : decode cX9_at 16 = .ok (.iconst 0, 1) := by decide +kernel
theorem dX9_at_17 : decode cX9_at 17 = .ok (.ireturn, 1) := by decide +kernel
abbrev wcX9_at : List Cond := .code yX9_at cX9_at 2 (some .int) :: wsL_law
def fX9_at (v0 : Nat) (v1 : Int32) (g : hs_S) : Option (Int32 × hs_S) :=
  if v1 < 0 then (
    some ((0 : Int32), g)
  ) else (
    if hs_kd g v0 = 100 then
    if (Int32.ofNat (hs_ln g v0)) ≤ v1 then (
      some ((0 : Int32), g)
    ) else (
      if hs_in v1 (hs_ln g v0) = true then
      some ((hs_I g v0 v1.toNatClampNeg), g)
      else none
    )
    else none
  )
abbrev rmX9_at : Room := { frames := 0, cells := 0, slots := 0, locals := 0 }
set_option maxHeartbeats 4000000 in
set_option maxRecDepth 100000 in
theorem ctX9_at (l : Launch) (B : Nat) (D : va_G) (E : Nat → ClassId) (v0 : Nat) (v1 : Int32) (g : hs_S) (o : Int32 × hs_S) (hf : fX9_at v0 v1 g = some o) : Met l yX9_at wcX9_at rmX9_at (hs_Pc B D E g [.ref (B + v0), .int v1]) (hs_Qi B D E o) (0) (0) (hs_F B) := by
  refine Met.ofW (cc := cX9_at) (maxL := 2) (ret := (some .int)) (by decide) rfl ?_
  intro p e s m args below meth c s₁ Bd hml hv
  obtain ⟨rfl, hP, hK⟩ := hv
  have hx := Bd.exec
  have hb := Bd.bytes
  have hr := Bd.returns
  have hts := atoms_spec (ws := wcX9_at) Bd.pre
  have hown : s.vm.findClass RX9 = some m.cls := findClass_of_methodNamed Bd.named
  have hlocks := Bd.notSynchronized
  have hS : hs_Sx B s.heap s.heap [] := va_S.rf
  have hX : hs_cx cX9_at (some .int) 2 RX9 wcX9_at p s m (List.toArray [.ref (B + v0), .int v1]) meth c D E := ⟨hx, hb, hr, hml, hown, hts, hlocks, hK⟩
  have hl := lv_entry ([.ref (B + v0), .int v1]) (n := 2) (Nat.le_of_ble_eq_true rfl)
  rw [lg_entry_eq]
  generalize (lg_sl ([.ref (B + v0), .int v1]) ++ List.replicate (2 - (lg_sl ([.ref (B + v0), .int v1])).length) Slot.unset).toArray = ls at hl ⊢
  have hl : lv_has ls 2 [(0, .ref (B + v0)), (1, .int v1)] := hl
  have hP : hs_P B D E g s.heap := hP
  unfold fX9_at at hf
  refine lv_iload_n hx hb dX9_at_0 rfl (lv_at hl 1 rfl) ?_
  refine lv_if_lt (tgt := 16) hx hb dX9_at_1 (by decide) (fun hc => ?_) (fun hc => ?_)
  · replace hf := hs_t hf hc
    refine lv_iconst (v := 0) hx hb dX9_at_16 (by decide) ?_
    exact hs_iret hx hb hr hlocks rfl hK hP hS hf dX9_at_17
  · replace hf := hs_f hf hc
    refine lv_iload_n hx hb dX9_at_4 rfl (lv_at hl 1 rfl) ?_
    refine lv_aload_n hx hb dX9_at_5 rfl (lv_at hl 0 rfl) ?_
    obtain ⟨h1, hf⟩ := hs_ck hf
    refine hs_alen (t := 0) hx hb hK.1 hP h1 (by decide) dX9_at_6 ?_
    refine lv_icmp_ge (tgt := 16) hx hb dX9_at_7 (by decide) (fun hc => ?_) (fun hc => ?_)
    · replace hf := hs_t hf hc
      refine lv_iconst (v := 0) hx hb dX9_at_16 (by decide) ?_
      exact hs_iret hx hb hr hlocks rfl hK hP hS hf dX9_at_17
    · replace hf := hs_f hf hc
      refine lv_aload_n hx hb dX9_at_10 rfl (lv_at hl 0 rfl) ?_
      refine lv_iload_n hx hb dX9_at_11 rfl (lv_at hl 1 rfl) ?_
      obtain ⟨h2, hf⟩ := hs_ck hf
      refine hs_iald hx hb hK.1 hP h1 h2 dX9_at_12 ?_
      refine lv_goto (tgt := 17) hx hb dX9_at_13 (by decide) ?_
      exact hs_iret hx hb hr hlocks rfl hK hP hS hf dX9_at_17

theorem dX9_put_0 : decode cX9_put 0 = .ok (.iload_n 1, 1) := by decide +kernel
theorem dX9_put_1 : decode cX9_put 1 = .ok (.ifCond .lt 13, 3) := by decide +kernel
theorem dX9_put_4 : decode cX9_put 4 = .ok (.iload_n 1, 1) := by decide +kernel
theorem dX9_put_5 : decode cX9_put 5 = .ok (.aload_n 0, 1) := by decide +kernel
theorem dX9_put_6 : decode cX9_put 6 = .ok (.arraylength, 1) := by decide +kernel
theorem dX9_put_7 : decode cX9_put 7 = .ok (.if_icmp .ge 7, 3) := by decide +kernel
theorem dX9_put_10 : decode cX9_put 10 = .ok (.aload_n 0, 1) := by decide +kernel
theorem dX9_put_11 : decode cX9_put 11 = .ok (.iload_n 1, 1) := by decide +kernel
theorem dX9_put_12 : decode cX9_put 12 = .ok (.iload_n 2, 1) := by decide +kernel
theorem dX9_put_13 : decode cX9_put 13 = .ok (.iastore, 1) := by decide +kernel
theorem dX9_put_14 : decode cX9_put 14 = .ok (.return_, 1) := by decide +kernel
abbrev wcX9_put : List Cond := .code yX9_put cX9_put 3 none :: wsL_law
def fX9_put (v0 : Nat) (v1 : Int32) (v2 : Int32) (g : hs_S) : Option (hs_S) :=
  if v1 < 0 then (
    some g
  ) else (
    if hs_kd g v0 = 100 then
    if (Int32.ofNat (hs_ln g v0)) ≤ v1 then (
      some g
    ) else (
      if hs_in v1 (hs_ln g v0) = true then
      some (hs_wI g v0 v1.toNatClampNeg v2)
      else none
    )
    else none
  )
abbrev rmX9_put : Room := { frames := 0, cells := 0, slots := 0, locals := 0 }
set_option maxHeartbeats 4000000 in
set_option maxRecDepth 100000 in
theorem ctX9_put (l : Launch) (B : Nat) (D : va_G) (E : Nat → ClassId) (v0 : Nat) (v1 : Int32) (v2 : Int32) (g : hs_S) (o : hs_S) (hf : fX9_put v0 v1 v2 g = some o) : Met l yX9_put wcX9_put rmX9_put (hs_Pc B D E g [.ref (B + v0), .int v1, .int v2]) (hs_Qv B D E o) (0) (0) (hs_F B) := by
  refine Met.ofW (cc := cX9_put) (maxL := 3) (ret := none) (by decide) rfl ?_
  intro p e s m args below meth c s₁ Bd hml hv
  obtain ⟨rfl, hP, hK⟩ := hv
  have hx := Bd.exec
  have hb := Bd.bytes
  have hr := Bd.returns
  have hts := atoms_spec (ws := wcX9_put) Bd.pre
  have hown : s.vm.findClass RX9 = some m.cls := findClass_of_methodNamed Bd.named
  have hlocks := Bd.notSynchronized
  have hS : hs_Sx B s.heap s.heap [] := va_S.rf
  have hX : hs_cx cX9_put none 3 RX9 wcX9_put p s m (List.toArray [.ref (B + v0), .int v1, .int v2]) meth c D E := ⟨hx, hb, hr, hml, hown, hts, hlocks, hK⟩
  have hl := lv_entry ([.ref (B + v0), .int v1, .int v2]) (n := 3) (Nat.le_of_ble_eq_true rfl)
  rw [lg_entry_eq]
  generalize (lg_sl ([.ref (B + v0), .int v1, .int v2]) ++ List.replicate (3 - (lg_sl ([.ref (B + v0), .int v1, .int v2])).length) Slot.unset).toArray = ls at hl ⊢
  have hl : lv_has ls 3 [(0, .ref (B + v0)), (1, .int v1), (2, .int v2)] := hl
  have hP : hs_P B D E g s.heap := hP
  unfold fX9_put at hf
  refine lv_iload_n hx hb dX9_put_0 rfl (lv_at hl 1 rfl) ?_
  refine lv_if_lt (tgt := 14) hx hb dX9_put_1 (by decide) (fun hc => ?_) (fun hc => ?_)
  · replace hf := hs_t hf hc
    exact hs_vret hx hb hr hlocks hK hP hS hf dX9_put_14
  · replace hf := hs_f hf hc
    refine lv_iload_n hx hb dX9_put_4 rfl (lv_at hl 1 rfl) ?_
    refine lv_aload_n hx hb dX9_put_5 rfl (lv_at hl 0 rfl) ?_
    obtain ⟨h1, hf⟩ := hs_ck hf
    refine hs_alen (t := 0) hx hb hK.1 hP h1 (by decide) dX9_put_6 ?_
    refine lv_icmp_ge (tgt := 14) hx hb dX9_put_7 (by decide) (fun hc => ?_) (fun hc => ?_)
    · replace hf := hs_t hf hc
      exact hs_vret hx hb hr hlocks hK hP hS hf dX9_put_14
    · replace hf := hs_f hf hc
      refine lv_aload_n hx hb dX9_put_10 rfl (lv_at hl 0 rfl) ?_
      refine lv_iload_n hx hb dX9_put_11 rfl (lv_at hl 1 rfl) ?_
      refine lv_iload_n hx hb dX9_put_12 rfl (lv_at hl 2 rfl) ?_
      obtain ⟨h2, hf⟩ := hs_ck hf
      refine hs_iast hx hb hK.1 hP hS h1 h2 dX9_put_13 (fun H locs hP hS => ?_)
      exact hs_vret hx hb hr hlocks hK hP hS hf dX9_put_14

theorem dJ7_fill_53178_0 : decode cJ7_fill_53178 0 = .ok (.iconst 0, 1) := by decide +kernel
theorem dJ7_fill_53178_1 : decode cJ7_fill_53178 1 = .ok (.istore_n 2, 1) := by decide +kernel
theorem dJ7_fill_53178_2 : decode cJ7_fill_53178 2 = .ok (.aload_n 0, 1) := by decide +kernel
theorem dJ7_fill_53178_3 : decode cJ7_fill_53178 3 = .ok (.arraylength, 1) := by decide +kernel
theorem dJ7_fill_53178_4 : decode cJ7_fill_53178 4 = .ok (.istore_n 3, 1) := by decide +kernel
theorem dJ7_fill_53178_5 : decode cJ7_fill_53178 5 = .ok (.iload_n 2, 1) := by decide +kernel
theorem dJ7_fill_53178_6 : decode cJ7_fill_53178 6 = .ok (.iload_n 3, 1) := by decide +kernel
theorem dJ7_fill_53178_7 : decode cJ7_fill_53178 7 = .ok (.if_icmp .ge 13, 3) := by decide +kernel
theorem dJ7_fill_53178_10 : decode cJ7_fill_53178 10 = .ok (.aload_n 0, 1) := by decide +kernel
theorem dJ7_fill_53178_11 : decode cJ7_fill_53178 11 = .ok (.iload_n 2, 1) := by decide +kernel
theorem dJ7_fill_53178_12 : decode cJ7_fill_53178 12 = .ok (.iload_n 1, 1) := by decide +kernel
theorem dJ7_fill_53178_13 : decode cJ7_fill_53178 13 = .ok (.iastore, 1) := by decide +kernel
theorem dJ7_fill_53178_14 : decode cJ7_fill_53178 14 = .ok (.iinc 2 1, 3) := by decide +kernel
theorem dJ7_fill_53178_17 : decode cJ7_fill_53178 17 = .ok (.goto (-12), 3) := by decide +kernel
theorem dJ7_fill_53178_20 : decode cJ7_fill_53178 20 = .ok (.return_, 1) := by decide +kernel
abbrev wcJ7_fill_53178 : List Cond := .code yJ7_fill_53178 cJ7_fill_53178 4 none :: wsL_law
def lJ7_fill_53178_5 : Nat → Nat → Int32 → Int32 → Int32 → hs_S → Option (hs_S)
  | 0, _, _, _, _, _ => none
  | n + 1, v0, v1, v2, v3, g =>
    if v3 ≤ v2 then (
      some g
    ) else (
      if hs_kd g v0 = 100 then
      if hs_in v2 (hs_ln g v0) = true then
      lJ7_fill_53178_5 n v0 v1 (v2 + (1 : Int32)) v3 (hs_wI g v0 v2.toNatClampNeg v1)
      else none else none
    )
theorem lJ7_fill_53178_5_s (n : Nat) (v0 : Nat) (v1 : Int32) (v2 : Int32) (v3 : Int32) (g : hs_S) : lJ7_fill_53178_5 (n + 1) v0 v1 v2 v3 g =
    if v3 ≤ v2 then (
      some g
    ) else (
      if hs_kd g v0 = 100 then
      if hs_in v2 (hs_ln g v0) = true then
      lJ7_fill_53178_5 n v0 v1 (v2 + (1 : Int32)) v3 (hs_wI g v0 v2.toNatClampNeg v1)
      else none else none
    ) := rfl
def fJ7_fill_53178 (v0 : Nat) (v1 : Int32) (g : hs_S) : Option (hs_S) :=
  if hs_kd g v0 = 100 then
  hs_bv (lJ7_fill_53178_5 hs_N v0 v1 (0 : Int32) (Int32.ofNat (hs_ln g v0)) g) fun g5 =>
  some g5
  else none
abbrev rmJ7_fill_53178 : Room := { frames := 0, cells := 0, slots := 0, locals := 0 }
set_option maxHeartbeats 4000000 in
set_option maxRecDepth 100000 in
theorem wJ7_fill_53178_5 {p : Program} {l : Launch} {e : Env} {s : State} {m : MethodId} {args : Array Value} {below : List Frame} {meth : Method} {c : Code} {B : Nat} {D : va_G} {E : Nat → ClassId} (hX : hs_cx cJ7_fill_53178 none 4 RJ7 wcJ7_fill_53178 p s m args meth c D E) {Q : State → Prop} {o : hs_S} {v0 : Nat} {v1 : Int32} {v3 : Int32} (hex0 : ∀ (H : Heap) (locs : List Loc) (ls : Array Slot), hs_P B D E (o) H → hs_Sx B s.heap H locs → lv_has ls 4 [] → W p l e rmJ7_fill_53178 s m args below meth c H locs 0 0 Q (F0 m 20 ls [])) : ∀ (n : Nat) (v2 : Int32) (g : hs_S), lJ7_fill_53178_5 n v0 v1 v2 v3 g = some o → ∀ (H : Heap) (locs : List Loc) (ls : Array Slot), hs_P B D E g H → hs_Sx B s.heap H locs → lv_has ls 4 [(0, .ref (B + v0)), (1, .int v1), (2, .int v2), (3, .int v3)] → W p l e rmJ7_fill_53178 s m args below meth c H locs 0 0 Q (F0 m 5 ls []) := by
  obtain ⟨hx, hb, hr, hml, hown, hts, hlocks, hK⟩ := id hX
  intro n
  induction n with
  | zero =>
    intro v2 g hf
    cases hf
  | succ n ih =>
    intro v2 g hf H locs ls hP hS hl
    replace hf := (lJ7_fill_53178_5_s n v0 v1 v2 v3 g).symm.trans hf
    refine lv_iload_n hx hb dJ7_fill_53178_5 rfl (lv_at hl 2 rfl) ?_
    refine lv_iload_n hx hb dJ7_fill_53178_6 rfl (lv_at hl 3 rfl) ?_
    refine lv_icmp_ge (tgt := 20) hx hb dJ7_fill_53178_7 (by decide) (fun hc => ?_) (fun hc => ?_)
    · replace hf := hs_t hf hc
      obtain rfl := Option.some.inj hf
      exact hex0 _ _ _ hP hS (lv_sub hl [] rfl)
    · replace hf := hs_f hf hc
      refine lv_aload_n hx hb dJ7_fill_53178_10 rfl (lv_at hl 0 rfl) ?_
      refine lv_iload_n hx hb dJ7_fill_53178_11 rfl (lv_at hl 2 rfl) ?_
      refine lv_iload_n hx hb dJ7_fill_53178_12 rfl (lv_at hl 1 rfl) ?_
      obtain ⟨h2, hf⟩ := hs_ck hf
      obtain ⟨h3, hf⟩ := hs_ck hf
      refine hs_iast hx hb hK.1 hP hS h2 h3 dJ7_fill_53178_13 (fun H locs hP hS => ?_)
      refine lv_iinc (v := (v2 + (1 : Int32))) (lv' := [(2, .int (v2 + (1 : Int32))), (0, .ref (B + v0)), (1, .int v1), (3, .int v3)]) hx hb dJ7_fill_53178_14 hl (k := 2) rfl (by rfl) (by decide) rfl (fun ls hl => ?_)
      refine lv_goto (tgt := 5) hx hb dJ7_fill_53178_17 (by decide) ?_
      exact ih _ _ hf _ _ _ hP hS (lv_sub hl [1, 2, 0, 3] rfl)

set_option maxHeartbeats 4000000 in
set_option maxRecDepth 100000 in
theorem ctJ7_fill_53178 (l : Launch) (B : Nat) (D : va_G) (E : Nat → ClassId) (v0 : Nat) (v1 : Int32) (g : hs_S) (o : hs_S) (hf : fJ7_fill_53178 v0 v1 g = some o) : Met l yJ7_fill_53178 wcJ7_fill_53178 rmJ7_fill_53178 (hs_Pc B D E g [.ref (B + v0), .int v1]) (hs_Qv B D E o) (0) (0) (hs_F B) := by
  refine Met.ofW (cc := cJ7_fill_53178) (maxL := 4) (ret := none) (by decide) rfl ?_
  intro p e s m args below meth c s₁ Bd hml hv
  obtain ⟨rfl, hP, hK⟩ := hv
  have hx := Bd.exec
  have hb := Bd.bytes
  have hr := Bd.returns
  have hts := atoms_spec (ws := wcJ7_fill_53178) Bd.pre
  have hown : s.vm.findClass RJ7 = some m.cls := findClass_of_methodNamed Bd.named
  have hlocks := Bd.notSynchronized
  have hS : hs_Sx B s.heap s.heap [] := va_S.rf
  have hX : hs_cx cJ7_fill_53178 none 4 RJ7 wcJ7_fill_53178 p s m (List.toArray [.ref (B + v0), .int v1]) meth c D E := ⟨hx, hb, hr, hml, hown, hts, hlocks, hK⟩
  have hl := lv_entry ([.ref (B + v0), .int v1]) (n := 4) (Nat.le_of_ble_eq_true rfl)
  rw [lg_entry_eq]
  generalize (lg_sl ([.ref (B + v0), .int v1]) ++ List.replicate (4 - (lg_sl ([.ref (B + v0), .int v1])).length) Slot.unset).toArray = ls at hl ⊢
  have hl : lv_has ls 4 [(0, .ref (B + v0)), (1, .int v1)] := hl
  have hP : hs_P B D E g s.heap := hP
  unfold fJ7_fill_53178 at hf
  refine lv_iconst (v := 0) hx hb dJ7_fill_53178_0 (by decide) ?_
  refine lv_istore_n (lv' := [(2, .int (0 : Int32)), (0, .ref (B + v0)), (1, .int v1)]) hx hb dJ7_fill_53178_1 rfl hl (by decide) rfl (fun ls hl => ?_)
  refine lv_aload_n hx hb dJ7_fill_53178_2 rfl (lv_at hl 1 rfl) ?_
  obtain ⟨h1, hf⟩ := hs_ck hf
  refine hs_alen (t := 0) hx hb hK.1 hP h1 (by decide) dJ7_fill_53178_3 ?_
  refine lv_istore_n (lv' := [(3, .int (Int32.ofNat (hs_ln g v0))), (2, .int (0 : Int32)), (0, .ref (B + v0)), (1, .int v1)]) hx hb dJ7_fill_53178_4 rfl hl (by decide) rfl (fun ls hl => ?_)
  obtain ⟨g5, h6, hf⟩ := hs_bv_some hf
  refine wJ7_fill_53178_5 hX (fun H locs ls hP hS hl => ?_) hs_N _ _ h6 _ _ _ hP hS (lv_sub hl [2, 3, 1, 0] rfl)
  exact hs_vret hx hb hr hlocks hK hP hS hf dJ7_fill_53178_20

theorem dX4_isOfTwo_0 : decode cX4_isOfTwo 0 = .ok (.iload_n 0, 1) := by decide +kernel
theorem dX4_isOfTwo_1 : decode cX4_isOfTwo 1 = .ok (.lookupswitch 77 #[(96, 75), (100, 75), (104, 75), (108, 75), (112, 75), (126, 75), (128, 75), (130, 75)], 75) := by decide +kernel
theorem dX4_isOfTwo_76 : decode cX4_isOfTwo 76 = .ok (.iconst 1, 1) := by decide +kernel
theorem dX4_isOfTwo_77 : decode cX4_isOfTwo 77 = .ok (.ireturn, 1) := by decide +kernel
theorem dX4_isOfTwo_78 : decode cX4_isOfTwo 78 = .ok (.iconst 0, 1) := by decide +kernel
theorem dX4_isOfTwo_79 : decode cX4_isOfTwo 79 = .ok (.ireturn, 1) := by decide +kernel
abbrev wcX4_isOfTwo : List Cond := .code yX4_isOfTwo cX4_isOfTwo 1 (some .boolean) :: wsL_law
def fX4_isOfTwo (v0 : Int32) (g : hs_S) : Option (Int32 × hs_S) :=
  if v0 = (96 : Int32) then (
    some ((1 : Int32), g)
  ) else (
  if v0 = (100 : Int32) then (
    some ((1 : Int32), g)
  ) else (
  if v0 = (104 : Int32) then (
    some ((1 : Int32), g)
  ) else (
  if v0 = (108 : Int32) then (
    some ((1 : Int32), g)
  ) else (
  if v0 = (112 : Int32) then (
    some ((1 : Int32), g)
  ) else (
  if v0 = (126 : Int32) then (
    some ((1 : Int32), g)
  ) else (
  if v0 = (128 : Int32) then (
    some ((1 : Int32), g)
  ) else (
  if v0 = (130 : Int32) then (
    some ((1 : Int32), g)
  ) else (
    some ((0 : Int32), g)
  ))))))))
abbrev rmX4_isOfTwo : Room := { frames := 0, cells := 0, slots := 0, locals := 0 }
set_option maxHeartbeats 4000000 in
set_option maxRecDepth 100000 in
theorem ctX4_isOfTwo (l : Launch) (B : Nat) (D : va_G) (E : Nat → ClassId) (v0 : Int32) (g : hs_S) (o : Int32 × hs_S) (hf : fX4_isOfTwo v0 g = some o) : Met l yX4_isOfTwo wcX4_isOfTwo rmX4_isOfTwo (hs_Pc B D E g [.int v0]) (hs_Qi B D E o) (0) (0) (hs_F B) := by
  refine Met.ofW (cc := cX4_isOfTwo) (maxL := 1) (ret := (some .boolean)) (by decide) rfl ?_
  intro p e s m args below meth c s₁ Bd hml hv
  obtain ⟨rfl, hP, hK⟩ := hv
  have hx := Bd.exec
  have hb := Bd.bytes
  have hr := Bd.returns
  have hts := atoms_spec (ws := wcX4_isOfTwo) Bd.pre
  have hown : s.vm.findClass RX4 = some m.cls := findClass_of_methodNamed Bd.named
  have hlocks := Bd.notSynchronized
  have hS : hs_Sx B s.heap s.heap [] := va_S.rf
  have hX : hs_cx cX4_isOfTwo (some .boolean) 1 RX4 wcX4_isOfTwo p s m (List.toArray [.int v0]) meth c D E := ⟨hx, hb, hr, hml, hown, hts, hlocks, hK⟩
  have hl := lv_entry ([.int v0]) (n := 1) (Nat.le_of_ble_eq_true rfl)
  rw [lg_entry_eq]
  generalize (lg_sl ([.int v0]) ++ List.replicate (1 - (lg_sl ([.int v0])).length) Slot.unset).toArray = ls at hl ⊢
  have hl : lv_has ls 1 [(0, .int v0)] := hl
  have hP : hs_P B D E g s.heap := hP
  unfold fX4_isOfTwo at hf
  refine lv_iload_n hx hb dX4_isOfTwo_0 rfl (lv_at hl 0 rfl) ?_
  by_cases hc : v0 = (96 : Int32)
  · replace hf := hs_t hf hc
    refine lv_lookup (off := 75) (tgt := 76) hx hb dX4_isOfTwo_1 (by decide +kernel) (by rw [hc]; first | done | decide +kernel) (by decide) ?_
    refine lv_iconst (v := 1) hx hb dX4_isOfTwo_76 (by decide) ?_
    exact hs_iret hx hb hr hlocks (hs_01_nar (rfl)) hK hP hS hf dX4_isOfTwo_77
  have hn0 := hc
  replace hf := hs_f hf hc
  clear hc
  by_cases hc : v0 = (100 : Int32)
  · replace hf := hs_t hf hc
    refine lv_lookup (off := 75) (tgt := 76) hx hb dX4_isOfTwo_1 (by decide +kernel) (by rw [hc]; first | done | decide +kernel) (by decide) ?_
    refine lv_iconst (v := 1) hx hb dX4_isOfTwo_76 (by decide) ?_
    exact hs_iret hx hb hr hlocks (hs_01_nar (rfl)) hK hP hS hf dX4_isOfTwo_77
  have hn1 := hc
  replace hf := hs_f hf hc
  clear hc
  by_cases hc : v0 = (104 : Int32)
  · replace hf := hs_t hf hc
    refine lv_lookup (off := 75) (tgt := 76) hx hb dX4_isOfTwo_1 (by decide +kernel) (by rw [hc]; first | done | decide +kernel) (by decide) ?_
    refine lv_iconst (v := 1) hx hb dX4_isOfTwo_76 (by decide) ?_
    exact hs_iret hx hb hr hlocks (hs_01_nar (rfl)) hK hP hS hf dX4_isOfTwo_77
  have hn2 := hc
  replace hf := hs_f hf hc
  clear hc
  by_cases hc : v0 = (108 : Int32)
  · replace hf := hs_t hf hc
    refine lv_lookup (off := 75) (tgt := 76) hx hb dX4_isOfTwo_1 (by decide +kernel) (by rw [hc]; first | done | decide +kernel) (by decide) ?_
    refine lv_iconst (v := 1) hx hb dX4_isOfTwo_76 (by decide) ?_
    exact hs_iret hx hb hr hlocks (hs_01_nar (rfl)) hK hP hS hf dX4_isOfTwo_77
  have hn3 := hc
  replace hf := hs_f hf hc
  clear hc
  by_cases hc : v0 = (112 : Int32)
  · replace hf := hs_t hf hc
    refine lv_lookup (off := 75) (tgt := 76) hx hb dX4_isOfTwo_1 (by decide +kernel) (by rw [hc]; first | done | decide +kernel) (by decide) ?_
    refine lv_iconst (v := 1) hx hb dX4_isOfTwo_76 (by decide) ?_
    exact hs_iret hx hb hr hlocks (hs_01_nar (rfl)) hK hP hS hf dX4_isOfTwo_77
  have hn4 := hc
  replace hf := hs_f hf hc
  clear hc
  by_cases hc : v0 = (126 : Int32)
  · replace hf := hs_t hf hc
    refine lv_lookup (off := 75) (tgt := 76) hx hb dX4_isOfTwo_1 (by decide +kernel) (by rw [hc]; first | done | decide +kernel) (by decide) ?_
    refine lv_iconst (v := 1) hx hb dX4_isOfTwo_76 (by decide) ?_
    exact hs_iret hx hb hr hlocks (hs_01_nar (rfl)) hK hP hS hf dX4_isOfTwo_77
  have hn5 := hc
  replace hf := hs_f hf hc
  clear hc
  by_cases hc : v0 = (128 : Int32)
  · replace hf := hs_t hf hc
    refine lv_lookup (off := 75) (tgt := 76) hx hb dX4_isOfTwo_1 (by decide +kernel) (by rw [hc]; first | done | decide +kernel) (by decide) ?_
    refine lv_iconst (v := 1) hx hb dX4_isOfTwo_76 (by decide) ?_
    exact hs_iret hx hb hr hlocks (hs_01_nar (rfl)) hK hP hS hf dX4_isOfTwo_77
  have hn6 := hc
  replace hf := hs_f hf hc
  clear hc
  by_cases hc : v0 = (130 : Int32)
  · replace hf := hs_t hf hc
    refine lv_lookup (off := 75) (tgt := 76) hx hb dX4_isOfTwo_1 (by decide +kernel) (by rw [hc]; first | done | decide +kernel) (by decide) ?_
    refine lv_iconst (v := 1) hx hb dX4_isOfTwo_76 (by decide) ?_
    exact hs_iret hx hb hr hlocks (hs_01_nar (rfl)) hK hP hS hf dX4_isOfTwo_77
  have hn7 := hc
  replace hf := hs_f hf hc
  clear hc
  refine lv_lookup (off := 77) (tgt := 78) hx hb dX4_isOfTwo_1 (by decide +kernel) (by simp only [Array.toList]; rw [lv_osw (a := 96) hn0 rfl, lv_osw (a := 100) hn1 rfl, lv_osw (a := 104) hn2 rfl, lv_osw (a := 108) hn3 rfl, lv_osw (a := 112) hn4 rfl, lv_osw (a := 126) hn5 rfl, lv_osw (a := 128) hn6 rfl, lv_osw (a := 130) hn7 rfl]; first | done | rfl) (by decide) ?_
  refine lv_iconst (v := 0) hx hb dX4_isOfTwo_78 (by decide) ?_
  exact hs_iret hx hb hr hlocks (hs_01_nar (rfl)) hK hP hS hf dX4_isOfTwo_79

theorem dX4_isBranch_0 : decode cX4_isBranch 0 = .ok (.iload_n 0, 1) := by decide +kernel
theorem dX4_isBranch_1 : decode cX4_isBranch 1 = .ok (.sipush 153, 3) := by decide +kernel
theorem dX4_isBranch_4 : decode cX4_isBranch 4 = .ok (.if_icmp .lt 14, 3) := by decide +kernel
theorem dX4_isBranch_7 : decode cX4_isBranch 7 = .ok (.iload_n 0, 1) := by decide +kernel
theorem dX4_isBranch_8 : decode cX4_isBranch 8 = .ok (.sipush 158, 3) := by decide +kernel
theorem dX4_isBranch_11 : decode cX4_isBranch 11 = .ok (.if_icmp .gt 7, 3) := by decide +kernel
theorem dX4_isBranch_14 : decode cX4_isBranch 14 = .ok (.iconst 1, 1) := by decide +kernel
theorem dX4_isBranch_15 : decode cX4_isBranch 15 = .ok (.goto 4, 3) := by decide +kernel
theorem dX4_isBranch_18 : decode cX4_isBranch 18 = .ok (.iconst 0, 1) := by decide +kernel
theorem dX4_isBranch_19 : decode cX4_isBranch 19 = .ok (.ireturn, 1) := by decide +kernel
abbrev wcX4_isBranch : List Cond := .code yX4_isBranch cX4_isBranch 1 (some .boolean) :: wsL_law
def fX4_isBranch (v0 : Int32) (g : hs_S) : Option (Int32 × hs_S) :=
  if v0 < (153 : Int32) then (
    some ((0 : Int32), g)
  ) else (
    if (158 : Int32) < v0 then (
      some ((0 : Int32), g)
    ) else (
      some ((1 : Int32), g)
    )
  )
abbrev rmX4_isBranch : Room := { frames := 0, cells := 0, slots := 0, locals := 0 }
set_option maxHeartbeats 4000000 in
set_option maxRecDepth 100000 in
theorem ctX4_isBranch (l : Launch) (B : Nat) (D : va_G) (E : Nat → ClassId) (v0 : Int32) (g : hs_S) (o : Int32 × hs_S) (hf : fX4_isBranch v0 g = some o) : Met l yX4_isBranch wcX4_isBranch rmX4_isBranch (hs_Pc B D E g [.int v0]) (hs_Qi B D E o) (0) (0) (hs_F B) := by
  refine Met.ofW (cc := cX4_isBranch) (maxL := 1) (ret := (some .boolean)) (by decide) rfl ?_
  intro p e s m args below meth c s₁ Bd hml hv
  obtain ⟨rfl, hP, hK⟩ := hv
  have hx := Bd.exec
  have hb := Bd.bytes
  have hr := Bd.returns
  have hts := atoms_spec (ws := wcX4_isBranch) Bd.pre
  have hown : s.vm.findClass RX4 = some m.cls := findClass_of_methodNamed Bd.named
  have hlocks := Bd.notSynchronized
  have hS : hs_Sx B s.heap s.heap [] := va_S.rf
  have hX : hs_cx cX4_isBranch (some .boolean) 1 RX4 wcX4_isBranch p s m (List.toArray [.int v0]) meth c D E := ⟨hx, hb, hr, hml, hown, hts, hlocks, hK⟩
  have hl := lv_entry ([.int v0]) (n := 1) (Nat.le_of_ble_eq_true rfl)
  rw [lg_entry_eq]
  generalize (lg_sl ([.int v0]) ++ List.replicate (1 - (lg_sl ([.int v0])).length) Slot.unset).toArray = ls at hl ⊢
  have hl : lv_has ls 1 [(0, .int v0)] := hl
  have hP : hs_P B D E g s.heap := hP
  unfold fX4_isBranch at hf
  refine lv_iload_n hx hb dX4_isBranch_0 rfl (lv_at hl 0 rfl) ?_
  refine lv_sipush (v := 153) hx hb dX4_isBranch_1 (by decide) ?_
  refine lv_icmp_lt (tgt := 18) hx hb dX4_isBranch_4 (by decide) (fun hc => ?_) (fun hc => ?_)
  · replace hf := hs_t hf hc
    refine lv_iconst (v := 0) hx hb dX4_isBranch_18 (by decide) ?_
    exact hs_iret hx hb hr hlocks (hs_01_nar (rfl)) hK hP hS hf dX4_isBranch_19
  · replace hf := hs_f hf hc
    refine lv_iload_n hx hb dX4_isBranch_7 rfl (lv_at hl 0 rfl) ?_
    refine lv_sipush (v := 158) hx hb dX4_isBranch_8 (by decide) ?_
    refine lv_icmp_gt (tgt := 18) hx hb dX4_isBranch_11 (by decide) (fun hc => ?_) (fun hc => ?_)
    · replace hf := hs_t hf hc
      refine lv_iconst (v := 0) hx hb dX4_isBranch_18 (by decide) ?_
      exact hs_iret hx hb hr hlocks (hs_01_nar (rfl)) hK hP hS hf dX4_isBranch_19
    · replace hf := hs_f hf hc
      refine lv_iconst (v := 1) hx hb dX4_isBranch_14 (by decide) ?_
      refine lv_goto (tgt := 19) hx hb dX4_isBranch_15 (by decide) ?_
      exact hs_iret hx hb hr hlocks (hs_01_nar (rfl)) hK hP hS hf dX4_isBranch_19

theorem dX4_isOfArray_0 : decode cX4_isOfArray 0 = .ok (.iload_n 0, 1) := by decide +kernel
theorem dX4_isOfArray_1 : decode cX4_isOfArray 1 = .ok (.sipush 188, 3) := by decide +kernel
theorem dX4_isOfArray_4 : decode cX4_isOfArray 4 = .ok (.if_icmp .eq 22, 3) := by decide +kernel
theorem dX4_isOfArray_7 : decode cX4_isOfArray 7 = .ok (.iload_n 0, 1) := by decide +kernel
theorem dX4_isOfArray_8 : decode cX4_isOfArray 8 = .ok (.sipush 190, 3) := by decide +kernel
theorem dX4_isOfArray_11 : decode cX4_isOfArray 11 = .ok (.if_icmp .eq 15, 3) := by decide +kernel
theorem dX4_isOfArray_14 : decode cX4_isOfArray 14 = .ok (.iload_n 0, 1) := by decide +kernel
theorem dX4_isOfArray_15 : decode cX4_isOfArray 15 = .ok (.bipush 46, 2) := by decide +kernel
theorem dX4_isOfArray_17 : decode cX4_isOfArray 17 = .ok (.if_icmp .eq 9, 3) := by decide +kernel
theorem dX4_isOfArray_20 : decode cX4_isOfArray 20 = .ok (.iload_n 0, 1) := by decide +kernel
theorem dX4_isOfArray_21 : decode cX4_isOfArray 21 = .ok (.bipush 79, 2) := by decide +kernel
theorem dX4_isOfArray_23 : decode cX4_isOfArray 23 = .ok (.if_icmp .ne 7, 3) := by decide +kernel
theorem dX4_isOfArray_26 : decode cX4_isOfArray 26 = .ok (.iconst 1, 1) := by decide +kernel
theorem dX4_isOfArray_27 : decode cX4_isOfArray 27 = .ok (.goto 4, 3) := by decide +kernel
theorem dX4_isOfArray_30 : decode cX4_isOfArray 30 = .ok (.iconst 0, 1) := by decide +kernel
theorem dX4_isOfArray_31 : decode cX4_isOfArray 31 = .ok (.ireturn, 1) := by decide +kernel
abbrev wcX4_isOfArray : List Cond := .code yX4_isOfArray cX4_isOfArray 1 (some .boolean) :: wsL_law
def jX4_isOfArray_26  (g : hs_S) : Option (Int32 × hs_S) :=
  some ((1 : Int32), g)
def fX4_isOfArray (v0 : Int32) (g : hs_S) : Option (Int32 × hs_S) :=
  if v0 = (188 : Int32) then (
    jX4_isOfArray_26 g
  ) else (
    if v0 = (190 : Int32) then (
      jX4_isOfArray_26 g
    ) else (
      if v0 = (46 : Int32) then (
        jX4_isOfArray_26 g
      ) else (
        if v0 = (79 : Int32) then (
          jX4_isOfArray_26 g
        ) else (
          some ((0 : Int32), g)
        )
      )
    )
  )
abbrev rmX4_isOfArray : Room := { frames := 0, cells := 0, slots := 0, locals := 0 }
set_option maxHeartbeats 4000000 in
set_option maxRecDepth 100000 in
theorem wX4_isOfArray_j26 {p : Program} {l : Launch} {e : Env} {s : State} {m : MethodId} {args : Array Value} {below : List Frame} {meth : Method} {c : Code} {B : Nat} {D : va_G} {E : Nat → ClassId} (hX : hs_cx cX4_isOfArray (some .boolean) 1 RX4 wcX4_isOfArray p s m args meth c D E) {o : Int32 × hs_S}     {g : hs_S} {H : Heap} {locs : List Loc} {ls : Array Slot} (hf : jX4_isOfArray_26  g = some o) (hP : hs_P B D E g H) (hS : hs_Sx B s.heap H locs) (hl : lv_has ls 1 []) : W p l e rmX4_isOfArray s m args below meth c H locs 0 0 (MQ below (hs_Qi B D E o) args s 0 0 (hs_F B)) (F0 m 26 ls []) := by
  obtain ⟨hx, hb, hr, hml, hown, hts, hlocks, hK⟩ := id hX
  unfold jX4_isOfArray_26 at hf
  refine lv_iconst (v := 1) hx hb dX4_isOfArray_26 (by decide) ?_
  refine lv_goto (tgt := 31) hx hb dX4_isOfArray_27 (by decide) ?_
  exact hs_iret hx hb hr hlocks (hs_01_nar (rfl)) hK hP hS hf dX4_isOfArray_31

set_option maxHeartbeats 4000000 in
set_option maxRecDepth 100000 in
theorem ctX4_isOfArray (l : Launch) (B : Nat) (D : va_G) (E : Nat → ClassId) (v0 : Int32) (g : hs_S) (o : Int32 × hs_S) (hf : fX4_isOfArray v0 g = some o) : Met l yX4_isOfArray wcX4_isOfArray rmX4_isOfArray (hs_Pc B D E g [.int v0]) (hs_Qi B D E o) (0) (0) (hs_F B) := by
  refine Met.ofW (cc := cX4_isOfArray) (maxL := 1) (ret := (some .boolean)) (by decide) rfl ?_
  intro p e s m args below meth c s₁ Bd hml hv
  obtain ⟨rfl, hP, hK⟩ := hv
  have hx := Bd.exec
  have hb := Bd.bytes
  have hr := Bd.returns
  have hts := atoms_spec (ws := wcX4_isOfArray) Bd.pre
  have hown : s.vm.findClass RX4 = some m.cls := findClass_of_methodNamed Bd.named
  have hlocks := Bd.notSynchronized
  have hS : hs_Sx B s.heap s.heap [] := va_S.rf
  have hX : hs_cx cX4_isOfArray (some .boolean) 1 RX4 wcX4_isOfArray p s m (List.toArray [.int v0]) meth c D E := ⟨hx, hb, hr, hml, hown, hts, hlocks, hK⟩
  have hl := lv_entry ([.int v0]) (n := 1) (Nat.le_of_ble_eq_true rfl)
  rw [lg_entry_eq]
  generalize (lg_sl ([.int v0]) ++ List.replicate (1 - (lg_sl ([.int v0])).length) Slot.unset).toArray = ls at hl ⊢
  have hl : lv_has ls 1 [(0, .int v0)] := hl
  have hP : hs_P B D E g s.heap := hP
  unfold fX4_isOfArray at hf
  refine lv_iload_n hx hb dX4_isOfArray_0 rfl (lv_at hl 0 rfl) ?_
  refine lv_sipush (v := 188) hx hb dX4_isOfArray_1 (by decide) ?_
  refine lv_icmp_eq (tgt := 26) hx hb dX4_isOfArray_4 (by decide) (fun hc => ?_) (fun hc => ?_)
  · replace hf := hs_t hf hc
    exact wX4_isOfArray_j26 hX hf hP hS (lv_sub hl [] rfl)
  · replace hf := hs_f hf hc
    refine lv_iload_n hx hb dX4_isOfArray_7 rfl (lv_at hl 0 rfl) ?_
    refine lv_sipush (v := 190) hx hb dX4_isOfArray_8 (by decide) ?_
    refine lv_icmp_eq (tgt := 26) hx hb dX4_isOfArray_11 (by decide) (fun hc => ?_) (fun hc => ?_)
    · replace hf := hs_t hf hc
      exact wX4_isOfArray_j26 hX hf hP hS (lv_sub hl [] rfl)
    · replace hf := hs_f hf hc
      refine lv_iload_n hx hb dX4_isOfArray_14 rfl (lv_at hl 0 rfl) ?_
      refine lv_bipush (v := 46) hx hb dX4_isOfArray_15 (by decide) ?_
      refine lv_icmp_eq (tgt := 26) hx hb dX4_isOfArray_17 (by decide) (fun hc => ?_) (fun hc => ?_)
      · replace hf := hs_t hf hc
        exact wX4_isOfArray_j26 hX hf hP hS (lv_sub hl [] rfl)
      · replace hf := hs_f hf hc
        refine lv_iload_n hx hb dX4_isOfArray_20 rfl (lv_at hl 0 rfl) ?_
        refine lv_bipush (v := 79) hx hb dX4_isOfArray_21 (by decide) ?_
        refine lv_icmp_ne (tgt := 30) hx hb dX4_isOfArray_23 (by decide) (fun hc => ?_) (fun hc => ?_)
        · replace hf := hs_f hf hc
          refine lv_iconst (v := 0) hx hb dX4_isOfArray_30 (by decide) ?_
          exact hs_iret hx hb hr hlocks (hs_01_nar (rfl)) hK hP hS hf dX4_isOfArray_31
        · replace hf := hs_t hf hc
          exact wX4_isOfArray_j26 hX hf hP hS (lv_sub hl [] rfl)

theorem dX4_sizeOf_0 : decode cX4_sizeOf 0 = .ok (.iload_n 0, 1) := by decide +kernel
theorem dX4_sizeOf_1 : decode cX4_sizeOf 1 = .ok (.lookupswitch 121 #[(0, 115), (16, 117), (17, 119), (21, 117), (54, 117), (87, 115), (89, 115), (116, 115), (167, 117), (168, 119), (172, 115), (184, 117), (191, 115)], 115) := by decide +kernel
theorem dX4_sizeOf_116 : decode cX4_sizeOf 116 = .ok (.iconst 1, 1) := by decide +kernel
theorem dX4_sizeOf_117 : decode cX4_sizeOf 117 = .ok (.ireturn, 1) := by decide +kernel
theorem dX4_sizeOf_118 : decode cX4_sizeOf 118 = .ok (.iconst 2, 1) := by decide +kernel
theorem dX4_sizeOf_119 : decode cX4_sizeOf 119 = .ok (.ireturn, 1) := by decide +kernel
theorem dX4_sizeOf_120 : decode cX4_sizeOf 120 = .ok (.iconst 3, 1) := by decide +kernel
theorem dX4_sizeOf_121 : decode cX4_sizeOf 121 = .ok (.ireturn, 1) := by decide +kernel
theorem dX4_sizeOf_122 : decode cX4_sizeOf 122 = .ok (.iload_n 0, 1) := by decide +kernel
theorem dX4_sizeOf_123 : decode cX4_sizeOf 123 = .ok (.invokestatic 7, 3) := by decide +kernel
theorem dX4_sizeOf_126 : decode cX4_sizeOf 126 = .ok (.ifCond .eq 7, 3) := by decide +kernel
theorem dX4_sizeOf_129 : decode cX4_sizeOf 129 = .ok (.iconst 1, 1) := by decide +kernel
theorem dX4_sizeOf_130 : decode cX4_sizeOf 130 = .ok (.goto 22, 3) := by decide +kernel
theorem dX4_sizeOf_133 : decode cX4_sizeOf 133 = .ok (.iload_n 0, 1) := by decide +kernel
theorem dX4_sizeOf_134 : decode cX4_sizeOf 134 = .ok (.invokestatic 13, 3) := by decide +kernel
theorem dX4_sizeOf_137 : decode cX4_sizeOf 137 = .ok (.ifCond .ne 10, 3) := by decide +kernel
theorem dX4_sizeOf_140 : decode cX4_sizeOf 140 = .ok (.iload_n 0, 1) := by decide +kernel
theorem dX4_sizeOf_141 : decode cX4_sizeOf 141 = .ok (.invokestatic 16, 3) := by decide +kernel
theorem dX4_sizeOf_144 : decode cX4_sizeOf 144 = .ok (.ifCond .eq 7, 3) := by decide +kernel
theorem dX4_sizeOf_147 : decode cX4_sizeOf 147 = .ok (.iconst 2, 1) := by decide +kernel
theorem dX4_sizeOf_148 : decode cX4_sizeOf 148 = .ok (.goto 4, 3) := by decide +kernel
theorem dX4_sizeOf_151 : decode cX4_sizeOf 151 = .ok (.iconst 0, 1) := by decide +kernel
theorem dX4_sizeOf_152 : decode cX4_sizeOf 152 = .ok (.ireturn, 1) := by decide +kernel
abbrev wcX4_sizeOf : List Cond := .code yX4_sizeOf cX4_sizeOf 1 (some .int) :: wsL_law
def jX4_sizeOf_147  (g : hs_S) : Option (Int32 × hs_S) :=
  some ((2 : Int32), g)
def fX4_sizeOf (v0 : Int32) (g : hs_S) : Option (Int32 × hs_S) :=
  if v0 = (0 : Int32) then (
    some ((1 : Int32), g)
  ) else (
  if v0 = (16 : Int32) then (
    some ((2 : Int32), g)
  ) else (
  if v0 = (17 : Int32) then (
    some ((3 : Int32), g)
  ) else (
  if v0 = (21 : Int32) then (
    some ((2 : Int32), g)
  ) else (
  if v0 = (54 : Int32) then (
    some ((2 : Int32), g)
  ) else (
  if v0 = (87 : Int32) then (
    some ((1 : Int32), g)
  ) else (
  if v0 = (89 : Int32) then (
    some ((1 : Int32), g)
  ) else (
  if v0 = (116 : Int32) then (
    some ((1 : Int32), g)
  ) else (
  if v0 = (167 : Int32) then (
    some ((2 : Int32), g)
  ) else (
  if v0 = (168 : Int32) then (
    some ((3 : Int32), g)
  ) else (
  if v0 = (172 : Int32) then (
    some ((1 : Int32), g)
  ) else (
  if v0 = (184 : Int32) then (
    some ((2 : Int32), g)
  ) else (
  if v0 = (191 : Int32) then (
    some ((1 : Int32), g)
  ) else (
    hs_bd (fX4_isOfTwo v0 g) fun r2 g1 =>
    if r2 = 0 then (
      hs_bd (fX4_isBranch v0 g1) fun r5 g4 =>
      if r5 = 0 then (
        hs_bd (fX4_isOfArray v0 g4) fun r8 g7 =>
        if r8 = 0 then (
          some ((0 : Int32), g7)
        ) else (
          jX4_sizeOf_147 g7
        )
      ) else (
        jX4_sizeOf_147 g4
      )
    ) else (
      some ((1 : Int32), g1)
    )
  )))))))))))))
abbrev rmX4_sizeOf : Room := { frames := 1, cells := 0, slots := 0, locals := 20 }
set_option maxHeartbeats 4000000 in
set_option maxRecDepth 100000 in
theorem wX4_sizeOf_j147 {p : Program} {l : Launch} {e : Env} {s : State} {m : MethodId} {args : Array Value} {below : List Frame} {meth : Method} {c : Code} {B : Nat} {D : va_G} {E : Nat → ClassId} (hX : hs_cx cX4_sizeOf (some .int) 1 RX4 wcX4_sizeOf p s m args meth c D E) {o : Int32 × hs_S}     {g : hs_S} {H : Heap} {locs : List Loc} {ls : Array Slot} (hf : jX4_sizeOf_147  g = some o) (hP : hs_P B D E g H) (hS : hs_Sx B s.heap H locs) (hl : lv_has ls 1 []) : W p l e rmX4_sizeOf s m args below meth c H locs 0 0 (MQ below (hs_Qi B D E o) args s 0 0 (hs_F B)) (F0 m 147 ls []) := by
  obtain ⟨hx, hb, hr, hml, hown, hts, hlocks, hK⟩ := id hX
  unfold jX4_sizeOf_147 at hf
  refine lv_iconst (v := 2) hx hb dX4_sizeOf_147 (by decide) ?_
  refine lv_goto (tgt := 152) hx hb dX4_sizeOf_148 (by decide) ?_
  exact hs_iret hx hb hr hlocks rfl hK hP hS hf dX4_sizeOf_152

set_option maxHeartbeats 4000000 in
set_option maxRecDepth 100000 in
theorem ctX4_sizeOf (l : Launch) (B : Nat) (D : va_G) (E : Nat → ClassId) (v0 : Int32) (g : hs_S) (o : Int32 × hs_S) (hf : fX4_sizeOf v0 g = some o) : Met l yX4_sizeOf wcX4_sizeOf rmX4_sizeOf (hs_Pc B D E g [.int v0]) (hs_Qi B D E o) (0) (0) (hs_F B) := by
  refine Met.ofW (cc := cX4_sizeOf) (maxL := 1) (ret := (some .int)) (by decide) rfl ?_
  intro p e s m args below meth c s₁ Bd hml hv
  obtain ⟨rfl, hP, hK⟩ := hv
  have hx := Bd.exec
  have hb := Bd.bytes
  have hr := Bd.returns
  have hts := atoms_spec (ws := wcX4_sizeOf) Bd.pre
  have hown : s.vm.findClass RX4 = some m.cls := findClass_of_methodNamed Bd.named
  have hlocks := Bd.notSynchronized
  have hS : hs_Sx B s.heap s.heap [] := va_S.rf
  have hX : hs_cx cX4_sizeOf (some .int) 1 RX4 wcX4_sizeOf p s m (List.toArray [.int v0]) meth c D E := ⟨hx, hb, hr, hml, hown, hts, hlocks, hK⟩
  have hl := lv_entry ([.int v0]) (n := 1) (Nat.le_of_ble_eq_true rfl)
  rw [lg_entry_eq]
  generalize (lg_sl ([.int v0]) ++ List.replicate (1 - (lg_sl ([.int v0])).length) Slot.unset).toArray = ls at hl ⊢
  have hl : lv_has ls 1 [(0, .int v0)] := hl
  have hP : hs_P B D E g s.heap := hP
  unfold fX4_sizeOf at hf
  refine lv_iload_n hx hb dX4_sizeOf_0 rfl (lv_at hl 0 rfl) ?_
  by_cases hc : v0 = (0 : Int32)
  · replace hf := hs_t hf hc
    refine lv_lookup (off := 115) (tgt := 116) hx hb dX4_sizeOf_1 (by decide +kernel) (by rw [hc]; first | done | decide +kernel) (by decide) ?_
    refine lv_iconst (v := 1) hx hb dX4_sizeOf_116 (by decide) ?_
    exact hs_iret hx hb hr hlocks rfl hK hP hS hf dX4_sizeOf_117
  have hn0 := hc
  replace hf := hs_f hf hc
  clear hc
  by_cases hc : v0 = (16 : Int32)
  · replace hf := hs_t hf hc
    refine lv_lookup (off := 117) (tgt := 118) hx hb dX4_sizeOf_1 (by decide +kernel) (by rw [hc]; first | done | decide +kernel) (by decide) ?_
    refine lv_iconst (v := 2) hx hb dX4_sizeOf_118 (by decide) ?_
    exact hs_iret hx hb hr hlocks rfl hK hP hS hf dX4_sizeOf_119
  have hn1 := hc
  replace hf := hs_f hf hc
  clear hc
  by_cases hc : v0 = (17 : Int32)
  · replace hf := hs_t hf hc
    refine lv_lookup (off := 119) (tgt := 120) hx hb dX4_sizeOf_1 (by decide +kernel) (by rw [hc]; first | done | decide +kernel) (by decide) ?_
    refine lv_iconst (v := 3) hx hb dX4_sizeOf_120 (by decide) ?_
    exact hs_iret hx hb hr hlocks rfl hK hP hS hf dX4_sizeOf_121
  have hn2 := hc
  replace hf := hs_f hf hc
  clear hc
  by_cases hc : v0 = (21 : Int32)
  · replace hf := hs_t hf hc
    refine lv_lookup (off := 117) (tgt := 118) hx hb dX4_sizeOf_1 (by decide +kernel) (by rw [hc]; first | done | decide +kernel) (by decide) ?_
    refine lv_iconst (v := 2) hx hb dX4_sizeOf_118 (by decide) ?_
    exact hs_iret hx hb hr hlocks rfl hK hP hS hf dX4_sizeOf_119
  have hn3 := hc
  replace hf := hs_f hf hc
  clear hc
  by_cases hc : v0 = (54 : Int32)
  · replace hf := hs_t hf hc
    refine lv_lookup (off := 117) (tgt := 118) hx hb dX4_sizeOf_1 (by decide +kernel) (by rw [hc]; first | done | decide +kernel) (by decide) ?_
    refine lv_iconst (v := 2) hx hb dX4_sizeOf_118 (by decide) ?_
    exact hs_iret hx hb hr hlocks rfl hK hP hS hf dX4_sizeOf_119
  have hn4 := hc
  replace hf := hs_f hf hc
  clear hc
  by_cases hc : v0 = (87 : Int32)
  · replace hf := hs_t hf hc
    refine lv_lookup (off := 115) (tgt := 116) hx hb dX4_sizeOf_1 (by decide +kernel) (by rw [hc]; first | done | decide +kernel) (by decide) ?_
    refine lv_iconst (v := 1) hx hb dX4_sizeOf_116 (by decide) ?_
    exact hs_iret hx hb hr hlocks rfl hK hP hS hf dX4_sizeOf_117
  have hn5 := hc
  replace hf := hs_f hf hc
  clear hc
  by_cases hc : v0 = (89 : Int32)
  · replace hf := hs_t hf hc
    refine lv_lookup (off := 115) (tgt := 116) hx hb dX4_sizeOf_1 (by decide +kernel) (by rw [hc]; first | done | decide +kernel) (by decide) ?_
    refine lv_iconst (v := 1) hx hb dX4_sizeOf_116 (by decide) ?_
    exact hs_iret hx hb hr hlocks rfl hK hP hS hf dX4_sizeOf_117
  have hn6 := hc
  replace hf := hs_f hf hc
  clear hc
  by_cases hc : v0 = (116 : Int32)
  · replace hf := hs_t hf hc
    refine lv_lookup (off := 115) (tgt := 116) hx hb dX4_sizeOf_1 (by decide +kernel) (by rw [hc]; first | done | decide +kernel) (by decide) ?_
    refine lv_iconst (v := 1) hx hb dX4_sizeOf_116 (by decide) ?_
    exact hs_iret hx hb hr hlocks rfl hK hP hS hf dX4_sizeOf_117
  have hn7 := hc
  replace hf := hs_f hf hc
  clear hc
  by_cases hc : v0 = (167 : Int32)
  · replace hf := hs_t hf hc
    refine lv_lookup (off := 117) (tgt := 118) hx hb dX4_sizeOf_1 (by decide +kernel) (by rw [hc]; first | done | decide +kernel) (by decide) ?_
    refine lv_iconst (v := 2) hx hb dX4_sizeOf_118 (by decide) ?_
    exact hs_iret hx hb hr hlocks rfl hK hP hS hf dX4_sizeOf_119
  have hn8 := hc
  replace hf := hs_f hf hc
  clear hc
  by_cases hc : v0 = (168 : Int32)
  · replace hf := hs_t hf hc
    refine lv_lookup (off := 119) (tgt := 120) hx hb dX4_sizeOf_1 (by decide +kernel) (by rw [hc]; first | done | decide +kernel) (by decide) ?_
    refine lv_iconst (v := 3) hx hb dX4_sizeOf_120 (by decide) ?_
    exact hs_iret hx hb hr hlocks rfl hK hP hS hf dX4_sizeOf_121
  have hn9 := hc
  replace hf := hs_f hf hc
  clear hc
  by_cases hc : v0 = (172 : Int32)
  · replace hf := hs_t hf hc
    refine lv_lookup (off := 115) (tgt := 116) hx hb dX4_sizeOf_1 (by decide +kernel) (by rw [hc]; first | done | decide +kernel) (by decide) ?_
    refine lv_iconst (v := 1) hx hb dX4_sizeOf_116 (by decide) ?_
    exact hs_iret hx hb hr hlocks rfl hK hP hS hf dX4_sizeOf_117
  have hn10 := hc
  replace hf := hs_f hf hc
  clear hc
  by_cases hc : v0 = (184 : Int32)
  · replace hf := hs_t hf hc
    refine lv_lookup (off := 117) (tgt := 118) hx hb dX4_sizeOf_1 (by decide +kernel) (by rw [hc]; first | done | decide +kernel) (by decide) ?_
    refine lv_iconst (v := 2) hx hb dX4_sizeOf_118 (by decide) ?_
    exact hs_iret hx hb hr hlocks rfl hK hP hS hf dX4_sizeOf_119
  have hn11 := hc
  replace hf := hs_f hf hc
  clear hc
  by_cases hc : v0 = (191 : Int32)
  · replace hf := hs_t hf hc
    refine lv_lookup (off := 115) (tgt := 116) hx hb dX4_sizeOf_1 (by decide +kernel) (by rw [hc]; first | done | decide +kernel) (by decide) ?_
    refine lv_iconst (v := 1) hx hb dX4_sizeOf_116 (by decide) ?_
    exact hs_iret hx hb hr hlocks rfl hK hP hS hf dX4_sizeOf_117
  have hn12 := hc
  replace hf := hs_f hf hc
  clear hc
  refine lv_lookup (off := 121) (tgt := 122) hx hb dX4_sizeOf_1 (by decide +kernel) (by simp only [Array.toList]; rw [lv_osw (a := 0) hn0 rfl, lv_osw (a := 16) hn1 rfl, lv_osw (a := 17) hn2 rfl, lv_osw (a := 21) hn3 rfl, lv_osw (a := 54) hn4 rfl, lv_osw (a := 87) hn5 rfl, lv_osw (a := 89) hn6 rfl, lv_osw (a := 116) hn7 rfl, lv_osw (a := 167) hn8 rfl, lv_osw (a := 168) hn9 rfl, lv_osw (a := 172) hn10 rfl, lv_osw (a := 184) hn11 rfl, lv_osw (a := 191) hn12 rfl]; first | done | rfl) (by decide) ?_
  refine lv_iload_n hx hb dX4_sizeOf_122 rfl (lv_at hl 0 rfl) ?_
  obtain ⟨r2, g1, h3, hf⟩ := hs_bd_some hf
  refine hs_calli (va_runS (As := [.int v0]) (rest := []) ⟨hx, hb, hml, hown, hts⟩ (ctX4_isOfTwo l B D E v0 g _ h3) (va_cwS 1 hts (hs_gS (fun _ h => List.mem_cons_of_mem _ h) wq260 wq261 wq258 wq262) rfl rfl rfl (by decide +kernel) ⟨Nat.le_of_ble_eq_true rfl, Nat.le_of_ble_eq_true rfl⟩) (hs_pre hP hK) rfl rfl hl.1 rfl (lv_room (Nat.le_of_ble_eq_true rfl)) dX4_sizeOf_123 ⟨(Nat.le_of_ble_eq_true rfl), (Nat.le_of_ble_eq_true rfl)⟩) hS (fun H locs hP hS => ?_)
  refine lv_if_eq (tgt := 133) hx hb dX4_sizeOf_126 (by decide) (fun hc => ?_) (fun hc => ?_)
  · replace hf := hs_t hf hc
    refine lv_iload_n hx hb dX4_sizeOf_133 rfl (lv_at hl 0 rfl) ?_
    obtain ⟨r5, g4, h6, hf⟩ := hs_bd_some hf
    refine hs_calli (va_runS (As := [.int v0]) (rest := []) ⟨hx, hb, hml, hown, hts⟩ (ctX4_isBranch l B D E v0 g1 _ h6) (va_cwS 1 hts (hs_gS (fun _ h => List.mem_cons_of_mem _ h) wq263 wq264 wq258 wq265) rfl rfl rfl (by decide +kernel) ⟨Nat.le_of_ble_eq_true rfl, Nat.le_of_ble_eq_true rfl⟩) (hs_pre hP hK) rfl rfl hl.1 rfl (lv_room (Nat.le_of_ble_eq_true rfl)) dX4_sizeOf_134 ⟨(Nat.le_of_ble_eq_true rfl), (Nat.le_of_ble_eq_true rfl)⟩) hS (fun H locs hP hS => ?_)
    refine lv_if_ne (tgt := 147) hx hb dX4_sizeOf_137 (by decide) (fun hc => ?_) (fun hc => ?_)
    · replace hf := hs_f hf hc
      exact wX4_sizeOf_j147 hX hf hP hS (lv_sub hl [] rfl)
    · replace hf := hs_t hf hc
      refine lv_iload_n hx hb dX4_sizeOf_140 rfl (lv_at hl 0 rfl) ?_
      obtain ⟨r8, g7, h9, hf⟩ := hs_bd_some hf
      refine hs_calli (va_runS (As := [.int v0]) (rest := []) ⟨hx, hb, hml, hown, hts⟩ (ctX4_isOfArray l B D E v0 g4 _ h9) (va_cwS 1 hts (hs_gS (fun _ h => List.mem_cons_of_mem _ h) wq266 wq267 wq258 wq268) rfl rfl rfl (by decide +kernel) ⟨Nat.le_of_ble_eq_true rfl, Nat.le_of_ble_eq_true rfl⟩) (hs_pre hP hK) rfl rfl hl.1 rfl (lv_room (Nat.le_of_ble_eq_true rfl)) dX4_sizeOf_141 ⟨(Nat.le_of_ble_eq_true rfl), (Nat.le_of_ble_eq_true rfl)⟩) hS (fun H locs hP hS => ?_)
      refine lv_if_eq (tgt := 151) hx hb dX4_sizeOf_144 (by decide) (fun hc => ?_) (fun hc => ?_)
      · replace hf := hs_t hf hc
        refine lv_iconst (v := 0) hx hb dX4_sizeOf_151 (by decide) ?_
        exact hs_iret hx hb hr hlocks rfl hK hP hS hf dX4_sizeOf_152
      · replace hf := hs_f hf hc
        exact wX4_sizeOf_j147 hX hf hP hS (lv_sub hl [] rfl)
  · replace hf := hs_f hf hc
    refine lv_iconst (v := 1) hx hb dX4_sizeOf_129 (by decide) ?_
    refine lv_goto (tgt := 152) hx hb dX4_sizeOf_130 (by decide) ?_
    exact hs_iret hx hb hr hlocks rfl hK hP hS hf dX4_sizeOf_152

