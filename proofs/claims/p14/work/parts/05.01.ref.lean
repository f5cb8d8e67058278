theorem dX12_begin_0 : decode cX12_begin 0 = .ok (.iconst 0, 1) := by decide +kernel
theorem dX12_begin_1 : decode cX12_begin 1 = .ok (.istore_n 1, 1) := by decide +kernel
theorem dX12_begin_2 : decode cX12_begin 2 = .ok (.iload_n 1, 1) := by decide +kernel
theorem dX12_begin_3 : decode cX12_begin 3 = .ok (.sipush 256, 3) := by decide +kernel
theorem dX12_begin_6 : decode cX12_begin 6 = .ok (.if_icmp .ge 27, 3) := by decide +kernel
theorem dX12_begin_9 : decode cX12_begin 9 = .ok (.aload_n 0, 1) := by decide +kernel
theorem dX12_begin_10 : decode cX12_begin 10 = .ok (.getfield 93, 3) := by decide +kernel
theorem dX12_begin_13 : decode cX12_begin 13 = .ok (.iload_n 1, 1) := by decide +kernel
theorem dX12_begin_14 : decode cX12_begin 14 = .ok (.iload_n 1, 1) := by decide +kernel
theorem dX12_begin_15 : decode cX12_begin 15 = .ok (.sipush 184, 3) := by decide +kernel
theorem dX12_begin_18 : decode cX12_begin 18 = .ok (.if_icmp .ne 7, 3) := by decide +kernel
theorem dX12_begin_21 : decode cX12_begin 21 = .ok (.iconst 5, 1) := by decide +kernel
theorem dX12_begin_22 : decode cX12_begin 22 = .ok (.goto 4, 3) := by decide +kernel
theorem dX12_begin_25 : decode cX12_begin 25 = .ok (.iconst 1, 1) := by decide +kernel
theorem dX12_begin_26 : decode cX12_begin 26 = .ok (.iastore, 1) := by decide +kernel
theorem dX12_begin_27 : decode cX12_begin 27 = .ok (.iinc 1 1, 3) := by decide +kernel
theorem dX12_begin_30 : decode cX12_begin 30 = .ok (.goto (-28), 3) := by decide +kernel
theorem dX12_begin_33 : decode cX12_begin 33 = .ok (.return_, 1) := by decide +kernel
abbrev wcX12_begin : List Cond := .code yX12_begin cX12_begin 2 none :: wsL_law
def jX12_begin_26 (rec : Int32 → hs_S → Option (hs_S)) (v0 : Nat) (v1 : Int32) (s0 : Int32) (s1 : Int32) (s2 : Nat) (g : hs_S) : Option (hs_S) :=
  if hs_kd g s2 = 100 then
  if hs_in s1 (hs_ln g s2) = true then
  rec (v1 + (1 : Int32)) (hs_wI g s2 s1.toNatClampNeg s0)
  else none else none
def lX12_begin_2 : Nat → Nat → Int32 → hs_S → Option (hs_S)
  | 0, _, _, _ => none
  | n + 1, v0, v1, g =>
    if (256 : Int32) ≤ v1 then (
      some g
    ) else (
      if hs_kd g v0 = 10 then
      if ¬ (hs_R g v0 32) = 0 then
      if v1 = (184 : Int32) then (
        jX12_begin_26 (fun y0 g => lX12_begin_2 n v0 y0 g) v0 v1 (5 : Int32) v1 ((hs_R g v0 32) - 1) g
      ) else (
        jX12_begin_26 (fun y0 g => lX12_begin_2 n v0 y0 g) v0 v1 (1 : Int32) v1 ((hs_R g v0 32) - 1) g
      )
      else none else none
    )
theorem lX12_begin_2_s (n : Nat) (v0 : Nat) (v1 : Int32) (g : hs_S) : lX12_begin_2 (n + 1) v0 v1 g =
    if (256 : Int32) ≤ v1 then (
      some g
    ) else (
      if hs_kd g v0 = 10 then
      if ¬ (hs_R g v0 32) = 0 then
      if v1 = (184 : Int32) then (
        jX12_begin_26 (fun y0 g => lX12_begin_2 n v0 y0 g) v0 v1 (5 : Int32) v1 ((hs_R g v0 32) - 1) g
      ) else (
        jX12_begin_26 (fun y0 g => lX12_begin_2 n v0 y0 g) v0 v1 (1 : Int32) v1 ((hs_R g v0 32) - 1) g
      )
      else none else none
    ) := rfl
def fX12_begin (v0 : Nat) (g : hs_S) : Option (hs_S) :=
  hs_bv (lX12_begin_2 hs_N v0 (0 : Int32) g) fun g6 =>
  some g6
abbrev rmX12_begin : Room := { frames := 0, cells := 0, slots := 0, locals := 0 }
set_option maxHeartbeats 4000000 in
set_option maxRecDepth 100000 in
theorem wX12_begin_j26 {p : Program} {l : Launch} {e : Env} {s : State} {m : MethodId} {args : Array Value} {below : List Frame} {meth : Method} {c : Code} {B : Nat} {D : va_G} {E : Nat → ClassId} (hX : hs_cx cX12_begin none 2 RX12 wcX12_begin p s m args meth c D E) {Q : State → Prop} {o : hs_S} {rec : Int32 → hs_S → Option (hs_S)} {v0 : Nat} {v1 : Int32} {s0 : Int32} {s1 : Int32} {s2 : Nat}  (hrec : ∀ (y0 : Int32) (g : hs_S) (H : Heap) (locs : List Loc) (ls : Array Slot), rec y0 g = some o → hs_P B D E g H → hs_Sx B s.heap H locs → lv_has ls 2 [(0, .ref (B + v0)), (1, .int y0)] → W p l e rmX12_begin s m args below meth c H locs 0 0 Q (F0 m 2 ls [])) (hex0 : ∀ (H : Heap) (locs : List Loc) (ls : Array Slot), hs_P B D E (o) H → hs_Sx B s.heap H locs → lv_has ls 2 [] → W p l e rmX12_begin s m args below meth c H locs 0 0 Q (F0 m 33 ls [])) {g : hs_S} {H : Heap} {locs : List Loc} {ls : Array Slot} (hf : jX12_begin_26 rec v0 v1 s0 s1 s2 g = some o) (hP : hs_P B D E g H) (hS : hs_Sx B s.heap H locs) (hl : lv_has ls 2 [(0, .ref (B + v0)), (1, .int v1)]) : W p l e rmX12_begin s m args below meth c H locs 0 0 Q (F0 m 26 ls [.int s0, .int s1, .ref (B + s2)]) := by
  obtain ⟨hx, hb, hr, hml, hown, hts, hlocks, hK⟩ := id hX
  unfold jX12_begin_26 at hf
  obtain ⟨h3, hf⟩ := hs_ck hf
  obtain ⟨h4, hf⟩ := hs_ck hf
  refine hs_iast hx hb hK.1 hP hS h3 h4 dX12_begin_26 (fun H locs hP hS => ?_)
  refine lv_iinc (v := (v1 + (1 : Int32))) (lv' := [(1, .int (v1 + (1 : Int32))), (0, .ref (B + v0))]) hx hb dX12_begin_27 hl (k := 1) rfl (by rfl) (by decide) rfl (fun ls hl => ?_)
  refine lv_goto (tgt := 2) hx hb dX12_begin_30 (by decide) ?_
  exact hrec _ _ _ _ _ hf hP hS (lv_sub hl [1, 0] rfl)

set_option maxHeartbeats 4000000 in
set_option maxRecDepth 100000 in
theorem wX12_begin_2 {p : Program} {l : Launch} {e : Env} {s : State} {m : MethodId} {args : Array Value} {below : List Frame} {meth : Method} {c : Code} {B : Nat} {D : va_G} {E : Nat → ClassId} (hX : hs_cx cX12_begin none 2 RX12 wcX12_begin p s m args meth c D E) {Q : State → Prop} {o : hs_S} {v0 : Nat} (hex0 : ∀ (H : Heap) (locs : List Loc) (ls : Array Slot), hs_P B D E (o) H → hs_Sx B s.heap H locs → lv_has ls 2 [] → W p l e rmX12_begin s m args below meth c H locs 0 0 Q (F0 m 33 ls [])) : ∀ (n : Nat) (v1 : Int32) (g : hs_S), lX12_begin_2 n v0 v1 g = some o → ∀ (H : Heap) (locs : List Loc) (ls : Array Slot), hs_P B D E g H → hs_Sx B s.heap H locs → lv_has ls 2 [(0, .ref (B + v0)), (1, .int v1)] → W p l e rmX12_begin s m args below meth c H locs 0 0 Q (F0 m 2 ls []) := by
  obtain ⟨hx, hb, hr, hml, hown, hts, hlocks, hK⟩ := id hX
  intro n
  induction n with
  | zero =>
    intro v1 g hf
    cases hf
  | succ n ih =>
    intro v1 g hf H locs ls hP hS hl
    replace hf := (lX12_begin_2_s n v0 v1 g).symm.trans hf
    refine lv_iload_n hx hb dX12_begin_2 rfl (lv_at hl 1 rfl) ?_
    refine lv_sipush (v := 256) hx hb dX12_begin_3 (by decide) ?_
    refine lv_icmp_ge (tgt := 33) hx hb dX12_begin_6 (by decide) (fun hc => ?_) (fun hc => ?_)
    · replace hf := hs_t hf hc
      obtain rfl := Option.some.inj hf
      exact hex0 _ _ _ hP hS (lv_sub hl [] rfl)
    · replace hf := hs_f hf hc
      refine lv_aload_n hx hb dX12_begin_9 rfl (lv_at hl 0 rfl) ?_
      obtain ⟨h1, hf⟩ := hs_ck hf
      obtain ⟨h2, hf⟩ := hs_ck hf
      refine hs_getr (C := RX12) (T := TX12) (N := 48) hx hb hts (fun w h => List.mem_cons_of_mem _ (inlX12 w h)) hown hK.1 hP h1 (by decide) rfl 32 (by decide) (hts _ (List.mem_cons_of_mem _ wq149)) (fun _ h => h) rfl h2 dX12_begin_10 ?_
      refine lv_iload_n hx hb dX12_begin_13 rfl (lv_at hl 1 rfl) ?_
      refine lv_iload_n hx hb dX12_begin_14 rfl (lv_at hl 1 rfl) ?_
      refine lv_sipush (v := 184) hx hb dX12_begin_15 (by decide) ?_
      refine lv_icmp_ne (tgt := 25) hx hb dX12_begin_18 (by decide) (fun hc => ?_) (fun hc => ?_)
      · replace hf := hs_f hf hc
        refine lv_iconst (v := 1) hx hb dX12_begin_25 (by decide) ?_
        exact wX12_begin_j26 hX (fun z0 g H locs ls hf hP hS hl => ih z0 g hf H locs ls hP hS hl) hex0 hf hP hS (lv_sub hl [0, 1] rfl)
      · replace hf := hs_t hf hc
        refine lv_iconst (v := 5) hx hb dX12_begin_21 (by decide) ?_
        refine lv_goto (tgt := 26) hx hb dX12_begin_22 (by decide) ?_
        exact wX12_begin_j26 hX (fun z0 g H locs ls hf hP hS hl => ih z0 g hf H locs ls hP hS hl) hex0 hf hP hS (lv_sub hl [0, 1] rfl)

set_option maxHeartbeats 4000000 in
set_option maxRecDepth 100000 in
theorem ctX12_begin (l : Launch) (B : Nat) (D : va_G) (E : Nat → ClassId) (v0 : Nat) (g : hs_S) (o : hs_S) (hf : fX12_begin v0 g = some o) : Met l yX12_begin wcX12_begin rmX12_begin (hs_Pc B D E g [.ref (B + v0)]) (hs_Qv B D E o) (0) (0) (hs_F B) := by
  refine Met.ofW (cc := cX12_begin) (maxL := 2) (ret := none) (by decide) rfl ?_
  intro p e s m args below meth c s₁ Bd hml hv
  obtain ⟨rfl, hP, hK⟩ := hv
  have hx := Bd.exec
  have hb := Bd.bytes
  have hr := Bd.returns
  have hts := atoms_spec (ws := wcX12_begin) Bd.pre
  have hown : s.vm.findClass RX12 = some m.cls := findClass_of_methodNamed Bd.named
  have hlocks := Bd.notSynchronized
  have hS : hs_Sx B s.heap s.heap [] := va_S.rf
  have hX : hs_cx cX12_begin none 2 RX12 wcX12_begin p s m (List.toArray [.ref (B + v0)]) meth c D E := ⟨hx, hb, hr, hml, hown, hts, hlocks, hK⟩
  have hl := lv_entry ([.ref (B + v0)]) (n := 2) (Nat.le_of_ble_eq_true rfl)
  rw [lg_entry_eq]
  generalize (lg_sl ([.ref (B + v0)]) ++ List.replicate (2 - (lg_sl ([.ref (B + v0)])).length) Slot.unset).toArray = ls at hl ⊢
  have hl : lv_has ls 2 [(0, .ref (B + v0))] := hl
  have hP : hs_P B D E g s.heap := hP
  unfold fX12_begin at hf
  refine lv_iconst (v := 0) hx hb dX12_begin_0 (by decide) ?_
  refine lv_istore_n (lv' := [(1, .int (0 : Int32)), (0, .ref (B + v0))]) hx hb dX12_begin_1 rfl hl (by decide) rfl (fun ls hl => ?_)
  obtain ⟨g6, h7, hf⟩ := hs_bv_some hf
  refine wX12_begin_2 hX (fun H locs ls hP hS hl => ?_) hs_N _ _ h7 _ _ _ hP hS (lv_sub hl [1, 0] rfl)
  exact hs_vret hx hb hr hlocks hK hP hS hf dX12_begin_33

theorem dX12_init_0 : decode cX12_init 0 = .ok (.aload_n 0, 1) := by decide +kernel
theorem dX12_init_1 : decode cX12_init 1 = .ok (.invokespecial 7, 3) := by decide +kernel
theorem dX12_init_4 : decode cX12_init 4 = .ok (.aload_n 0, 1) := by decide +kernel
theorem dX12_init_5 : decode cX12_init 5 = .ok (.sipush 6000, 3) := by decide +kernel
theorem dX12_init_8 : decode cX12_init 8 = .ok (.newarray .int, 2) := by decide +kernel
theorem dX12_init_10 : decode cX12_init 10 = .ok (.putfield 13, 3) := by decide +kernel
theorem dX12_init_13 : decode cX12_init 13 = .ok (.aload_n 0, 1) := by decide +kernel
theorem dX12_init_14 : decode cX12_init 14 = .ok (.bipush 8, 2) := by decide +kernel
theorem dX12_init_16 : decode cX12_init 16 = .ok (.newarray .int, 2) := by decide +kernel
theorem dX12_init_18 : decode cX12_init 18 = .ok (.putfield 17, 3) := by decide +kernel
theorem dX12_init_21 : decode cX12_init 21 = .ok (.aload_n 0, 1) := by decide +kernel
theorem dX12_init_22 : decode cX12_init 22 = .ok (.bipush 8, 2) := by decide +kernel
theorem dX12_init_24 : decode cX12_init 24 = .ok (.newarray .int, 2) := by decide +kernel
theorem dX12_init_26 : decode cX12_init 26 = .ok (.putfield 20, 3) := by decide +kernel
theorem dX12_init_29 : decode cX12_init 29 = .ok (.aload_n 0, 1) := by decide +kernel
theorem dX12_init_30 : decode cX12_init 30 = .ok (.bipush 8, 2) := by decide +kernel
theorem dX12_init_32 : decode cX12_init 32 = .ok (.newarray .int, 2) := by decide +kernel
theorem dX12_init_34 : decode cX12_init 34 = .ok (.putfield 23, 3) := by decide +kernel
theorem dX12_init_37 : decode cX12_init 37 = .ok (.aload_n 0, 1) := by decide +kernel
theorem dX12_init_38 : decode cX12_init 38 = .ok (.bipush 8, 2) := by decide +kernel
theorem dX12_init_40 : decode cX12_init 40 = .ok (.newarray .int, 2) := by decide +kernel
theorem dX12_init_42 : decode cX12_init 42 = .ok (.putfield 26, 3) := by decide +kernel
theorem dX12_init_45 : decode cX12_init 45 = .ok (.aload_n 0, 1) := by decide +kernel
theorem dX12_init_46 : decode cX12_init 46 = .ok (.sipush 256, 3) := by decide +kernel
theorem dX12_init_49 : decode cX12_init 49 = .ok (.newarray .int, 2) := by decide +kernel
theorem dX12_init_51 : decode cX12_init 51 = .ok (.putfield 29, 3) := by decide +kernel
theorem dX12_init_54 : decode cX12_init 54 = .ok (.aload_n 0, 1) := by decide +kernel
theorem dX12_init_55 : decode cX12_init 55 = .ok (.sipush 16008, 3) := by decide +kernel
theorem dX12_init_58 : decode cX12_init 58 = .ok (.newarray .int, 2) := by decide +kernel
theorem dX12_init_60 : decode cX12_init 60 = .ok (.putfield 32, 3) := by decide +kernel
theorem dX12_init_63 : decode cX12_init 63 = .ok (.aload_n 0, 1) := by decide +kernel
theorem dX12_init_64 : decode cX12_init 64 = .ok (.sipush 16008, 3) := by decide +kernel
theorem dX12_init_67 : decode cX12_init 67 = .ok (.newarray .boolean, 2) := by decide +kernel
theorem dX12_init_69 : decode cX12_init 69 = .ok (.putfield 35, 3) := by decide +kernel
theorem dX12_init_72 : decode cX12_init 72 = .ok (.aload_n 0, 1) := by decide +kernel
theorem dX12_init_73 : decode cX12_init 73 = .ok (.sipush 2008, 3) := by decide +kernel
theorem dX12_init_76 : decode cX12_init 76 = .ok (.newarray .boolean, 2) := by decide +kernel
theorem dX12_init_78 : decode cX12_init 78 = .ok (.putfield 39, 3) := by decide +kernel
theorem dX12_init_81 : decode cX12_init 81 = .ok (.aload_n 0, 1) := by decide +kernel
theorem dX12_init_82 : decode cX12_init 82 = .ok (.sipush 16008, 3) := by decide +kernel
theorem dX12_init_85 : decode cX12_init 85 = .ok (.newarray .int, 2) := by decide +kernel
theorem dX12_init_87 : decode cX12_init 87 = .ok (.putfield 42, 3) := by decide +kernel
theorem dX12_init_90 : decode cX12_init 90 = .ok (.aload_n 0, 1) := by decide +kernel
theorem dX12_init_91 : decode cX12_init 91 = .ok (.sipush 16008, 3) := by decide +kernel
theorem dX12_init_94 : decode cX12_init 94 = .ok (.newarray .boolean, 2) := by decide +kernel
theorem dX12_init_96 : decode cX12_init 96 = .ok (.putfield 45, 3) := by decide +kernel
theorem dX12_init_99 : decode cX12_init 99 = .ok (.aload_n 0, 1) := by decide +kernel
theorem dX12_init_100 : decode cX12_init 100 = .ok (.bipush 8, 2) := by decide +kernel
theorem dX12_init_102 : decode cX12_init 102 = .ok (.newarray .int, 2) := by decide +kernel
theorem dX12_init_104 : decode cX12_init 104 = .ok (.putfield 48, 3) := by decide +kernel
theorem dX12_init_107 : decode cX12_init 107 = .ok (.aload_n 0, 1) := by decide +kernel
theorem dX12_init_108 : decode cX12_init 108 = .ok (.bipush 8, 2) := by decide +kernel
theorem dX12_init_110 : decode cX12_init 110 = .ok (.newarray .int, 2) := by decide +kernel
theorem dX12_init_112 : decode cX12_init 112 = .ok (.putfield 51, 3) := by decide +kernel
theorem dX12_init_115 : decode cX12_init 115 = .ok (.aload_n 0, 1) := by decide +kernel
theorem dX12_init_116 : decode cX12_init 116 = .ok (.bipush 8, 2) := by decide +kernel
theorem dX12_init_118 : decode cX12_init 118 = .ok (.newarray .int, 2) := by decide +kernel
theorem dX12_init_120 : decode cX12_init 120 = .ok (.putfield 54, 3) := by decide +kernel
theorem dX12_init_123 : decode cX12_init 123 = .ok (.aload_n 0, 1) := by decide +kernel
theorem dX12_init_124 : decode cX12_init 124 = .ok (.bipush 8, 2) := by decide +kernel
theorem dX12_init_126 : decode cX12_init 126 = .ok (.newarray .int, 2) := by decide +kernel
theorem dX12_init_128 : decode cX12_init 128 = .ok (.putfield 57, 3) := by decide +kernel
theorem dX12_init_131 : decode cX12_init 131 = .ok (.aload_n 0, 1) := by decide +kernel
theorem dX12_init_132 : decode cX12_init 132 = .ok (.bipush 8, 2) := by decide +kernel
theorem dX12_init_134 : decode cX12_init 134 = .ok (.newarray .int, 2) := by decide +kernel
theorem dX12_init_136 : decode cX12_init 136 = .ok (.putfield 60, 3) := by decide +kernel
theorem dX12_init_139 : decode cX12_init 139 = .ok (.aload_n 0, 1) := by decide +kernel
theorem dX12_init_140 : decode cX12_init 140 = .ok (.sipush 256, 3) := by decide +kernel
theorem dX12_init_143 : decode cX12_init 143 = .ok (.newarray .int, 2) := by decide +kernel
theorem dX12_init_145 : decode cX12_init 145 = .ok (.putfield 63, 3) := by decide +kernel
theorem dX12_init_148 : decode cX12_init 148 = .ok (.aload_n 0, 1) := by decide +kernel
theorem dX12_init_149 : decode cX12_init 149 = .ok (.sipush 16008, 3) := by decide +kernel
theorem dX12_init_152 : decode cX12_init 152 = .ok (.newarray .int, 2) := by decide +kernel
theorem dX12_init_154 : decode cX12_init 154 = .ok (.putfield 66, 3) := by decide +kernel
theorem dX12_init_157 : decode cX12_init 157 = .ok (.aload_n 0, 1) := by decide +kernel
theorem dX12_init_158 : decode cX12_init 158 = .ok (.sipush 32008, 3) := by decide +kernel
theorem dX12_init_161 : decode cX12_init 161 = .ok (.newarray .int, 2) := by decide +kernel
theorem dX12_init_163 : decode cX12_init 163 = .ok (.putfield 69, 3) := by decide +kernel
theorem dX12_init_166 : decode cX12_init 166 = .ok (.aload_n 0, 1) := by decide +kernel
theorem dX12_init_167 : decode cX12_init 167 = .ok (.bipush 8, 2) := by decide +kernel
theorem dX12_init_169 : decode cX12_init 169 = .ok (.newarray .int, 2) := by decide +kernel
theorem dX12_init_171 : decode cX12_init 171 = .ok (.putfield 72, 3) := by decide +kernel
theorem dX12_init_174 : decode cX12_init 174 = .ok (.aload_n 0, 1) := by decide +kernel
theorem dX12_init_175 : decode cX12_init 175 = .ok (.sipush 256, 3) := by decide +kernel
theorem dX12_init_178 : decode cX12_init 178 = .ok (.newarray .int, 2) := by decide +kernel
theorem dX12_init_180 : decode cX12_init 180 = .ok (.putfield 75, 3) := by decide +kernel
theorem dX12_init_183 : decode cX12_init 183 = .ok (.aload_n 0, 1) := by decide +kernel
theorem dX12_init_184 : decode cX12_init 184 = .ok (.bipush 8, 2) := by decide +kernel
theorem dX12_init_186 : decode cX12_init 186 = .ok (.newarray .int, 2) := by decide +kernel
theorem dX12_init_188 : decode cX12_init 188 = .ok (.putfield 78, 3) := by decide +kernel
theorem dX12_init_191 : decode cX12_init 191 = .ok (.aload_n 0, 1) := by decide +kernel
theorem dX12_init_192 : decode cX12_init 192 = .ok (.sipush 2001, 3) := by decide +kernel
theorem dX12_init_195 : decode cX12_init 195 = .ok (.newarray .int, 2) := by decide +kernel
theorem dX12_init_197 : decode cX12_init 197 = .ok (.putfield 81, 3) := by decide +kernel
theorem dX12_init_200 : decode cX12_init 200 = .ok (.aload_n 0, 1) := by decide +kernel
theorem dX12_init_201 : decode cX12_init 201 = .ok (.sipush 2001, 3) := by decide +kernel
theorem dX12_init_204 : decode cX12_init 204 = .ok (.newarray .int, 2) := by decide +kernel
theorem dX12_init_206 : decode cX12_init 206 = .ok (.putfield 84, 3) := by decide +kernel
theorem dX12_init_209 : decode cX12_init 209 = .ok (.aload_n 0, 1) := by decide +kernel
theorem dX12_init_210 : decode cX12_init 210 = .ok (.sipush 2001, 3) := by decide +kernel
theorem dX12_init_213 : decode cX12_init 213 = .ok (.newarray .boolean, 2) := by decide +kernel
theorem dX12_init_215 : decode cX12_init 215 = .ok (.putfield 87, 3) := by decide +kernel
theorem dX12_init_218 : decode cX12_init 218 = .ok (.aload_n 0, 1) := by decide +kernel
theorem dX12_init_219 : decode cX12_init 219 = .ok (.sipush 12008, 3) := by decide +kernel
theorem dX12_init_222 : decode cX12_init 222 = .ok (.newarray .int, 2) := by decide +kernel
theorem dX12_init_224 : decode cX12_init 224 = .ok (.putfield 90, 3) := by decide +kernel
theorem dX12_init_227 : decode cX12_init 227 = .ok (.aload_n 0, 1) := by decide +kernel
theorem dX12_init_228 : decode cX12_init 228 = .ok (.sipush 256, 3) := by decide +kernel
theorem dX12_init_231 : decode cX12_init 231 = .ok (.newarray .int, 2) := by decide +kernel
theorem dX12_init_233 : decode cX12_init 233 = .ok (.putfield 93, 3) := by decide +kernel
theorem dX12_init_236 : decode cX12_init 236 = .ok (.aload_n 0, 1) := by decide +kernel
theorem dX12_init_237 : decode cX12_init 237 = .ok (.iconst 4, 1) := by decide +kernel
theorem dX12_init_238 : decode cX12_init 238 = .ok (.newarray .int, 2) := by decide +kernel
theorem dX12_init_240 : decode cX12_init 240 = .ok (.putfield 96, 3) := by decide +kernel
theorem dX12_init_243 : decode cX12_init 243 = .ok (.aload_n 0, 1) := by decide +kernel
theorem dX12_init_244 : decode cX12_init 244 = .ok (.sipush 4004, 3) := by decide +kernel
theorem dX12_init_247 : decode cX12_init 247 = .ok (.newarray .int, 2) := by decide +kernel
theorem dX12_init_249 : decode cX12_init 249 = .ok (.putfield 99, 3) := by decide +kernel
theorem dX12_init_252 : decode cX12_init 252 = .ok (.aload_n 0, 1) := by decide +kernel
theorem dX12_init_253 : decode cX12_init 253 = .ok (.bipush 60, 2) := by decide +kernel
theorem dX12_init_255 : decode cX12_init 255 = .ok (.newarray .int, 2) := by decide +kernel
theorem dX12_init_257 : decode cX12_init 257 = .ok (.putfield 102, 3) := by decide +kernel
theorem dX12_init_260 : decode cX12_init 260 = .ok (.aload_n 0, 1) := by decide +kernel
theorem dX12_init_261 : decode cX12_init 261 = .ok (.bipush 60, 2) := by decide +kernel
theorem dX12_init_263 : decode cX12_init 263 = .ok (.newarray .int, 2) := by decide +kernel
theorem dX12_init_265 : decode cX12_init 265 = .ok (.putfield 105, 3) := by decide +kernel
theorem dX12_init_268 : decode cX12_init 268 = .ok (.aload_n 0, 1) := by decide +kernel
theorem dX12_init_269 : decode cX12_init 269 = .ok (.bipush 60, 2) := by decide +kernel
theorem dX12_init_271 : decode cX12_init 271 = .ok (.newarray .int, 2) := by decide +kernel
theorem dX12_init_273 : decode cX12_init 273 = .ok (.putfield 108, 3) := by decide +kernel
theorem dX12_init_276 : decode cX12_init 276 = .ok (.aload_n 0, 1) := by decide +kernel
theorem dX12_init_277 : decode cX12_init 277 = .ok (.sipush 1440, 3) := by decide +kernel
theorem dX12_init_280 : decode cX12_init 280 = .ok (.newarray .int, 2) := by decide +kernel
theorem dX12_init_282 : decode cX12_init 282 = .ok (.putfield 111, 3) := by decide +kernel
theorem dX12_init_285 : decode cX12_init 285 = .ok (.aload_n 0, 1) := by decide +kernel
theorem dX12_init_286 : decode cX12_init 286 = .ok (.sipush 1200, 3) := by decide +kernel
theorem dX12_init_289 : decode cX12_init 289 = .ok (.newarray .int, 2) := by decide +kernel
theorem dX12_init_291 : decode cX12_init 291 = .ok (.putfield 114, 3) := by decide +kernel
theorem dX12_init_294 : decode cX12_init 294 = .ok (.aload_n 0, 1) := by decide +kernel
theorem dX12_init_295 : decode cX12_init 295 = .ok (.invokevirtual 117, 3) := by decide +kernel
theorem dX12_init_298 : decode cX12_init 298 = .ok (.return_, 1) := by decide +kernel
abbrev wcX12_init : List Cond := .code yX12_init cX12_init 1 none :: wsL_law
def fX12_init (v0 : Nat) (g : hs_S) : Option (hs_S) :=
  if hs_kd (hs_new g 100 6000) v0 = 10 then
  hs_bv (some (hs_wR (hs_new g 100 6000) v0 1 g.1)) fun g2 =>
  if hs_kd (hs_new g2 100 8) v0 = 10 then
  hs_bv (some (hs_wR (hs_new g2 100 8) v0 5 g2.1)) fun g6 =>
  if hs_kd (hs_new g6 100 8) v0 = 10 then
  hs_bv (some (hs_wR (hs_new g6 100 8) v0 6 g6.1)) fun g10 =>
  if hs_kd (hs_new g10 100 8) v0 = 10 then
  hs_bv (some (hs_wR (hs_new g10 100 8) v0 7 g10.1)) fun g14 =>
  if hs_kd (hs_new g14 100 8) v0 = 10 then
  hs_bv (some (hs_wR (hs_new g14 100 8) v0 8 g14.1)) fun g18 =>
  if hs_kd (hs_new g18 100 256) v0 = 10 then
  hs_bv (some (hs_wR (hs_new g18 100 256) v0 9 g18.1)) fun g22 =>
  if hs_kd (hs_new g22 100 16008) v0 = 10 then
  hs_bv (some (hs_wR (hs_new g22 100 16008) v0 10 g22.1)) fun g26 =>
  if hs_kd (hs_new g26 101 16008) v0 = 10 then
  hs_bv (some (hs_wR (hs_new g26 101 16008) v0 11 g26.1)) fun g30 =>
  if hs_kd (hs_new g30 101 2008) v0 = 10 then
  hs_bv (some (hs_wR (hs_new g30 101 2008) v0 12 g30.1)) fun g34 =>
  if hs_kd (hs_new g34 100 16008) v0 = 10 then
  hs_bv (some (hs_wR (hs_new g34 100 16008) v0 13 g34.1)) fun g38 =>
  if hs_kd (hs_new g38 101 16008) v0 = 10 then
  hs_bv (some (hs_wR (hs_new g38 101 16008) v0 14 g38.1)) fun g42 =>
  if hs_kd (hs_new g42 100 8) v0 = 10 then
  hs_bv (some (hs_wR (hs_new g42 100 8) v0 15 g42.1)) fun g46 =>
  if hs_kd (hs_new g46 100 8) v0 = 10 then
  hs_bv (some (hs_wR (hs_new g46 100 8) v0 16 g46.1)) fun g50 =>
  if hs_kd (hs_new g50 100 8) v0 = 10 then
  hs_bv (some (hs_wR (hs_new g50 100 8) v0 17 g50.1)) fun g54 =>
  if hs_kd (hs_new g54 100 8) v0 = 10 then
  hs_bv (some (hs_wR (hs_new g54 100 8) v0 18 g54.1)) fun g58 =>
  if hs_kd (hs_new g58 100 8) v0 = 10 then
  hs_bv (some (hs_wR (hs_new g58 100 8) v0 19 g58.1)) fun g62 =>
  if hs_kd (hs_new g62 100 256) v0 = 10 then
  hs_bv (some (hs_wR (hs_new g62 100 256) v0 20 g62.1)) fun g66 =>
  if hs_kd (hs_new g66 100 16008) v0 = 10 then
  hs_bv (some (hs_wR (hs_new g66 100 16008) v0 21 g66.1)) fun g70 =>
  if hs_kd (hs_new g70 100 32008) v0 = 10 then
  hs_bv (some (hs_wR (hs_new g70 100 32008) v0 23 g70.1)) fun g74 =>
  if hs_kd (hs_new g74 100 8) v0 = 10 then
  hs_bv (some (hs_wR (hs_new g74 100 8) v0 24 g74.1)) fun g78 =>
  if hs_kd (hs_new g78 100 256) v0 = 10 then
  hs_bv (some (hs_wR (hs_new g78 100 256) v0 25 g78.1)) fun g82 =>
  if hs_kd (hs_new g82 100 8) v0 = 10 then
  hs_bv (some (hs_wR (hs_new g82 100 8) v0 26 g82.1)) fun g86 =>
  if hs_kd (hs_new g86 100 2001) v0 = 10 then
  hs_bv (some (hs_wR (hs_new g86 100 2001) v0 27 g86.1)) fun g90 =>
  if hs_kd (hs_new g90 100 2001) v0 = 10 then
  hs_bv (some (hs_wR (hs_new g90 100 2001) v0 28 g90.1)) fun g94 =>
  if hs_kd (hs_new g94 101 2001) v0 = 10 then
  hs_bv (some (hs_wR (hs_new g94 101 2001) v0 29 g94.1)) fun g98 =>
  if hs_kd (hs_new g98 100 12008) v0 = 10 then
  hs_bv (some (hs_wR (hs_new g98 100 12008) v0 30 g98.1)) fun g102 =>
  if hs_kd (hs_new g102 100 256) v0 = 10 then
  hs_bv (some (hs_wR (hs_new g102 100 256) v0 32 g102.1)) fun g106 =>
  if hs_kd (hs_new g106 100 4) v0 = 10 then
  hs_bv (some (hs_wR (hs_new g106 100 4) v0 34 g106.1)) fun g110 =>
  if hs_kd (hs_new g110 100 4004) v0 = 10 then
  hs_bv (some (hs_wR (hs_new g110 100 4004) v0 35 g110.1)) fun g114 =>
  if hs_kd (hs_new g114 100 60) v0 = 10 then
  hs_bv (some (hs_wR (hs_new g114 100 60) v0 41 g114.1)) fun g118 =>
  if hs_kd (hs_new g118 100 60) v0 = 10 then
  hs_bv (some (hs_wR (hs_new g118 100 60) v0 42 g118.1)) fun g122 =>
  if hs_kd (hs_new g122 100 60) v0 = 10 then
  hs_bv (some (hs_wR (hs_new g122 100 60) v0 43 g122.1)) fun g126 =>
  if hs_kd (hs_new g126 100 1440) v0 = 10 then
  hs_bv (some (hs_wR (hs_new g126 100 1440) v0 44 g126.1)) fun g130 =>
  if hs_kd (hs_new g130 100 1200) v0 = 10 then
  hs_bv (fX12_begin v0 (hs_wR (hs_new g130 100 1200) v0 45 g130.1)) fun g134 =>
  some g134
  else none else none else none else none else none else none else none else none else none else none else none else none else none else none else none else none else none else none else none else none else none else none else none else none else none else none else none else none else none else none else none else none else none else none
abbrev rmX12_init : Room := { frames := 1, cells := 34, slots := 146007, locals := 21 }
set_option maxHeartbeats 4000000 in
set_option maxRecDepth 100000 in
theorem ctX12_init (l : Launch) (B : Nat) (D : va_G) (E : Nat → ClassId) (v0 : Nat) (g : hs_S) (o : hs_S) (hf : fX12_init v0 g = some o) : Met l yX12_init wcX12_init rmX12_init (hs_Pc B D E g [.ref (B + v0)]) (hs_Qv B D E o) (34) (146007) (hs_F B) := by
  refine Met.ofW (cc := cX12_init) (maxL := 1) (ret := none) (by decide) rfl ?_
  intro p e s m args below meth c s₁ Bd hml hv
  obtain ⟨rfl, hP, hK⟩ := hv
  have hx := Bd.exec
  have hb := Bd.bytes
  have hr := Bd.returns
  have hts := atoms_spec (ws := wcX12_init) Bd.pre
  have hown : s.vm.findClass RX12 = some m.cls := findClass_of_methodNamed Bd.named
  have hlocks := Bd.notSynchronized
  have hin : meth.name = "<init>" := (name_of_methodNamed Bd.named Bd.method).1
  have hS : hs_Sx B s.heap s.heap [] := va_S.rf
  have hX : hs_cx cX12_init none 1 RX12 wcX12_init p s m (List.toArray [.ref (B + v0)]) meth c D E := ⟨hx, hb, hr, hml, hown, hts, hlocks, hK⟩
  have hl := lv_entry ([.ref (B + v0)]) (n := 1) (Nat.le_of_ble_eq_true rfl)
  rw [lg_entry_eq]
  generalize (lg_sl ([.ref (B + v0)]) ++ List.replicate (1 - (lg_sl ([.ref (B + v0)])).length) Slot.unset).toArray = ls at hl ⊢
  have hl : lv_has ls 1 [(0, .ref (B + v0))] := hl
  have hP : hs_P B D E g s.heap := hP
  unfold fX12_init at hf
  refine lv_aload_n hx hb dX12_init_0 rfl (lv_at hl 0 rfl) ?_
  refine W.objInit hx hb hown (hts _ (List.mem_cons_of_mem _ wq121)) (hts _ (List.mem_cons_of_mem _ wq11)) (hts _ (List.mem_cons_of_mem _ wq12)) rfl (hl.1.trans hml.symm) rfl dX12_init_1 (Nat.le_of_ble_eq_true rfl) (Nat.le_of_ble_eq_true rfl) ?_
  refine lv_aload_n hx hb dX12_init_4 rfl (lv_at hl 0 rfl) ?_
  refine lv_sipush (v := 6000) hx hb dX12_init_5 (by decide) ?_
  refine hs_newI (t := 0) (k := 100) (N := 6000) (atype := .int) hx hb (by decide) rfl (hts _ (List.mem_cons_of_mem _ wq44)) rfl (fun _ _ h => h) rfl hK.1 hP hS (by decide) (by rfl) (by decide) (Nat.le_of_ble_eq_true rfl) (Nat.le_of_ble_eq_true rfl) dX12_init_8 (fun H hP hS => ?_)
  refine W.widen (k := 1) (n := 6000) (by omega) (by omega) ?_
  obtain ⟨h1, hf⟩ := hs_ck hf
  refine hs_putr (C := RX12) (T := TX12) (N := 48) hx hb hts (fun w h => List.mem_cons_of_mem _ (inlX12 w h)) tyX12 tyX12_ok nmX12 hown hK.1 hP hS h1 (by decide) rfl 1 (by decide) (hts _ (List.mem_cons_of_mem _ wq122)) (fun _ h => h) (Or.inr ⟨rfl, hin, rfl⟩) (fun _ => rfl) (fun _ => rfl) rfl dX12_init_10 (fun H locs hP hS => ?_)
  refine lv_aload_n hx hb dX12_init_13 rfl (lv_at hl 0 rfl) ?_
  refine lv_bipush (v := 8) hx hb dX12_init_14 (by decide) ?_
  obtain ⟨g2, e3, hf⟩ := hs_bv_some hf
  replace e3 := Option.some.inj e3
  rw [e3] at hP
  have h4 : hs_kd g2 v0 = 10 := by rw [← e3]; exact h1
  refine hs_newI (t := 0) (k := 100) (N := 8) (atype := .int) hx hb (by decide) rfl (hts _ (List.mem_cons_of_mem _ wq44)) rfl (fun _ _ h => h) rfl hK.1 hP hS (by decide) (by rfl) (by decide) (Nat.le_of_ble_eq_true rfl) (Nat.le_of_ble_eq_true rfl) dX12_init_16 (fun H hP hS => ?_)
  refine W.widen (k := 2) (n := 6008) (by omega) (by omega) ?_
  obtain ⟨h5, hf⟩ := hs_ck hf
  refine hs_putr (C := RX12) (T := TX12) (N := 48) hx hb hts (fun w h => List.mem_cons_of_mem _ (inlX12 w h)) tyX12 tyX12_ok nmX12 hown hK.1 hP hS h5 (by decide) rfl 5 (by decide) (hts _ (List.mem_cons_of_mem _ wq123)) (fun _ h => h) (Or.inr ⟨rfl, hin, rfl⟩) (fun _ => rfl) (fun _ => rfl) rfl dX12_init_18 (fun H locs hP hS => ?_)
  refine lv_aload_n hx hb dX12_init_21 rfl (lv_at hl 0 rfl) ?_
  refine lv_bipush (v := 8) hx hb dX12_init_22 (by decide) ?_
  obtain ⟨g6, e7, hf⟩ := hs_bv_some hf
  replace e7 := Option.some.inj e7
  rw [e7] at hP
  have h8 : hs_kd g6 v0 = 10 := by rw [← e7]; exact h5
  refine hs_newI (t := 0) (k := 100) (N := 8) (atype := .int) hx hb (by decide) rfl (hts _ (List.mem_cons_of_mem _ wq44)) rfl (fun _ _ h => h) rfl hK.1 hP hS (by decide) (by rfl) (by decide) (Nat.le_of_ble_eq_true rfl) (Nat.le_of_ble_eq_true rfl) dX12_init_24 (fun H hP hS => ?_)
  refine W.widen (k := 3) (n := 6016) (by omega) (by omega) ?_
  obtain ⟨h9, hf⟩ := hs_ck hf
  refine hs_putr (C := RX12) (T := TX12) (N := 48) hx hb hts (fun w h => List.mem_cons_of_mem _ (inlX12 w h)) tyX12 tyX12_ok nmX12 hown hK.1 hP hS h9 (by decide) rfl 6 (by decide) (hts _ (List.mem_cons_of_mem _ wq124)) (fun _ h => h) (Or.inr ⟨rfl, hin, rfl⟩) (fun _ => rfl) (fun _ => rfl) rfl dX12_init_26 (fun H locs hP hS => ?_)
  refine lv_aload_n hx hb dX12_init_29 rfl (lv_at hl 0 rfl) ?_
  refine lv_bipush (v := 8) hx hb dX12_init_30 (by decide) ?_
  obtain ⟨g10, e11, hf⟩ := hs_bv_some hf
  replace e11 := Option.some.inj e11
  rw [e11] at hP
  have h12 : hs_kd g10 v0 = 10 := by rw [← e11]; exact h9
  refine hs_newI (t := 0) (k := 100) (N := 8) (atype := .int) hx hb (by decide) rfl (hts _ (List.mem_cons_of_mem _ wq44)) rfl (fun _ _ h => h) rfl hK.1 hP hS (by decide) (by rfl) (by decide) (Nat.le_of_ble_eq_true rfl) (Nat.le_of_ble_eq_true rfl) dX12_init_32 (fun H hP hS => ?_)
  refine W.widen (k := 4) (n := 6024) (by omega) (by omega) ?_
  obtain ⟨h13, hf⟩ := hs_ck hf
  refine hs_putr (C := RX12) (T := TX12) (N := 48) hx hb hts (fun w h => List.mem_cons_of_mem _ (inlX12 w h)) tyX12 tyX12_ok nmX12 hown hK.1 hP hS h13 (by decide) rfl 7 (by decide) (hts _ (List.mem_cons_of_mem _ wq125)) (fun _ h => h) (Or.inr ⟨rfl, hin, rfl⟩) (fun _ => rfl) (fun _ => rfl) rfl dX12_init_34 (fun H locs hP hS => ?_)
  refine lv_aload_n hx hb dX12_init_37 rfl (lv_at hl 0 rfl) ?_
  refine lv_bipush (v := 8) hx hb dX12_init_38 (by decide) ?_
  obtain ⟨g14, e15, hf⟩ := hs_bv_some hf
  replace e15 := Option.some.inj e15
  rw [e15] at hP
  have h16 : hs_kd g14 v0 = 10 := by rw [← e15]; exact h13
  refine hs_newI (t := 0) (k := 100) (N := 8) (atype := .int) hx hb (by decide) rfl (hts _ (List.mem_cons_of_mem _ wq44)) rfl (fun _ _ h => h) rfl hK.1 hP hS (by decide) (by rfl) (by decide) (Nat.le_of_ble_eq_true rfl) (Nat.le_of_ble_eq_true rfl) dX12_init_40 (fun H hP hS => ?_)
  refine W.widen (k := 5) (n := 6032) (by omega) (by omega) ?_
  obtain ⟨h17, hf⟩ := hs_ck hf
  refine hs_putr (C := RX12) (T := TX12) (N := 48) hx hb hts (fun w h => List.mem_cons_of_mem _ (inlX12 w h)) tyX12 tyX12_ok nmX12 hown hK.1 hP hS h17 (by decide) rfl 8 (by decide) (hts _ (List.mem_cons_of_mem _ wq126)) (fun _ h => h) (Or.inr ⟨rfl, hin, rfl⟩) (fun _ => rfl) (fun _ => rfl) rfl dX12_init_42 (fun H locs hP hS => ?_)
  refine lv_aload_n hx hb dX12_init_45 rfl (lv_at hl 0 rfl) ?_
  refine lv_sipush (v := 256) hx hb dX12_init_46 (by decide) ?_
  obtain ⟨g18, e19, hf⟩ := hs_bv_some hf
  replace e19 := Option.some.inj e19
  rw [e19] at hP
  have h20 : hs_kd g18 v0 = 10 := by rw [← e19]; exact h17
  refine hs_newI (t := 0) (k := 100) (N := 256) (atype := .int) hx hb (by decide) rfl (hts _ (List.mem_cons_of_mem _ wq44)) rfl (fun _ _ h => h) rfl hK.1 hP hS (by decide) (by rfl) (by decide) (Nat.le_of_ble_eq_true rfl) (Nat.le_of_ble_eq_true rfl) dX12_init_49 (fun H hP hS => ?_)
  refine W.widen (k := 6) (n := 6288) (by omega) (by omega) ?_
  obtain ⟨h21, hf⟩ := hs_ck hf
  refine hs_putr (C := RX12) (T := TX12) (N := 48) hx hb hts (fun w h => List.mem_cons_of_mem _ (inlX12 w h)) tyX12 tyX12_ok nmX12 hown hK.1 hP hS h21 (by decide) rfl 9 (by decide) (hts _ (List.mem_cons_of_mem _ wq127)) (fun _ h => h) (Or.inr ⟨rfl, hin, rfl⟩) (fun _ => rfl) (fun _ => rfl) rfl dX12_init_51 (fun H locs hP hS => ?_)
  refine lv_aload_n hx hb dX12_init_54 rfl (lv_at hl 0 rfl) ?_
  refine lv_sipush (v := 16008) hx hb dX12_init_55 (by decide) ?_
  obtain ⟨g22, e23, hf⟩ := hs_bv_some hf
  replace e23 := Option.some.inj e23
  rw [e23] at hP
  have h24 : hs_kd g22 v0 = 10 := by rw [← e23]; exact h21
  refine hs_newI (t := 0) (k := 100) (N := 16008) (atype := .int) hx hb (by decide) rfl (hts _ (List.mem_cons_of_mem _ wq44)) rfl (fun _ _ h => h) rfl hK.1 hP hS (by decide) (by rfl) (by decide) (Nat.le_of_ble_eq_true rfl) (Nat.le_of_ble_eq_true rfl) dX12_init_58 (fun H hP hS => ?_)
  refine W.widen (k := 7) (n := 22296) (by omega) (by omega) ?_
  obtain ⟨h25, hf⟩ := hs_ck hf
  refine hs_putr (C := RX12) (T := TX12) (N := 48) hx hb hts (fun w h => List.mem_cons_of_mem _ (inlX12 w h)) tyX12 tyX12_ok nmX12 hown hK.1 hP hS h25 (by decide) rfl 10 (by decide) (hts _ (List.mem_cons_of_mem _ wq128)) (fun _ h => h) (Or.inr ⟨rfl, hin, rfl⟩) (fun _ => rfl) (fun _ => rfl) rfl dX12_init_60 (fun H locs hP hS => ?_)
  refine lv_aload_n hx hb dX12_init_63 rfl (lv_at hl 0 rfl) ?_
  refine lv_sipush (v := 16008) hx hb dX12_init_64 (by decide) ?_
  obtain ⟨g26, e27, hf⟩ := hs_bv_some hf
  replace e27 := Option.some.inj e27
  rw [e27] at hP
  have h28 : hs_kd g26 v0 = 10 := by rw [← e27]; exact h25
  refine hs_newI (t := 1) (k := 101) (N := 16008) (atype := .boolean) hx hb (by decide) rfl (hts _ (List.mem_cons_of_mem _ wq129)) rfl (fun _ _ h => h) rfl hK.1 hP hS (by decide) (by rfl) (by decide) (Nat.le_of_ble_eq_true rfl) (Nat.le_of_ble_eq_true rfl) dX12_init_67 (fun H hP hS => ?_)
  refine W.widen (k := 8) (n := 38304) (by omega) (by omega) ?_
  obtain ⟨h29, hf⟩ := hs_ck hf
  refine hs_putr (C := RX12) (T := TX12) (N := 48) hx hb hts (fun w h => List.mem_cons_of_mem _ (inlX12 w h)) tyX12 tyX12_ok nmX12 hown hK.1 hP hS h29 (by decide) rfl 11 (by decide) (hts _ (List.mem_cons_of_mem _ wq130)) (fun _ h => h) (Or.inr ⟨rfl, hin, rfl⟩) (fun _ => rfl) (fun _ => rfl) rfl dX12_init_69 (fun H locs hP hS => ?_)
  refine lv_aload_n hx hb dX12_init_72 rfl (lv_at hl 0 rfl) ?_
  refine lv_sipush (v := 2008) hx hb dX12_init_73 (by decide) ?_
  obtain ⟨g30, e31, hf⟩ := hs_bv_some hf
  replace e31 := Option.some.inj e31
  rw [e31] at hP
  have h32 : hs_kd g30 v0 = 10 := by rw [← e31]; exact h29
  refine hs_newI (t := 1) (k := 101) (N := 2008) (atype := .boolean) hx hb (by decide) rfl (hts _ (List.mem_cons_of_mem _ wq129)) rfl (fun _ _ h => h) rfl hK.1 hP hS (by decide) (by rfl) (by decide) (Nat.le_of_ble_eq_true rfl) (Nat.le_of_ble_eq_true rfl) dX12_init_76 (fun H hP hS => ?_)
  refine W.widen (k := 9) (n := 40312) (by omega) (by omega) ?_
  obtain ⟨h33, hf⟩ := hs_ck hf
  refine hs_putr (C := RX12) (T := TX12) (N := 48) hx hb hts (fun w h => List.mem_cons_of_mem _ (inlX12 w h)) tyX12 tyX12_ok nmX12 hown hK.1 hP hS h33 (by decide) rfl 12 (by decide) (hts _ (List.mem_cons_of_mem _ wq131)) (fun _ h => h) (Or.inr ⟨rfl, hin, rfl⟩) (fun _ => rfl) (fun _ => rfl) rfl dX12_init_78 (fun H locs hP hS => ?_)
  refine lv_aload_n hx hb dX12_init_81 rfl (lv_at hl 0 rfl) ?_
  refine lv_sipush (v := 16008) hx hb dX12_init_82 (by decide) ?_
  obtain ⟨g34, e35, hf⟩ := hs_bv_some hf
  replace e35 := Option.some.inj e35
  rw [e35] at hP
  have h36 : hs_kd g34 v0 = 10 := by rw [← e35]; exact h33
  refine hs_newI (t := 0) (k := 100) (N := 16008) (atype := .int) hx hb (by decide) rfl (hts _ (List.mem_cons_of_mem _ wq44)) rfl (fun _ _ h => h) rfl hK.1 hP hS (by decide) (by rfl) (by decide) (Nat.le_of_ble_eq_true rfl) (Nat.le_of_ble_eq_true rfl) dX12_init_85 (fun H hP hS => ?_)
  refine W.widen (k := 10) (n := 56320) (by omega) (by omega) ?_
  obtain ⟨h37, hf⟩ := hs_ck hf
  refine hs_putr (C := RX12) (T := TX12) (N := 48) hx hb hts (fun w h => List.mem_cons_of_mem _ (inlX12 w h)) tyX12 tyX12_ok nmX12 hown hK.1 hP hS h37 (by decide) rfl 13 (by decide) (hts _ (List.mem_cons_of_mem _ wq132)) (fun _ h => h) (Or.inr ⟨rfl, hin, rfl⟩) (fun _ => rfl) (fun _ => rfl) rfl dX12_init_87 (fun H locs hP hS => ?_)
  refine lv_aload_n hx hb dX12_init_90 rfl (lv_at hl 0 rfl) ?_
  refine lv_sipush (v := 16008) hx hb dX12_init_91 (by decide) ?_
  obtain ⟨g38, e39, hf⟩ := hs_bv_some hf
  replace e39 := Option.some.inj e39
  rw [e39] at hP
  have h40 : hs_kd g38 v0 = 10 := by rw [← e39]; exact h37
  refine hs_newI (t := 1) (k := 101) (N := 16008) (atype := .boolean) hx hb (by decide) rfl (hts _ (List.mem_cons_of_mem _ wq129)) rfl (fun _ _ h => h) rfl hK.1 hP hS (by decide) (by rfl) (by decide) (Nat.le_of_ble_eq_true rfl) (Nat.le_of_ble_eq_true rfl) dX12_init_94 (fun H hP hS => ?_)
  refine W.widen (k := 11) (n := 72328) (by omega) (by omega) ?_
  obtain ⟨h41, hf⟩ := hs_ck hf
  refine hs_putr (C := RX12) (T := TX12) (N := 48) hx hb hts (fun w h => List.mem_cons_of_mem _ (inlX12 w h)) tyX12 tyX12_ok nmX12 hown hK.1 hP hS h41 (by decide) rfl 14 (by decide) (hts _ (List.mem_cons_of_mem _ wq133)) (fun _ h => h) (Or.inr ⟨rfl, hin, rfl⟩) (fun _ => rfl) (fun _ => rfl) rfl dX12_init_96 (fun H locs hP hS => ?_)
  refine lv_aload_n hx hb dX12_init_99 rfl (lv_at hl 0 rfl) ?_
  refine lv_bipush (v := 8) hx hb dX12_init_100 (by decide) ?_
  obtain ⟨g42, e43, hf⟩ := hs_bv_some hf
  replace e43 := Option.some.inj e43
  rw [e43] at hP
  have h44 : hs_kd g42 v0 = 10 := by rw [← e43]; exact h41
  refine hs_newI (t := 0) (k := 100) (N := 8) (atype := .int) hx hb (by decide) rfl (hts _ (List.mem_cons_of_mem _ wq44)) rfl (fun _ _ h => h) rfl hK.1 hP hS (by decide) (by rfl) (by decide) (Nat.le_of_ble_eq_true rfl) (Nat.le_of_ble_eq_true rfl) dX12_init_102 (fun H hP hS => ?_)
  refine W.widen (k := 12) (n := 72336) (by omega) (by omega) ?_
  obtain ⟨h45, hf⟩ := hs_ck hf
  refine hs_putr (C := RX12) (T := TX12) (N := 48) hx hb hts (fun w h => List.mem_cons_of_mem _ (inlX12 w h)) tyX12 tyX12_ok nmX12 hown hK.1 hP hS h45 (by decide) rfl 15 (by decide) (hts _ (List.mem_cons_of_mem _ wq134)) (fun _ h => h) (Or.inr ⟨rfl, hin, rfl⟩) (fun _ => rfl) (fun _ => rfl) rfl dX12_init_104 (fun H locs hP hS => ?_)
  refine lv_aload_n hx hb dX12_init_107 rfl (lv_at hl 0 rfl) ?_
  refine lv_bipush (v := 8) hx hb dX12_init_108 (by decide) ?_
  obtain ⟨g46, e47, hf⟩ := hs_bv_some hf
  replace e47 := Option.some.inj e47
  rw [e47] at hP
  have h48 : hs_kd g46 v0 = 10 := by rw [← e47]; exact h45
  refine hs_newI (t := 0) (k := 100) (N := 8) (atype := .int) hx hb (by decide) rfl (hts _ (List.mem_cons_of_mem _ wq44)) rfl (fun _ _ h => h) rfl hK.1 hP hS (by decide) (by rfl) (by decide) (Nat.le_of_ble_eq_true rfl) (Nat.le_of_ble_eq_true rfl) dX12_init_110 (fun H hP hS => ?_)
  refine W.widen (k := 13) (n := 72344) (by omega) (by omega) ?_
  obtain ⟨h49, hf⟩ := hs_ck hf
  refine hs_putr (C := RX12) (T := TX12) (N := 48) hx hb hts (fun w h => List.mem_cons_of_mem _ (inlX12 w h)) tyX12 tyX12_ok nmX12 hown hK.1 hP hS h49 (by decide) rfl 16 (by decide) (hts _ (List.mem_cons_of_mem _ wq135)) (fun _ h => h) (Or.inr ⟨rfl, hin, rfl⟩) (fun _ => rfl) (fun _ => rfl) rfl dX12_init_112 (fun H locs hP hS => ?_)
  refine lv_aload_n hx hb dX12_init_115 rfl (lv_at hl 0 rfl) ?_
  refine lv_bipush (v := 8) hx hb dX12_init_116 (by decide) ?_
  obtain ⟨g50, e51, hf⟩ := hs_bv_some hf
  replace e51 := Option.some.inj e51
  rw [e51] at hP
  have h52 : hs_kd g50 v0 = 10 := by rw [← e51]; exact h49
  refine hs_newI (t := 0) (k := 100) (N := 8) (atype := .int) hx hb (by decide) rfl (hts _ (List.mem_cons_of_mem _ wq44)) rfl (fun _ _ h => h) rfl hK.1 hP hS (by decide) (by rfl) (by decide) (Nat.le_of_ble_eq_true rfl) (Nat.le_of_ble_eq_true rfl) dX12_init_118 (fun H hP hS => ?_)
  refine W.widen (k := 14) (n := 72352) (by omega) (by omega) ?_
  obtain ⟨h53, hf⟩ := hs_ck hf
  refine hs_putr (C := RX12) (T := TX12) (N := 48) hx hb hts (fun w h => List.mem_cons_of_mem _ (inlX12 w h)) tyX12 tyX12_ok nmX12 hown hK.1 hP hS h53 (by decide) rfl 17 (by decide) (hts _ (List.mem_cons_of_mem _ wq136)) (fun _ h => h) (Or.inr ⟨rfl, hin, rfl⟩) (fun _ => rfl) (fun _ => rfl) rfl dX12_init_120 (fun H locs hP hS => ?_)
  refine lv_aload_n hx hb dX12_init_123 rfl (lv_at hl 0 rfl) ?_
  refine lv_bipush (v := 8) hx hb dX12_init_124 (by decide) ?_
  obtain ⟨g54, e55, hf⟩ := hs_bv_some hf
  replace e55 := Option.some.inj e55
  rw [e55] at hP
  have h56 : hs_kd g54 v0 = 10 := by rw [← e55]; exact h53
  refine hs_newI (t := 0) (k := 100) (N := 8) (atype := .int) hx hb (by decide) rfl (hts _ (List.mem_cons_of_mem _ wq44)) rfl (fun _ _ h => h) rfl hK.1 hP hS (by decide) (by rfl) (by decide) (Nat.le_of_ble_eq_true rfl) (Nat.le_of_ble_eq_true rfl) dX12_init_126 (fun H hP hS => ?_)
  refine W.widen (k := 15) (n := 72360) (by omega) (by omega) ?_
  obtain ⟨h57, hf⟩ := hs_ck hf
  refine hs_putr (C := RX12) (T := TX12) (N := 48) hx hb hts (fun w h => List.mem_cons_of_mem _ (inlX12 w h)) tyX12 tyX12_ok nmX12 hown hK.1 hP hS h57 (by decide) rfl 18 (by decide) (hts _ (List.mem_cons_of_mem _ wq137)) (fun _ h => h) (Or.inr ⟨rfl, hin, rfl⟩) (fun _ => rfl) (fun _ => rfl) rfl dX12_init_128 (fun H locs hP hS => ?_)
  refine lv_aload_n hx hb dX12_init_131 rfl (lv_at hl 0 rfl) ?_
  refine lv_bipush (v := 8) hx hb dX12_init_132 (by decide) ?_
  obtain ⟨g58, e59, hf⟩ := hs_bv_some hf
  replace e59 := Option.some.inj e59
  rw [e59] at hP
  have h60 : hs_kd g58 v0 = 10 := by rw [← e59]; exact h57
  refine hs_newI (t := 0) (k := 100) (N := 8) (atype := .int) hx hb (by decide) rfl (hts _ (List.mem_cons_of_mem _ wq44)) rfl (fun _ _ h => h) rfl hK.1 hP hS (by decide) (by rfl) (by decide) (Nat.le_of_ble_eq_true rfl) (Nat.le_of_ble_eq_true rfl) dX12_init_134 (fun H hP hS => ?_)
  refine W.widen (k := 16) (n := 72368) (by omega) (by omega) ?_
  obtain ⟨h61, hf⟩ := hs_ck hf
  refine hs_putr (C := RX12) (T := TX12) (N := 48) hx hb hts (fun w h => List.mem_cons_of_mem _ (inlX12 w h)) tyX12 tyX12_ok nmX12 hown hK.1 hP hS h61 (by decide) rfl 19 (by decide) (hts _ (List.mem_cons_of_mem _ wq138)) (fun _ h => h) (Or.inr ⟨rfl, hin, rfl⟩) (fun _ => rfl) (fun _ => rfl) rfl dX12_init_136 (fun H locs hP hS => ?_)
  refine lv_aload_n hx hb dX12_init_139 rfl (lv_at hl 0 rfl) ?_
  refine lv_sipush (v := 256) hx hb dX12_init_140 (by decide) ?_
  obtain ⟨g62, e63, hf⟩ := hs_bv_some hf
  replace e63 := Option.some.inj e63
  rw [e63] at hP
  have h64 : hs_kd g62 v0 = 10 := by rw [← e63]; exact h61
  refine hs_newI (t := 0) (k := 100) (N := 256) (atype := .int) hx hb (by decide) rfl (hts _ (List.mem_cons_of_mem _ wq44)) rfl (fun _ _ h => h) rfl hK.1 hP hS (by decide) (by rfl) (by decide) (Nat.le_of_ble_eq_true rfl) (Nat.le_of_ble_eq_true rfl) dX12_init_143 (fun H hP hS => ?_)
  refine W.widen (k := 17) (n := 72624) (by omega) (by omega) ?_
  obtain ⟨h65, hf⟩ := hs_ck hf
  refine hs_putr (C := RX12) (T := TX12) (N := 48) hx hb hts (fun w h => List.mem_cons_of_mem _ (inlX12 w h)) tyX12 tyX12_ok nmX12 hown hK.1 hP hS h65 (by decide) rfl 20 (by decide) (hts _ (List.mem_cons_of_mem _ wq139)) (fun _ h => h) (Or.inr ⟨rfl, hin, rfl⟩) (fun _ => rfl) (fun _ => rfl) rfl dX12_init_145 (fun H locs hP hS => ?_)
  refine lv_aload_n hx hb dX12_init_148 rfl (lv_at hl 0 rfl) ?_
  refine lv_sipush (v := 16008) hx hb dX12_init_149 (by decide) ?_
  obtain ⟨g66, e67, hf⟩ := hs_bv_some hf
  replace e67 := Option.some.inj e67
  rw [e67] at hP
  have h68 : hs_kd g66 v0 = 10 := by rw [← e67]; exact h65
  refine hs_newI (t := 0) (k := 100) (N := 16008) (atype := .int) hx hb (by decide) rfl (hts _ (List.mem_cons_of_mem _ wq44)) rfl (fun _ _ h => h) rfl hK.1 hP hS (by decide) (by rfl) (by decide) (Nat.le_of_ble_eq_true rfl) (Nat.le_of_ble_eq_true rfl) dX12_init_152 (fun H hP hS => ?_)
  refine W.widen (k := 18) (n := 88632) (by omega) (by omega) ?_
  obtain ⟨h69, hf⟩ := hs_ck hf
  refine hs_putr (C := RX12) (T := TX12) (N := 48) hx hb hts (fun w h => List.mem_cons_of_mem _ (inlX12 w h)) tyX12 tyX12_ok nmX12 hown hK.1 hP hS h69 (by decide) rfl 21 (by decide) (hts _ (List.mem_cons_of_mem _ wq140)) (fun _ h => h) (Or.inr ⟨rfl, hin, rfl⟩) (fun _ => rfl) (fun _ => rfl) rfl dX12_init_154 (fun H locs hP hS => ?_)
  refine lv_aload_n hx hb dX12_init_157 rfl (lv_at hl 0 rfl) ?_
  refine lv_sipush (v := 32008) hx hb dX12_init_158 (by decide) ?_
  obtain ⟨g70, e71, hf⟩ := hs_bv_some hf
  replace e71 := Option.some.inj e71
  rw [e71] at hP
  have h72 : hs_kd g70 v0 = 10 := by rw [← e71]; exact h69
  refine hs_newI (t := 0) (k := 100) (N := 32008) (atype := .int) hx hb (by decide) rfl (hts _ (List.mem_cons_of_mem _ wq44)) rfl (fun _ _ h => h) rfl hK.1 hP hS (by decide) (by rfl) (by decide) (Nat.le_of_ble_eq_true rfl) (Nat.le_of_ble_eq_true rfl) dX12_init_161 (fun H hP hS => ?_)
  refine W.widen (k := 19) (n := 120640) (by omega) (by omega) ?_
  obtain ⟨h73, hf⟩ := hs_ck hf
  refine hs_putr (C := RX12) (T := TX12) (N := 48) hx hb hts (fun w h => List.mem_cons_of_mem _ (inlX12 w h)) tyX12 tyX12_ok nmX12 hown hK.1 hP hS h73 (by decide) rfl 23 (by decide) (hts _ (List.mem_cons_of_mem _ wq141)) (fun _ h => h) (Or.inr ⟨rfl, hin, rfl⟩) (fun _ => rfl) (fun _ => rfl) rfl dX12_init_163 (fun H locs hP hS => ?_)
  refine lv_aload_n hx hb dX12_init_166 rfl (lv_at hl 0 rfl) ?_
  refine lv_bipush (v := 8) hx hb dX12_init_167 (by decide) ?_
  obtain ⟨g74, e75, hf⟩ := hs_bv_some hf
  replace e75 := Option.some.inj e75
  rw [e75] at hP
  have h76 : hs_kd g74 v0 = 10 := by rw [← e75]; exact h73
  refine hs_newI (t := 0) (k := 100) (N := 8) (atype := .int) hx hb (by decide) rfl (hts _ (List.mem_cons_of_mem _ wq44)) rfl (fun _ _ h => h) rfl hK.1 hP hS (by decide) (by rfl) (by decide) (Nat.le_of_ble_eq_true rfl) (Nat.le_of_ble_eq_true rfl) dX12_init_169 (fun H hP hS => ?_)
  refine W.widen (k := 20) (n := 120648) (by omega) (by omega) ?_
  obtain ⟨h77, hf⟩ := hs_ck hf
  refine hs_putr (C := RX12) (T := TX12) (N := 48) hx hb hts (fun w h => List.mem_cons_of_mem _ (inlX12 w h)) tyX12 tyX12_ok nmX12 hown hK.1 hP hS h77 (by decide) rfl 24 (by decide) (hts _ (List.mem_cons_of_mem _ wq142)) (fun _ h => h) (Or.inr ⟨rfl, hin, rfl⟩) (fun _ => rfl) (fun _ => rfl) rfl dX12_init_171 (fun H locs hP hS => ?_)
  refine lv_aload_n hx hb dX12_init_174 rfl (lv_at hl 0 rfl) ?_
  refine lv_sipush (v := 256) hx hb dX12_init_175 (by decide) ?_
  obtain ⟨g78, e79, hf⟩ := hs_bv_some hf
  replace e79 := Option.some.inj e79
  rw [e79] at hP
  have h80 : hs_kd g78 v0 = 10 := by rw [← e79]; exact h77
  refine hs_newI (t := 0) (k := 100) (N := 256) (atype := .int) hx hb (by decide) rfl (hts _ (List.mem_cons_of_mem _ wq44)) rfl (fun _ _ h => h) rfl hK.1 hP hS (by decide) (by rfl) (by decide) (Nat.le_of_ble_eq_true rfl) (Nat.le_of_ble_eq_true rfl) dX12_init_178 (fun H hP hS => ?_)
  refine W.widen (k := 21) (n := 120904) (by omega) (by omega) ?_
  obtain ⟨h81, hf⟩ := hs_ck hf
  refine hs_putr (C := RX12) (T := TX12) (N := 48) hx hb hts (fun w h => List.mem_cons_of_mem _ (inlX12 w h)) tyX12 tyX12_ok nmX12 hown hK.1 hP hS h81 (by decide) rfl 25 (by decide) (hts _ (List.mem_cons_of_mem _ wq143)) (fun _ h => h) (Or.inr ⟨rfl, hin, rfl⟩) (fun _ => rfl) (fun _ => rfl) rfl dX12_init_180 (fun H locs hP hS => ?_)
  refine lv_aload_n hx hb dX12_init_183 rfl (lv_at hl 0 rfl) ?_
  refine lv_bipush (v := 8) hx hb dX12_init_184 (by decide) ?_
  obtain ⟨g82, e83, hf⟩ := hs_bv_some hf
  replace e83 := Option.some.inj e83
  rw [e83] at hP
  have h84 : hs_kd g82 v0 = 10 := by rw [← e83]; exact h81
  refine hs_newI (t := 0) (k := 100) (N := 8) (atype := .int) hx hb (by decide) rfl (hts _ (List.mem_cons_of_mem _ wq44)) rfl (fun _ _ h => h) rfl hK.1 hP hS (by decide) (by rfl) (by decide) (Nat.le_of_ble_eq_true rfl) (Nat.le_of_ble_eq_true rfl) dX12_init_186 (fun H hP hS => ?_)
  refine W.widen (k := 22) (n := 120912) (by omega) (by omega) ?_
  obtain ⟨h85, hf⟩ := hs_ck hf
  refine hs_putr (C := RX12) (T := TX12) (N := 48) hx hb hts (fun w h => List.mem_cons_of_mem _ (inlX12 w h)) tyX12 tyX12_ok nmX12 hown hK.1 hP hS h85 (by decide) rfl 26 (by decide) (hts _ (List.mem_cons_of_mem _ wq144)) (fun _ h => h) (Or.inr ⟨rfl, hin, rfl⟩) (fun _ => rfl) (fun _ => rfl) rfl dX12_init_188 (fun H locs hP hS => ?_)
  refine lv_aload_n hx hb dX12_init_191 rfl (lv_at hl 0 rfl) ?_
  refine lv_sipush (v := 2001) hx hb dX12_init_192 (by decide) ?_
  obtain ⟨g86, e87, hf⟩ := hs_bv_some hf
  replace e87 := Option.some.inj e87
  rw [e87] at hP
  have h88 : hs_kd g86 v0 = 10 := by rw [← e87]; exact h85
  refine hs_newI (t := 0) (k := 100) (N := 2001) (atype := .int) hx hb (by decide) rfl (hts _ (List.mem_cons_of_mem _ wq44)) rfl (fun _ _ h => h) rfl hK.1 hP hS (by decide) (by rfl) (by decide) (Nat.le_of_ble_eq_true rfl) (Nat.le_of_ble_eq_true rfl) dX12_init_195 (fun H hP hS => ?_)
  refine W.widen (k := 23) (n := 122913) (by omega) (by omega) ?_
  obtain ⟨h89, hf⟩ := hs_ck hf
  refine hs_putr (C := RX12) (T := TX12) (N := 48) hx hb hts (fun w h => List.mem_cons_of_mem _ (inlX12 w h)) tyX12 tyX12_ok nmX12 hown hK.1 hP hS h89 (by decide) rfl 27 (by decide) (hts _ (List.mem_cons_of_mem _ wq145)) (fun _ h => h) (Or.inr ⟨rfl, hin, rfl⟩) (fun _ => rfl) (fun _ => rfl) rfl dX12_init_197 (fun H locs hP hS => ?_)
  refine lv_aload_n hx hb dX12_init_200 rfl (lv_at hl 0 rfl) ?_
  refine lv_sipush (v := 2001) hx hb dX12_init_201 (by decide) ?_
  obtain ⟨g90, e91, hf⟩ := hs_bv_some hf
  replace e91 := Option.some.inj e91
  rw [e91] at hP
  have h92 : hs_kd g90 v0 = 10 := by rw [← e91]; exact h89
  refine hs_newI (t := 0) (k := 100) (N := 2001) (atype := .int) hx hb (by decide) rfl (hts _ (List.mem_cons_of_mem _ wq44)) rfl (fun _ _ h => h) rfl hK.1 hP hS (by decide) (by rfl) (by decide) (Nat.le_of_ble_eq_true rfl) (Nat.le_of_ble_eq_true rfl) dX12_init_204 (fun H hP hS => ?_)
  refine W.widen (k := 24) (n := 124914) (by omega) (by omega) ?_
  obtain ⟨h93, hf⟩ := hs_ck hf
  refine hs_putr (C := RX12) (T := TX12) (N := 48) hx hb hts (fun w h => List.mem_cons_of_mem _ (inlX12 w h)) tyX12 tyX12_ok nmX12 hown hK.1 hP hS h93 (by decide) rfl 28 (by decide) (hts _ (List.mem_cons_of_mem _ wq146)) (fun _ h => h) (Or.inr ⟨rfl, hin, rfl⟩) (fun _ => rfl) (fun _ => rfl) rfl dX12_init_206 (fun H locs hP hS => ?_)
  refine lv_aload_n hx hb dX12_init_209 rfl (lv_at hl 0 rfl) ?_
  refine lv_sipush (v := 2001) hx hb dX12_init_210 (by decide) ?_
  obtain ⟨g94, e95, hf⟩ := hs_bv_some hf
  replace e95 := Option.some.inj e95
  rw [e95] at hP
  have h96 : hs_kd g94 v0 = 10 := by rw [← e95]; exact h93
  refine hs_newI (t := 1) (k := 101) (N := 2001) (atype := .boolean) hx hb (by decide) rfl (hts _ (List.mem_cons_of_mem _ wq129)) rfl (fun _ _ h => h) rfl hK.1 hP hS (by decide) (by rfl) (by decide) (Nat.le_of_ble_eq_true rfl) (Nat.le_of_ble_eq_true rfl) dX12_init_213 (fun H hP hS => ?_)
  refine W.widen (k := 25) (n := 126915) (by omega) (by omega) ?_
  obtain ⟨h97, hf⟩ := hs_ck hf
  refine hs_putr (C := RX12) (T := TX12) (N := 48) hx hb hts (fun w h => List.mem_cons_of_mem _ (inlX12 w h)) tyX12 tyX12_ok nmX12 hown hK.1 hP hS h97 (by decide) rfl 29 (by decide) (hts _ (List.mem_cons_of_mem _ wq147)) (fun _ h => h) (Or.inr ⟨rfl, hin, rfl⟩) (fun _ => rfl) (fun _ => rfl) rfl dX12_init_215 (fun H locs hP hS => ?_)
  refine lv_aload_n hx hb dX12_init_218 rfl (lv_at hl 0 rfl) ?_
  refine lv_sipush (v := 12008) hx hb dX12_init_219 (by decide) ?_
  obtain ⟨g98, e99, hf⟩ := hs_bv_some hf
  replace e99 := Option.some.inj e99
  rw [e99] at hP
  have h100 : hs_kd g98 v0 = 10 := by rw [← e99]; exact h97
  refine hs_newI (t := 0) (k := 100) (N := 12008) (atype := .int) hx hb (by decide) rfl (hts _ (List.mem_cons_of_mem _ wq44)) rfl (fun _ _ h => h) rfl hK.1 hP hS (by decide) (by rfl) (by decide) (Nat.le_of_ble_eq_true rfl) (Nat.le_of_ble_eq_true rfl) dX12_init_222 (fun H hP hS => ?_)
  refine W.widen (k := 26) (n := 138923) (by omega) (by omega) ?_
  obtain ⟨h101, hf⟩ := hs_ck hf
  refine hs_putr (C := RX12) (T := TX12) (N := 48) hx hb hts (fun w h => List.mem_cons_of_mem _ (inlX12 w h)) tyX12 tyX12_ok nmX12 hown hK.1 hP hS h101 (by decide) rfl 30 (by decide) (hts _ (List.mem_cons_of_mem _ wq148)) (fun _ h => h) (Or.inr ⟨rfl, hin, rfl⟩) (fun _ => rfl) (fun _ => rfl) rfl dX12_init_224 (fun H locs hP hS => ?_)
  refine lv_aload_n hx hb dX12_init_227 rfl (lv_at hl 0 rfl) ?_
  refine lv_sipush (v := 256) hx hb dX12_init_228 (by decide) ?_
  obtain ⟨g102, e103, hf⟩ := hs_bv_some hf
  replace e103 := Option.some.inj e103
  rw [e103] at hP
  have h104 : hs_kd g102 v0 = 10 := by rw [← e103]; exact h101
  refine hs_newI (t := 0) (k := 100) (N := 256) (atype := .int) hx hb (by decide) rfl (hts _ (List.mem_cons_of_mem _ wq44)) rfl (fun _ _ h => h) rfl hK.1 hP hS (by decide) (by rfl) (by decide) (Nat.le_of_ble_eq_true rfl) (Nat.le_of_ble_eq_true rfl) dX12_init_231 (fun H hP hS => ?_)
  refine W.widen (k := 27) (n := 139179) (by omega) (by omega) ?_
  obtain ⟨h105, hf⟩ := hs_ck hf
  refine hs_putr (C := RX12) (T := TX12) (N := 48) hx hb hts (fun w h => List.mem_cons_of_mem _ (inlX12 w h)) tyX12 tyX12_ok nmX12 hown hK.1 hP hS h105 (by decide) rfl 32 (by decide) (hts _ (List.mem_cons_of_mem _ wq149)) (fun _ h => h) (Or.inr ⟨rfl, hin, rfl⟩) (fun _ => rfl) (fun _ => rfl) rfl dX12_init_233 (fun H locs hP hS => ?_)
  refine lv_aload_n hx hb dX12_init_236 rfl (lv_at hl 0 rfl) ?_
  refine lv_iconst (v := 4) hx hb dX12_init_237 (by decide) ?_
  obtain ⟨g106, e107, hf⟩ := hs_bv_some hf
  replace e107 := Option.some.inj e107
  rw [e107] at hP
  have h108 : hs_kd g106 v0 = 10 := by rw [← e107]; exact h105
  refine hs_newI (t := 0) (k := 100) (N := 4) (atype := .int) hx hb (by decide) rfl (hts _ (List.mem_cons_of_mem _ wq44)) rfl (fun _ _ h => h) rfl hK.1 hP hS (by decide) (by rfl) (by decide) (Nat.le_of_ble_eq_true rfl) (Nat.le_of_ble_eq_true rfl) dX12_init_238 (fun H hP hS => ?_)
  refine W.widen (k := 28) (n := 139183) (by omega) (by omega) ?_
  obtain ⟨h109, hf⟩ := hs_ck hf
  refine hs_putr (C := RX12) (T := TX12) (N := 48) hx hb hts (fun w h => List.mem_cons_of_mem _ (inlX12 w h)) tyX12 tyX12_ok nmX12 hown hK.1 hP hS h109 (by decide) rfl 34 (by decide) (hts _ (List.mem_cons_of_mem _ wq150)) (fun _ h => h) (Or.inr ⟨rfl, hin, rfl⟩) (fun _ => rfl) (fun _ => rfl) rfl dX12_init_240 (fun H locs hP hS => ?_)
  refine lv_aload_n hx hb dX12_init_243 rfl (lv_at hl 0 rfl) ?_
  refine lv_sipush (v := 4004) hx hb dX12_init_244 (by decide) ?_
  obtain ⟨g110, e111, hf⟩ := hs_bv_some hf
  replace e111 := Option.some.inj e111
  rw [e111] at hP
  have h112 : hs_kd g110 v0 = 10 := by rw [← e111]; exact h109
  refine hs_newI (t := 0) (k := 100) (N := 4004) (atype := .int) hx hb (by decide) rfl (hts _ (List.mem_cons_of_mem _ wq44)) rfl (fun _ _ h => h) rfl hK.1 hP hS (by decide) (by rfl) (by decide) (Nat.le_of_ble_eq_true rfl) (Nat.le_of_ble_eq_true rfl) dX12_init_247 (fun H hP hS => ?_)
  refine W.widen (k := 29) (n := 143187) (by omega) (by omega) ?_
  obtain ⟨h113, hf⟩ := hs_ck hf
  refine hs_putr (C := RX12) (T := TX12) (N := 48) hx hb hts (fun w h => List.mem_cons_of_mem _ (inlX12 w h)) tyX12 tyX12_ok nmX12 hown hK.1 hP hS h113 (by decide) rfl 35 (by decide) (hts _ (List.mem_cons_of_mem _ wq151)) (fun _ h => h) (Or.inr ⟨rfl, hin, rfl⟩) (fun _ => rfl) (fun _ => rfl) rfl dX12_init_249 (fun H locs hP hS => ?_)
  refine lv_aload_n hx hb dX12_init_252 rfl (lv_at hl 0 rfl) ?_
  refine lv_bipush (v := 60) hx hb dX12_init_253 (by decide) ?_
  obtain ⟨g114, e115, hf⟩ := hs_bv_some hf
  replace e115 := Option.some.inj e115
  rw [e115] at hP
  have h116 : hs_kd g114 v0 = 10 := by rw [← e115]; exact h113
  refine hs_newI (t := 0) (k := 100) (N := 60) (atype := .int) hx hb (by decide) rfl (hts _ (List.mem_cons_of_mem _ wq44)) rfl (fun _ _ h => h) rfl hK.1 hP hS (by decide) (by rfl) (by decide) (Nat.le_of_ble_eq_true rfl) (Nat.le_of_ble_eq_true rfl) dX12_init_255 (fun H hP hS => ?_)
  refine W.widen (k := 30) (n := 143247) (by omega) (by omega) ?_
  obtain ⟨h117, hf⟩ := hs_ck hf
  refine hs_putr (C := RX12) (T := TX12) (N := 48) hx hb hts (fun w h => List.mem_cons_of_mem _ (inlX12 w h)) tyX12 tyX12_ok nmX12 hown hK.1 hP hS h117 (by decide) rfl 41 (by decide) (hts _ (List.mem_cons_of_mem _ wq152)) (fun _ h => h) (Or.inr ⟨rfl, hin, rfl⟩) (fun _ => rfl) (fun _ => rfl) rfl dX12_init_257 (fun H locs hP hS => ?_)
  refine lv_aload_n hx hb dX12_init_260 rfl (lv_at hl 0 rfl) ?_
  refine lv_bipush (v := 60) hx hb dX12_init_261 (by decide) ?_
  obtain ⟨g118, e119, hf⟩ := hs_bv_some hf
  replace e119 := Option.some.inj e119
  rw [e119] at hP
  have h120 : hs_kd g118 v0 = 10 := by rw [← e119]; exact h117
  refine hs_newI (t := 0) (k := 100) (N := 60) (atype := .int) hx hb (by decide) rfl (hts _ (List.mem_cons_of_mem _ wq44)) rfl (fun _ _ h => h) rfl hK.1 hP hS (by decide) (by rfl) (by decide) (Nat.le_of_ble_eq_true rfl) (Nat.le_of_ble_eq_true rfl) dX12_init_263 (fun H hP hS => ?_)
  refine W.widen (k := 31) (n := 143307) (by omega) (by omega) ?_
  obtain ⟨h121, hf⟩ := hs_ck hf
  refine hs_putr (C := RX12) (T := TX12) (N := 48) hx hb hts (fun w h => List.mem_cons_of_mem _ (inlX12 w h)) tyX12 tyX12_ok nmX12 hown hK.1 hP hS h121 (by decide) rfl 42 (by decide) (hts _ (List.mem_cons_of_mem _ wq153)) (fun _ h => h) (Or.inr ⟨rfl, hin, rfl⟩) (fun _ => rfl) (fun _ => rfl) rfl dX12_init_265 (fun H locs hP hS => ?_)
  refine lv_aload_n hx hb dX12_init_268 rfl (lv_at hl 0 rfl) ?_
  refine lv_bipush (v := 60) hx hb dX12_init_269 (by decide) ?_
  obtain ⟨g122, e123, hf⟩ := hs_bv_some hf
  replace e123 := Option.some.inj e123
  rw [e123] at hP
  have h124 : hs_kd g122 v0 = 10 := by rw [← e123]; exact h121
  refine hs_newI (t := 0) (k := 100) (N := 60) (atype := .int) hx hb (by decide) rfl (hts _ (List.mem_cons_of_mem _ wq44)) rfl (fun _ _ h => h) rfl hK.1 hP hS (by decide) (by rfl) (by decide) (Nat.le_of_ble_eq_true rfl) (Nat.le_of_ble_eq_true rfl) dX12_init_271 (fun H hP hS => ?_)
  refine W.widen (k := 32) (n := 143367) (by omega) (by omega) ?_
  obtain ⟨h125, hf⟩ := hs_ck hf
  refine hs_putr (C := RX12) (T := TX12) (N := 48) hx hb hts (fun w h => List.mem_cons_of_mem _ (inlX12 w h)) tyX12 tyX12_ok nmX12 hown hK.1 hP hS h125 (by decide) rfl 43 (by decide) (hts _ (List.mem_cons_of_mem _ wq154)) (fun _ h => h) (Or.inr ⟨rfl, hin, rfl⟩) (fun _ => rfl) (fun _ => rfl) rfl dX12_init_273 (fun H locs hP hS => ?_)
  refine lv_aload_n hx hb dX12_init_276 rfl (lv_at hl 0 rfl) ?_
  refine lv_sipush (v := 1440) hx hb dX12_init_277 (by decide) ?_
  obtain ⟨g126, e127, hf⟩ := hs_bv_some hf
  replace e127 := Option.some.inj e127
  rw [e127] at hP
  have h128 : hs_kd g126 v0 = 10 := by rw [← e127]; exact h125
  refine hs_newI (t := 0) (k := 100) (N := 1440) (atype := .int) hx hb (by decide) rfl (hts _ (List.mem_cons_of_mem _ wq44)) rfl (fun _ _ h => h) rfl hK.1 hP hS (by decide) (by rfl) (by decide) (Nat.le_of_ble_eq_true rfl) (Nat.le_of_ble_eq_true rfl) dX12_init_280 (fun H hP hS => ?_)
  refine W.widen (k := 33) (n := 144807) (by omega) (by omega) ?_
  obtain ⟨h129, hf⟩ := hs_ck hf
  refine hs_putr (C := RX12) (T := TX12) (N := 48) hx hb hts (fun w h => List.mem_cons_of_mem _ (inlX12 w h)) tyX12 tyX12_ok nmX12 hown hK.1 hP hS h129 (by decide) rfl 44 (by decide) (hts _ (List.mem_cons_of_mem _ wq155)) (fun _ h => h) (Or.inr ⟨rfl, hin, rfl⟩) (fun _ => rfl) (fun _ => rfl) rfl dX12_init_282 (fun H locs hP hS => ?_)
  refine lv_aload_n hx hb dX12_init_285 rfl (lv_at hl 0 rfl) ?_
  refine lv_sipush (v := 1200) hx hb dX12_init_286 (by decide) ?_
  obtain ⟨g130, e131, hf⟩ := hs_bv_some hf
  replace e131 := Option.some.inj e131
  rw [e131] at hP
  have h132 : hs_kd g130 v0 = 10 := by rw [← e131]; exact h129
  refine hs_newI (t := 0) (k := 100) (N := 1200) (atype := .int) hx hb (by decide) rfl (hts _ (List.mem_cons_of_mem _ wq44)) rfl (fun _ _ h => h) rfl hK.1 hP hS (by decide) (by rfl) (by decide) (Nat.le_of_ble_eq_true rfl) (Nat.le_of_ble_eq_true rfl) dX12_init_289 (fun H hP hS => ?_)
  refine W.widen (k := 34) (n := 146007) (by omega) (by omega) ?_
  obtain ⟨h133, hf⟩ := hs_ck hf
  refine hs_putr (C := RX12) (T := TX12) (N := 48) hx hb hts (fun w h => List.mem_cons_of_mem _ (inlX12 w h)) tyX12 tyX12_ok nmX12 hown hK.1 hP hS h133 (by decide) rfl 45 (by decide) (hts _ (List.mem_cons_of_mem _ wq156)) (fun _ h => h) (Or.inr ⟨rfl, hin, rfl⟩) (fun _ => rfl) (fun _ => rfl) rfl dX12_init_291 (fun H locs hP hS => ?_)
  refine lv_aload_n hx hb dX12_init_294 rfl (lv_at hl 0 rfl) ?_
  obtain ⟨g134, h136, hf⟩ := hs_bv_some hf
  refine hs_callv (va_runV (As := []) (rest := []) ⟨hx, hb, hml, hown, hts⟩ (ctX12_begin l B D E v0 (hs_wR (hs_new g130 100 1200) v0 45 g130.1) _ h136) (cwV 0 hts (hs_gV (fun _ h => List.mem_cons_of_mem _ h) wq157 wq158 wq159 wq5 wq160) rfl rfl rfl (by decide +kernel) ⟨Nat.le_of_ble_eq_true rfl, Nat.le_of_ble_eq_true rfl⟩) (hs_preV (r := (RX12, TX12, 48)) hP hK h133 (by decide) rfl) rfl rfl hl.1 rfl (lv_room (Nat.le_of_ble_eq_true rfl)) dX12_init_295 ⟨(Nat.le_of_ble_eq_true rfl), (Nat.le_of_ble_eq_true rfl)⟩) hS (fun H locs hP hS => ?_)
  refine W.widen (k := 34) (n := 146007) (by omega) (by omega) ?_
  exact hs_vret hx hb hr hlocks hK hP hS hf dX12_init_298

theorem dX12_feed_0 : decode cX12_feed 0 = .ok (.iload_n 3, 1) := by decide +kernel
theorem dX12_feed_1 : decode cX12_feed 1 = .ok (.iconst 1, 1) := by decide +kernel
theorem dX12_feed_2 : decode cX12_feed 2 = .ok (.if_icmp .lt 9, 3) := by decide +kernel
theorem dX12_feed_5 : decode cX12_feed 5 = .ok (.iload_n 3, 1) := by decide +kernel
theorem dX12_feed_6 : decode cX12_feed 6 = .ok (.bipush 8, 2) := by decide +kernel
theorem dX12_feed_8 : decode cX12_feed 8 = .ok (.if_icmp .le 6, 3) := by decide +kernel
theorem dX12_feed_11 : decode cX12_feed 11 = .ok (.bipush (-3), 2) := by decide +kernel
theorem dX12_feed_13 : decode cX12_feed 13 = .ok (.ireturn, 1) := by decide +kernel
theorem dX12_feed_14 : decode cX12_feed 14 = .ok (.aload_n 0, 1) := by decide +kernel
theorem dX12_feed_15 : decode cX12_feed 15 = .ok (.getfield 124, 3) := by decide +kernel
theorem dX12_feed_18 : decode cX12_feed 18 = .ok (.iload_n 3, 1) := by decide +kernel
theorem dX12_feed_19 : decode cX12_feed 19 = .ok (.iadd, 1) := by decide +kernel
theorem dX12_feed_20 : decode cX12_feed 20 = .ok (.sipush 6000, 3) := by decide +kernel
theorem dX12_feed_23 : decode cX12_feed 23 = .ok (.if_icmp .le 6, 3) := by decide +kernel
theorem dX12_feed_26 : decode cX12_feed 26 = .ok (.bipush (-4), 2) := by decide +kernel
theorem dX12_feed_28 : decode cX12_feed 28 = .ok (.ireturn, 1) := by decide +kernel
theorem dX12_feed_29 : decode cX12_feed 29 = .ok (.iload_n 3, 1) := by decide +kernel
theorem dX12_feed_30 : decode cX12_feed 30 = .ok (.iconst 1, 1) := by decide +kernel
theorem dX12_feed_31 : decode cX12_feed 31 = .ok (.isub, 1) := by decide +kernel
theorem dX12_feed_32 : decode cX12_feed 32 = .ok (.istore 4, 2) := by decide +kernel
theorem dX12_feed_34 : decode cX12_feed 34 = .ok (.iload 4, 2) := by decide +kernel
theorem dX12_feed_36 : decode cX12_feed 36 = .ok (.ifCond .lt 40, 3) := by decide +kernel
theorem dX12_feed_39 : decode cX12_feed 39 = .ok (.aload_n 0, 1) := by decide +kernel
theorem dX12_feed_40 : decode cX12_feed 40 = .ok (.getfield 13, 3) := by decide +kernel
theorem dX12_feed_43 : decode cX12_feed 43 = .ok (.aload_n 0, 1) := by decide +kernel
theorem dX12_feed_44 : decode cX12_feed 44 = .ok (.getfield 124, 3) := by decide +kernel
theorem dX12_feed_47 : decode cX12_feed 47 = .ok (.lload_n 1, 1) := by decide +kernel
theorem dX12_feed_48 : decode cX12_feed 48 = .ok (.bipush 8, 2) := by decide +kernel
theorem dX12_feed_50 : decode cX12_feed 50 = .ok (.iload 4, 2) := by decide +kernel
theorem dX12_feed_52 : decode cX12_feed 52 = .ok (.imul, 1) := by decide +kernel
theorem dX12_feed_53 : decode cX12_feed 53 = .ok (.lushr, 1) := by decide +kernel
theorem dX12_feed_54 : decode cX12_feed 54 = .ok (.l2i, 1) := by decide +kernel
theorem dX12_feed_55 : decode cX12_feed 55 = .ok (.sipush 255, 3) := by decide +kernel
theorem dX12_feed_58 : decode cX12_feed 58 = .ok (.iand, 1) := by decide +kernel
theorem dX12_feed_59 : decode cX12_feed 59 = .ok (.iastore, 1) := by decide +kernel
theorem dX12_feed_60 : decode cX12_feed 60 = .ok (.aload_n 0, 1) := by decide +kernel
theorem dX12_feed_61 : decode cX12_feed 61 = .ok (.dup, 1) := by decide +kernel
theorem dX12_feed_62 : decode cX12_feed 62 = .ok (.getfield 124, 3) := by decide +kernel
theorem dX12_feed_65 : decode cX12_feed 65 = .ok (.iconst 1, 1) := by decide +kernel
theorem dX12_feed_66 : decode cX12_feed 66 = .ok (.iadd, 1) := by decide +kernel
theorem dX12_feed_67 : decode cX12_feed 67 = .ok (.putfield 124, 3) := by decide +kernel
theorem dX12_feed_70 : decode cX12_feed 70 = .ok (.iinc 4 (-1), 3) := by decide +kernel
theorem dX12_feed_73 : decode cX12_feed 73 = .ok (.goto (-39), 3) := by decide +kernel
theorem dX12_feed_76 : decode cX12_feed 76 = .ok (.aload_n 0, 1) := by decide +kernel
theorem dX12_feed_77 : decode cX12_feed 77 = .ok (.getfield 124, 3) := by decide +kernel
theorem dX12_feed_80 : decode cX12_feed 80 = .ok (.ireturn, 1) := by decide +kernel
abbrev wcX12_feed : List Cond := .code yX12_feed cX12_feed 5 (some .int) :: wsL_law
def lX12_feed_34 : Nat → Nat → Int64 → Int32 → hs_S → Option (hs_S)
  | 0, _, _, _, _ => none
  | n + 1, v0, v1, v4, g =>
    if v4 < 0 then (
      some g
    ) else (
      if hs_kd g v0 = 10 then
      if ¬ (hs_R g v0 1) = 0 then
      if hs_kd g ((hs_R g v0 1) - 1) = 100 then
      if hs_in (hs_I g v0 2) (hs_ln g ((hs_R g v0 1) - 1)) = true then
      hs_bv (some (hs_wI g ((hs_R g v0 1) - 1) (hs_I g v0 2).toNatClampNeg ((((v1.toUInt64 >>> (((8 : Int32) * v4).toInt64.toUInt64 &&& Int64.toUInt64 63)).toInt64).toInt32) &&& (255 : Int32)))) fun g6 =>
      lX12_feed_34 n v0 v1 (v4 + (-1 : Int32)) (hs_wI g6 v0 2 ((hs_I g6 v0 2) + (1 : Int32)))
      else none else none else none else none
    )
theorem lX12_feed_34_s (n : Nat) (v0 : Nat) (v1 : Int64) (v4 : Int32) (g : hs_S) : lX12_feed_34 (n + 1) v0 v1 v4 g =
    if v4 < 0 then (
      some g
    ) else (
      if hs_kd g v0 = 10 then
      if ¬ (hs_R g v0 1) = 0 then
      if hs_kd g ((hs_R g v0 1) - 1) = 100 then
      if hs_in (hs_I g v0 2) (hs_ln g ((hs_R g v0 1) - 1)) = true then
      hs_bv (some (hs_wI g ((hs_R g v0 1) - 1) (hs_I g v0 2).toNatClampNeg ((((v1.toUInt64 >>> (((8 : Int32) * v4).toInt64.toUInt64 &&& Int64.toUInt64 63)).toInt64).toInt32) &&& (255 : Int32)))) fun g6 =>
      lX12_feed_34 n v0 v1 (v4 + (-1 : Int32)) (hs_wI g6 v0 2 ((hs_I g6 v0 2) + (1 : Int32)))
      else none else none else none else none
    ) := rfl
def fX12_feed (v0 : Nat) (v1 : Int64) (v3 : Int32) (g : hs_S) : Option (Int32 × hs_S) :=
  if v3 < (1 : Int32) then (
    some ((-3 : Int32), g)
  ) else (
    if v3 ≤ (8 : Int32) then (
      if hs_kd g v0 = 10 then
      if ((hs_I g v0 2) + v3) ≤ (6000 : Int32) then (
        hs_bv (lX12_feed_34 hs_N v0 v1 (v3 - (1 : Int32)) g) fun g12 =>
        if hs_kd g12 v0 = 10 then
        some ((hs_I g12 v0 2), g12)
        else none
      ) else (
        some ((-4 : Int32), g)
      )
      else none
    ) else (
      some ((-3 : Int32), g)
    )
  )
abbrev rmX12_feed : Room := { frames := 0, cells := 0, slots := 0, locals := 0 }
set_option maxHeartbeats 4000000 in
set_option maxRecDepth 100000 in
theorem wX12_feed_34 {p : Program} {l : Launch} {e : Env} {s : State} {m : MethodId} {args : Array Value} {below : List Frame} {meth : Method} {c : Code} {B : Nat} {D : va_G} {E : Nat → ClassId} (hX : hs_cx cX12_feed (some .int) 5 RX12 wcX12_feed p s m args meth c D E) {Q : State → Prop} {o : hs_S} {v0 : Nat} {v1 : Int64} (hex0 : ∀ (H : Heap) (locs : List Loc) (ls : Array Slot), hs_P B D E (o) H → hs_Sx B s.heap H locs → lv_has ls 5 [(0, .ref (B + v0))] → W p l e rmX12_feed s m args below meth c H locs 0 0 Q (F0 m 76 ls [])) : ∀ (n : Nat) (v4 : Int32) (g : hs_S), lX12_feed_34 n v0 v1 v4 g = some o → ∀ (H : Heap) (locs : List Loc) (ls : Array Slot), hs_P B D E g H → hs_Sx B s.heap H locs → lv_has ls 5 [(0, .ref (B + v0)), (1, .long v1), (4, .int v4)] → W p l e rmX12_feed s m args below meth c H locs 0 0 Q (F0 m 34 ls []) := by
  obtain ⟨hx, hb, hr, hml, hown, hts, hlocks, hK⟩ := id hX
  intro n
  induction n with
  | zero =>
    intro v4 g hf
    cases hf
  | succ n ih =>
    intro v4 g hf H locs ls hP hS hl
    replace hf := (lX12_feed_34_s n v0 v1 v4 g).symm.trans hf
    refine lv_iload hx hb dX12_feed_34 (lv_at hl 2 rfl) ?_
    refine lv_if_lt (tgt := 76) hx hb dX12_feed_36 (by decide) (fun hc => ?_) (fun hc => ?_)
    · replace hf := hs_t hf hc
      obtain rfl := Option.some.inj hf
      exact hex0 _ _ _ hP hS (lv_sub hl [0] rfl)
    · replace hf := hs_f hf hc
      refine lv_aload_n hx hb dX12_feed_39 rfl (lv_at hl 0 rfl) ?_
      obtain ⟨h2, hf⟩ := hs_ck hf
      obtain ⟨h3, hf⟩ := hs_ck hf
      refine hs_getr (C := RX12) (T := TX12) (N := 48) hx hb hts (fun w h => List.mem_cons_of_mem _ (inlX12 w h)) hown hK.1 hP h2 (by decide) rfl 1 (by decide) (hts _ (List.mem_cons_of_mem _ wq122)) (fun _ h => h) rfl h3 dX12_feed_40 ?_
      refine lv_aload_n hx hb dX12_feed_43 rfl (lv_at hl 0 rfl) ?_
      refine hs_geti (C := RX12) (T := TX12) (N := 48) hx hb hts (fun w h => List.mem_cons_of_mem _ (inlX12 w h)) hown hK.1 hP h2 (by decide) rfl 2 (by decide) (hts _ (List.mem_cons_of_mem _ wq176)) (fun _ h => h) rfl dX12_feed_44 ?_
      refine lv_lload_n hx hb dX12_feed_47 rfl (lv_at hl 1 rfl) ?_
      refine lv_bipush (v := 8) hx hb dX12_feed_48 (by decide) ?_
      refine lv_iload hx hb dX12_feed_50 (lv_at hl 2 rfl) ?_
      refine lv_imul hx hb dX12_feed_52 ?_
      refine lv_lushr hx hb dX12_feed_53 rfl ?_
      refine lv_l2i hx hb dX12_feed_54 rfl ?_
      refine lv_sipush (v := 255) hx hb dX12_feed_55 (by decide) ?_
      refine lv_iand hx hb dX12_feed_58 ?_
      obtain ⟨h4, hf⟩ := hs_ck hf
      obtain ⟨h5, hf⟩ := hs_ck hf
      refine hs_iast hx hb hK.1 hP hS h4 h5 dX12_feed_59 (fun H locs hP hS => ?_)
      obtain ⟨g6, e7, hf⟩ := hs_bv_some hf
      replace e7 := Option.some.inj e7
      rw [e7] at hP
      have h8 : hs_kd g6 v0 = 10 := by rw [← e7]; exact h2
      have h9 : hs_kd g6 ((hs_R g v0 1) - 1) = 100 := by rw [← e7]; exact h4
      have h10 : hs_in (hs_I g v0 2) (hs_ln g6 ((hs_R g v0 1) - 1)) = true := by rw [← e7]; exact h5
      refine lv_aload_n hx hb dX12_feed_60 rfl (lv_at hl 0 rfl) ?_
      refine lv_dup hx hb dX12_feed_61 rfl ?_
      refine hs_geti (C := RX12) (T := TX12) (N := 48) hx hb hts (fun w h => List.mem_cons_of_mem _ (inlX12 w h)) hown hK.1 hP h8 (by decide) rfl 2 (by decide) (hts _ (List.mem_cons_of_mem _ wq176)) (fun _ h => h) rfl dX12_feed_62 ?_
      refine lv_iconst (v := 1) hx hb dX12_feed_65 (by decide) ?_
      refine lv_iadd hx hb dX12_feed_66 ?_
      refine hs_puti (C := RX12) (T := TX12) (N := 48) hx hb hts (fun w h => List.mem_cons_of_mem _ (inlX12 w h)) tyX12 tyX12_ok nmX12 hown hK.1 hP hS h8 (by decide) rfl 2 (by decide) (hts _ (List.mem_cons_of_mem _ wq176)) (fun _ h => h) (Or.inl rfl) rfl rfl rfl dX12_feed_67 (fun H locs hP hS => ?_)
      refine lv_iinc (v := (v4 + (-1 : Int32))) (lv' := [(4, .int (v4 + (-1 : Int32))), (0, .ref (B + v0)), (1, .long v1)]) hx hb dX12_feed_70 hl (k := 2) rfl (by rfl) (by decide) rfl (fun ls hl => ?_)
      refine lv_goto (tgt := 34) hx hb dX12_feed_73 (by decide) ?_
      exact ih _ _ hf _ _ _ hP hS (lv_sub hl [1, 2, 0] rfl)

set_option maxHeartbeats 4000000 in
set_option maxRecDepth 100000 in
theorem ctX12_feed (l : Launch) (B : Nat) (D : va_G) (E : Nat → ClassId) (v0 : Nat) (v1 : Int64) (v3 : Int32) (g : hs_S) (o : Int32 × hs_S) (hf : fX12_feed v0 v1 v3 g = some o) : Met l yX12_feed wcX12_feed rmX12_feed (hs_Pc B D E g [.ref (B + v0), .long v1, .int v3]) (hs_Qi B D E o) (0) (0) (hs_F B) := by
  refine Met.ofW (cc := cX12_feed) (maxL := 5) (ret := (some .int)) (by decide) rfl ?_
  intro p e s m args below meth c s₁ Bd hml hv
  obtain ⟨rfl, hP, hK⟩ := hv
  have hx := Bd.exec
  have hb := Bd.bytes
  have hr := Bd.returns
  have hts := atoms_spec (ws := wcX12_feed) Bd.pre
  have hown : s.vm.findClass RX12 = some m.cls := findClass_of_methodNamed Bd.named
  have hlocks := Bd.notSynchronized
  have hS : hs_Sx B s.heap s.heap [] := va_S.rf
  have hX : hs_cx cX12_feed (some .int) 5 RX12 wcX12_feed p s m (List.toArray [.ref (B + v0), .long v1, .int v3]) meth c D E := ⟨hx, hb, hr, hml, hown, hts, hlocks, hK⟩
  have hl := lv_entry ([.ref (B + v0), .long v1, .int v3]) (n := 5) (Nat.le_of_ble_eq_true rfl)
  rw [lg_entry_eq]
  generalize (lg_sl ([.ref (B + v0), .long v1, .int v3]) ++ List.replicate (5 - (lg_sl ([.ref (B + v0), .long v1, .int v3])).length) Slot.unset).toArray = ls at hl ⊢
  have hl : lv_has ls 5 [(0, .ref (B + v0)), (1, .long v1), (3, .int v3)] := hl
  have hP : hs_P B D E g s.heap := hP
  unfold fX12_feed at hf
  refine lv_iload_n hx hb dX12_feed_0 rfl (lv_at hl 2 rfl) ?_
  refine lv_iconst (v := 1) hx hb dX12_feed_1 (by decide) ?_
  refine lv_icmp_lt (tgt := 11) hx hb dX12_feed_2 (by decide) (fun hc => ?_) (fun hc => ?_)
  · replace hf := hs_t hf hc
    refine lv_bipush (v := -3) hx hb dX12_feed_11 (by decide) ?_
    exact hs_iret hx hb hr hlocks rfl hK hP hS hf dX12_feed_13
  · replace hf := hs_f hf hc
    refine lv_iload_n hx hb dX12_feed_5 rfl (lv_at hl 2 rfl) ?_
    refine lv_bipush (v := 8) hx hb dX12_feed_6 (by decide) ?_
    refine lv_icmp_le (tgt := 14) hx hb dX12_feed_8 (by decide) (fun hc => ?_) (fun hc => ?_)
    · replace hf := hs_t hf hc
      refine lv_aload_n hx hb dX12_feed_14 rfl (lv_at hl 0 rfl) ?_
      obtain ⟨h1, hf⟩ := hs_ck hf
      refine hs_geti (C := RX12) (T := TX12) (N := 48) hx hb hts (fun w h => List.mem_cons_of_mem _ (inlX12 w h)) hown hK.1 hP h1 (by decide) rfl 2 (by decide) (hts _ (List.mem_cons_of_mem _ wq176)) (fun _ h => h) rfl dX12_feed_15 ?_
      refine lv_iload_n hx hb dX12_feed_18 rfl (lv_at hl 2 rfl) ?_
      refine lv_iadd hx hb dX12_feed_19 ?_
      refine lv_sipush (v := 6000) hx hb dX12_feed_20 (by decide) ?_
      refine lv_icmp_le (tgt := 29) hx hb dX12_feed_23 (by decide) (fun hc => ?_) (fun hc => ?_)
      · replace hf := hs_t hf hc
        refine lv_iload_n hx hb dX12_feed_29 rfl (lv_at hl 2 rfl) ?_
        refine lv_iconst (v := 1) hx hb dX12_feed_30 (by decide) ?_
        refine lv_isub hx hb dX12_feed_31 ?_
        refine lv_istore (lv' := [(4, .int (v3 - (1 : Int32))), (0, .ref (B + v0)), (1, .long v1), (3, .int v3)]) hx hb dX12_feed_32 hl (by decide) rfl (fun ls hl => ?_)
        obtain ⟨g12, h13, hf⟩ := hs_bv_some hf
        refine wX12_feed_34 hX (fun H locs ls hP hS hl => ?_) hs_N _ _ h13 _ _ _ hP hS (lv_sub hl [1, 2, 0] rfl)
        refine lv_aload_n hx hb dX12_feed_76 rfl (lv_at hl 0 rfl) ?_
        obtain ⟨h14, hf⟩ := hs_ck hf
        refine hs_geti (C := RX12) (T := TX12) (N := 48) hx hb hts (fun w h => List.mem_cons_of_mem _ (inlX12 w h)) hown hK.1 hP h14 (by decide) rfl 2 (by decide) (hts _ (List.mem_cons_of_mem _ wq176)) (fun _ h => h) rfl dX12_feed_77 ?_
        exact hs_iret hx hb hr hlocks rfl hK hP hS hf dX12_feed_80
      · replace hf := hs_f hf hc
        refine lv_bipush (v := -4) hx hb dX12_feed_26 (by decide) ?_
        exact hs_iret hx hb hr hlocks rfl hK hP hS hf dX12_feed_28
    · replace hf := hs_f hf hc
      refine lv_bipush (v := -3) hx hb dX12_feed_11 (by decide) ?_
      exact hs_iret hx hb hr hlocks rfl hK hP hS hf dX12_feed_13

theorem dX12_one_0 : decode cX12_one 0 = .ok (.aload_n 0, 1) := by decide +kernel
theorem dX12_one_1 : decode cX12_one 1 = .ok (.getfield 127, 3) := by decide +kernel
theorem dX12_one_4 : decode cX12_one 4 = .ok (.aload_n 0, 1) := by decide +kernel
theorem dX12_one_5 : decode cX12_one 5 = .ok (.getfield 124, 3) := by decide +kernel
theorem dX12_one_8 : decode cX12_one 8 = .ok (.if_icmp .ge 15, 3) := by decide +kernel
theorem dX12_one_11 : decode cX12_one 11 = .ok (.aload_n 0, 1) := by decide +kernel
theorem dX12_one_12 : decode cX12_one 12 = .ok (.getfield 13, 3) := by decide +kernel
theorem dX12_one_15 : decode cX12_one 15 = .ok (.aload_n 0, 1) := by decide +kernel
theorem dX12_one_16 : decode cX12_one 16 = .ok (.getfield 127, 3) := by decide +kernel
theorem dX12_one_19 : decode cX12_one 19 = .ok (.iaload, 1) := by decide +kernel
theorem dX12_one_20 : decode cX12_one 20 = .ok (.goto 4, 3) := by decide +kernel
theorem dX12_one_23 : decode cX12_one 23 = .ok (.iconst (-1), 1) := by decide +kernel
theorem dX12_one_24 : decode cX12_one 24 = .ok (.istore_n 1, 1) := by decide +kernel
theorem dX12_one_25 : decode cX12_one 25 = .ok (.aload_n 0, 1) := by decide +kernel
theorem dX12_one_26 : decode cX12_one 26 = .ok (.dup, 1) := by decide +kernel
theorem dX12_one_27 : decode cX12_one 27 = .ok (.getfield 127, 3) := by decide +kernel
theorem dX12_one_30 : decode cX12_one 30 = .ok (.iconst 1, 1) := by decide +kernel
theorem dX12_one_31 : decode cX12_one 31 = .ok (.iadd, 1) := by decide +kernel
theorem dX12_one_32 : decode cX12_one 32 = .ok (.putfield 127, 3) := by decide +kernel
theorem dX12_one_35 : decode cX12_one 35 = .ok (.iload_n 1, 1) := by decide +kernel
theorem dX12_one_36 : decode cX12_one 36 = .ok (.ireturn, 1) := by decide +kernel
abbrev wcX12_one : List Cond := .code yX12_one cX12_one 2 (some .int) :: wsL_law
def jX12_one_24 (v0 : Nat) (s0 : Int32) (g : hs_S) : Option (Int32 × hs_S) :=
  if hs_kd g v0 = 10 then
  some (s0, (hs_wI g v0 33 ((hs_I g v0 33) + (1 : Int32))))
  else none
def fX12_one (v0 : Nat) (g : hs_S) : Option (Int32 × hs_S) :=
  if hs_kd g v0 = 10 then
  if (hs_I g v0 2) ≤ (hs_I g v0 33) then (
    jX12_one_24 v0 (-1 : Int32) g
  ) else (
    if ¬ (hs_R g v0 1) = 0 then
    if hs_kd g ((hs_R g v0 1) - 1) = 100 then
    if hs_in (hs_I g v0 33) (hs_ln g ((hs_R g v0 1) - 1)) = true then
    jX12_one_24 v0 (hs_I g ((hs_R g v0 1) - 1) (hs_I g v0 33).toNatClampNeg) g
    else none else none else none
  )
  else none
abbrev rmX12_one : Room := { frames := 0, cells := 0, slots := 0, locals := 0 }
set_option maxHeartbeats 4000000 in
set_option maxRecDepth 100000 in
theorem wX12_one_j24 {p : Program} {l : Launch} {e : Env} {s : State} {m : MethodId} {args : Array Value} {below : List Frame} {meth : Method} {c : Code} {B : Nat} {D : va_G} {E : Nat → ClassId} (hX : hs_cx cX12_one (some .int) 2 RX12 wcX12_one p s m args meth c D E) {o : Int32 × hs_S}  {v0 : Nat} {s0 : Int32}   {g : hs_S} {H : Heap} {locs : List Loc} {ls : Array Slot} (hf : jX12_one_24 v0 s0 g = some o) (hP : hs_P B D E g H) (hS : hs_Sx B s.heap H locs) (hl : lv_has ls 2 [(0, .ref (B + v0))]) : W p l e rmX12_one s m args below meth c H locs 0 0 (MQ below (hs_Qi B D E o) args s 0 0 (hs_F B)) (F0 m 24 ls [.int s0]) := by
  obtain ⟨hx, hb, hr, hml, hown, hts, hlocks, hK⟩ := id hX
  unfold jX12_one_24 at hf
  refine lv_istore_n (lv' := [(1, .int s0), (0, .ref (B + v0))]) hx hb dX12_one_24 rfl hl (by decide) rfl (fun ls hl => ?_)
  refine lv_aload_n hx hb dX12_one_25 rfl (lv_at hl 1 rfl) ?_
  refine lv_dup hx hb dX12_one_26 rfl ?_
  obtain ⟨h2, hf⟩ := hs_ck hf
  refine hs_geti (C := RX12) (T := TX12) (N := 48) hx hb hts (fun w h => List.mem_cons_of_mem _ (inlX12 w h)) hown hK.1 hP h2 (by decide) rfl 33 (by decide) (hts _ (List.mem_cons_of_mem _ wq399)) (fun _ h => h) rfl dX12_one_27 ?_
  refine lv_iconst (v := 1) hx hb dX12_one_30 (by decide) ?_
  refine lv_iadd hx hb dX12_one_31 ?_
  refine hs_puti (C := RX12) (T := TX12) (N := 48) hx hb hts (fun w h => List.mem_cons_of_mem _ (inlX12 w h)) tyX12 tyX12_ok nmX12 hown hK.1 hP hS h2 (by decide) rfl 33 (by decide) (hts _ (List.mem_cons_of_mem _ wq399)) (fun _ h => h) (Or.inl rfl) rfl rfl rfl dX12_one_32 (fun H locs hP hS => ?_)
  refine lv_iload_n hx hb dX12_one_35 rfl (lv_at hl 0 rfl) ?_
  exact hs_iret hx hb hr hlocks rfl hK hP hS hf dX12_one_36

set_option maxHeartbeats 4000000 in
set_option maxRecDepth 100000 in
theorem ctX12_one (l : Launch) (B : Nat) (D : va_G) (E : Nat → ClassId) (v0 : Nat) (g : hs_S) (o : Int32 × hs_S) (hf : fX12_one v0 g = some o) : Met l yX12_one wcX12_one rmX12_one (hs_Pc B D E g [.ref (B + v0)]) (hs_Qi B D E o) (0) (0) (hs_F B) := by
  refine Met.ofW (cc := cX12_one) (maxL := 2) (ret := (some .int)) (by decide) rfl ?_
  intro p e s m args below meth c s₁ Bd hml hv
  obtain ⟨rfl, hP, hK⟩ := hv
  have hx := Bd.exec
  have hb := Bd.bytes
  have hr := Bd.returns
  have hts := atoms_spec (ws := wcX12_one) Bd.pre
  have hown : s.vm.findClass RX12 = some m.cls := findClass_of_methodNamed Bd.named
  have hlocks := Bd.notSynchronized
  have hS : hs_Sx B s.heap s.heap [] := va_S.rf
  have hX : hs_cx cX12_one (some .int) 2 RX12 wcX12_one p s m (List.toArray [.ref (B + v0)]) meth c D E := ⟨hx, hb, hr, hml, hown, hts, hlocks, hK⟩
  have hl := lv_entry ([.ref (B + v0)]) (n := 2) (Nat.le_of_ble_eq_true rfl)
  rw [lg_entry_eq]
  generalize (lg_sl ([.ref (B + v0)]) ++ List.replicate (2 - (lg_sl ([.ref (B + v0)])).length) Slot.unset).toArray = ls at hl ⊢
  have hl : lv_has ls 2 [(0, .ref (B + v0))] := hl
  have hP : hs_P B D E g s.heap := hP
  unfold fX12_one at hf
  refine lv_aload_n hx hb dX12_one_0 rfl (lv_at hl 0 rfl) ?_
  obtain ⟨h1, hf⟩ := hs_ck hf
  refine hs_geti (C := RX12) (T := TX12) (N := 48) hx hb hts (fun w h => List.mem_cons_of_mem _ (inlX12 w h)) hown hK.1 hP h1 (by decide) rfl 33 (by decide) (hts _ (List.mem_cons_of_mem _ wq399)) (fun _ h => h) rfl dX12_one_1 ?_
  refine lv_aload_n hx hb dX12_one_4 rfl (lv_at hl 0 rfl) ?_
  refine hs_geti (C := RX12) (T := TX12) (N := 48) hx hb hts (fun w h => List.mem_cons_of_mem _ (inlX12 w h)) hown hK.1 hP h1 (by decide) rfl 2 (by decide) (hts _ (List.mem_cons_of_mem _ wq176)) (fun _ h => h) rfl dX12_one_5 ?_
  refine lv_icmp_ge (tgt := 23) hx hb dX12_one_8 (by decide) (fun hc => ?_) (fun hc => ?_)
  · replace hf := hs_t hf hc
    refine lv_iconst (v := -1) hx hb dX12_one_23 (by decide) ?_
    exact wX12_one_j24 hX hf hP hS (lv_sub hl [0] rfl)
  · replace hf := hs_f hf hc
    refine lv_aload_n hx hb dX12_one_11 rfl (lv_at hl 0 rfl) ?_
    obtain ⟨h3, hf⟩ := hs_ck hf
    refine hs_getr (C := RX12) (T := TX12) (N := 48) hx hb hts (fun w h => List.mem_cons_of_mem _ (inlX12 w h)) hown hK.1 hP h1 (by decide) rfl 1 (by decide) (hts _ (List.mem_cons_of_mem _ wq122)) (fun _ h => h) rfl h3 dX12_one_12 ?_
    refine lv_aload_n hx hb dX12_one_15 rfl (lv_at hl 0 rfl) ?_
    refine hs_geti (C := RX12) (T := TX12) (N := 48) hx hb hts (fun w h => List.mem_cons_of_mem _ (inlX12 w h)) hown hK.1 hP h1 (by decide) rfl 33 (by decide) (hts _ (List.mem_cons_of_mem _ wq399)) (fun _ h => h) rfl dX12_one_16 ?_
    obtain ⟨h4, hf⟩ := hs_ck hf
    obtain ⟨h5, hf⟩ := hs_ck hf
    refine hs_iald hx hb hK.1 hP h4 h5 dX12_one_19 ?_
    refine lv_goto (tgt := 24) hx hb dX12_one_20 (by decide) ?_
    exact wX12_one_j24 hX hf hP hS (lv_sub hl [0] rfl)

theorem dX12_wrong_0 : decode cX12_wrong 0 = .ok (.iconst (-1), 1) := by decide +kernel
theorem dX12_wrong_1 : decode cX12_wrong 1 = .ok (.iload_n 1, 1) := by decide +kernel
theorem dX12_wrong_2 : decode cX12_wrong 2 = .ok (.aload_n 0, 1) := by decide +kernel
theorem dX12_wrong_3 : decode cX12_wrong 3 = .ok (.getfield 124, 3) := by decide +kernel
theorem dX12_wrong_6 : decode cX12_wrong 6 = .ok (.if_icmp .ge 7, 3) := by decide +kernel
theorem dX12_wrong_9 : decode cX12_wrong 9 = .ok (.iload_n 1, 1) := by decide +kernel
theorem dX12_wrong_10 : decode cX12_wrong 10 = .ok (.goto 7, 3) := by decide +kernel
theorem dX12_wrong_13 : decode cX12_wrong 13 = .ok (.aload_n 0, 1) := by decide +kernel
theorem dX12_wrong_14 : decode cX12_wrong 14 = .ok (.getfield 124, 3) := by decide +kernel
theorem dX12_wrong_17 : decode cX12_wrong 17 = .ok (.isub, 1) := by decide +kernel
theorem dX12_wrong_18 : decode cX12_wrong 18 = .ok (.ireturn, 1) := by decide +kernel
abbrev wcX12_wrong : List Cond := .code yX12_wrong cX12_wrong 2 (some .int) :: wsL_law
def fX12_wrong (v0 : Nat) (v1 : Int32) (g : hs_S) : Option (Int32 × hs_S) :=
  if hs_kd g v0 = 10 then
  if (hs_I g v0 2) ≤ v1 then (
    some (((-1 : Int32) - (hs_I g v0 2)), g)
  ) else (
    some (((-1 : Int32) - v1), g)
  )
  else none
abbrev rmX12_wrong : Room := { frames := 0, cells := 0, slots := 0, locals := 0 }
set_option maxHeartbeats 4000000 in
set_option maxRecDepth 100000 in
theorem ctX12_wrong (l : Launch) (B : Nat) (D : va_G) (E : Nat → ClassId) (v0 : Nat) (v1 : Int32) (g : hs_S) (o : Int32 × hs_S) (hf : fX12_wrong v0 v1 g = some o) : Met l yX12_wrong wcX12_wrong rmX12_wrong (hs_Pc B D E g [.ref (B + v0), .int v1]) (hs_Qi B D E o) (0) (0) (hs_F B) := by
  refine Met.ofW (cc := cX12_wrong) (maxL := 2) (ret := (some .int)) (by decide) rfl ?_
  intro p e s m args below meth c s₁ Bd hml hv
  obtain ⟨rfl, hP, hK⟩ := hv
  have hx := Bd.exec
  have hb := Bd.bytes
  have hr := Bd.returns
  have hts := atoms_spec (ws := wcX12_wrong) Bd.pre
  have hown : s.vm.findClass RX12 = some m.cls := findClass_of_methodNamed Bd.named
  have hlocks := Bd.notSynchronized
  have hS : hs_Sx B s.heap s.heap [] := va_S.rf
  have hX : hs_cx cX12_wrong (some .int) 2 RX12 wcX12_wrong p s m (List.toArray [.ref (B + v0), .int v1]) meth c D E := ⟨hx, hb, hr, hml, hown, hts, hlocks, hK⟩
  have hl := lv_entry ([.ref (B + v0), .int v1]) (n := 2) (Nat.le_of_ble_eq_true rfl)
  rw [lg_entry_eq]
  generalize (lg_sl ([.ref (B + v0), .int v1]) ++ List.replicate (2 - (lg_sl ([.ref (B + v0), .int v1])).length) Slot.unset).toArray = ls at hl ⊢
  have hl : lv_has ls 2 [(0, .ref (B + v0)), (1, .int v1)] := hl
  have hP : hs_P B D E g s.heap := hP
  unfold fX12_wrong at hf
  refine lv_iconst (v := -1) hx hb dX12_wrong_0 (by decide) ?_
  refine lv_iload_n hx hb dX12_wrong_1 rfl (lv_at hl 1 rfl) ?_
  refine lv_aload_n hx hb dX12_wrong_2 rfl (lv_at hl 0 rfl) ?_
  obtain ⟨h1, hf⟩ := hs_ck hf
  refine hs_geti (C := RX12) (T := TX12) (N := 48) hx hb hts (fun w h => List.mem_cons_of_mem _ (inlX12 w h)) hown hK.1 hP h1 (by decide) rfl 2 (by decide) (hts _ (List.mem_cons_of_mem _ wq176)) (fun _ h => h) rfl dX12_wrong_3 ?_
  refine lv_icmp_ge (tgt := 13) hx hb dX12_wrong_6 (by decide) (fun hc => ?_) (fun hc => ?_)
  · replace hf := hs_t hf hc
    refine lv_aload_n hx hb dX12_wrong_13 rfl (lv_at hl 0 rfl) ?_
    refine hs_geti (C := RX12) (T := TX12) (N := 48) hx hb hts (fun w h => List.mem_cons_of_mem _ (inlX12 w h)) hown hK.1 hP h1 (by decide) rfl 2 (by decide) (hts _ (List.mem_cons_of_mem _ wq176)) (fun _ h => h) rfl dX12_wrong_14 ?_
    refine lv_isub hx hb dX12_wrong_17 ?_
    exact hs_iret hx hb hr hlocks rfl hK hP hS hf dX12_wrong_18
  · replace hf := hs_f hf hc
    refine lv_iload_n hx hb dX12_wrong_9 rfl (lv_at hl 1 rfl) ?_
    refine lv_goto (tgt := 17) hx hb dX12_wrong_10 (by decide) ?_
    refine lv_isub hx hb dX12_wrong_17 ?_
    exact hs_iret hx hb hr hlocks rfl hK hP hS hf dX12_wrong_18

theorem dX12_two_0 : decode cX12_two 0 = .ok (.aload_n 0, 1) := by decide +kernel
theorem dX12_two_1 : decode cX12_two 1 = .ok (.getfield 127, 3) := by decide +kernel
theorem dX12_two_4 : decode cX12_two 4 = .ok (.iconst 1, 1) := by decide +kernel
theorem dX12_two_5 : decode cX12_two 5 = .ok (.iadd, 1) := by decide +kernel
theorem dX12_two_6 : decode cX12_two 6 = .ok (.aload_n 0, 1) := by decide +kernel
theorem dX12_two_7 : decode cX12_two 7 = .ok (.getfield 124, 3) := by decide +kernel
theorem dX12_two_10 : decode cX12_two 10 = .ok (.if_icmp .ge 31, 3) := by decide +kernel
theorem dX12_two_13 : decode cX12_two 13 = .ok (.aload_n 0, 1) := by decide +kernel
theorem dX12_two_14 : decode cX12_two 14 = .ok (.getfield 13, 3) := by decide +kernel
theorem dX12_two_17 : decode cX12_two 17 = .ok (.aload_n 0, 1) := by decide +kernel
theorem dX12_two_18 : decode cX12_two 18 = .ok (.getfield 127, 3) := by decide +kernel
theorem dX12_two_21 : decode cX12_two 21 = .ok (.iaload, 1) := by decide +kernel
theorem dX12_two_22 : decode cX12_two 22 = .ok (.sipush 256, 3) := by decide +kernel
theorem dX12_two_25 : decode cX12_two 25 = .ok (.imul, 1) := by decide +kernel
theorem dX12_two_26 : decode cX12_two 26 = .ok (.aload_n 0, 1) := by decide +kernel
theorem dX12_two_27 : decode cX12_two 27 = .ok (.getfield 13, 3) := by decide +kernel
theorem dX12_two_30 : decode cX12_two 30 = .ok (.aload_n 0, 1) := by decide +kernel
theorem dX12_two_31 : decode cX12_two 31 = .ok (.getfield 127, 3) := by decide +kernel
theorem dX12_two_34 : decode cX12_two 34 = .ok (.iconst 1, 1) := by decide +kernel
theorem dX12_two_35 : decode cX12_two 35 = .ok (.iadd, 1) := by decide +kernel
theorem dX12_two_36 : decode cX12_two 36 = .ok (.iaload, 1) := by decide +kernel
theorem dX12_two_37 : decode cX12_two 37 = .ok (.iadd, 1) := by decide +kernel
theorem dX12_two_38 : decode cX12_two 38 = .ok (.goto 4, 3) := by decide +kernel
theorem dX12_two_41 : decode cX12_two 41 = .ok (.iconst (-1), 1) := by decide +kernel
theorem dX12_two_42 : decode cX12_two 42 = .ok (.istore_n 1, 1) := by decide +kernel
theorem dX12_two_43 : decode cX12_two 43 = .ok (.aload_n 0, 1) := by decide +kernel
theorem dX12_two_44 : decode cX12_two 44 = .ok (.dup, 1) := by decide +kernel
theorem dX12_two_45 : decode cX12_two 45 = .ok (.getfield 127, 3) := by decide +kernel
theorem dX12_two_48 : decode cX12_two 48 = .ok (.iconst 2, 1) := by decide +kernel
theorem dX12_two_49 : decode cX12_two 49 = .ok (.iadd, 1) := by decide +kernel
theorem dX12_two_50 : decode cX12_two 50 = .ok (.putfield 127, 3) := by decide +kernel
theorem dX12_two_53 : decode cX12_two 53 = .ok (.iload_n 1, 1) := by decide +kernel
theorem dX12_two_54 : decode cX12_two 54 = .ok (.ireturn, 1) := by decide +kernel
abbrev wcX12_two : List Cond := .code yX12_two cX12_two 2 (some .int) :: wsL_law
def jX12_two_42 (v0 : Nat) (s0 : Int32) (g : hs_S) : Option (Int32 × hs_S) :=
  if hs_kd g v0 = 10 then
  some (s0, (hs_wI g v0 33 ((hs_I g v0 33) + (2 : Int32))))
  else none
def fX12_two (v0 : Nat) (g : hs_S) : Option (Int32 × hs_S) :=
  if hs_kd g v0 = 10 then
  if (hs_I g v0 2) ≤ ((hs_I g v0 33) + (1 : Int32)) then (
    jX12_two_42 v0 (-1 : Int32) g
  ) else (
    if ¬ (hs_R g v0 1) = 0 then
    if hs_kd g ((hs_R g v0 1) - 1) = 100 then
    if hs_in (hs_I g v0 33) (hs_ln g ((hs_R g v0 1) - 1)) = true then
    if hs_in ((hs_I g v0 33) + (1 : Int32)) (hs_ln g ((hs_R g v0 1) - 1)) = true then
    jX12_two_42 v0 (((hs_I g ((hs_R g v0 1) - 1) (hs_I g v0 33).toNatClampNeg) * (256 : Int32)) + (hs_I g ((hs_R g v0 1) - 1) ((hs_I g v0 33) + (1 : Int32)).toNatClampNeg)) g
    else none else none else none else none
  )
  else none
abbrev rmX12_two : Room := { frames := 0, cells := 0, slots := 0, locals := 0 }
set_option maxHeartbeats 4000000 in
set_option maxRecDepth 100000 in
theorem wX12_two_j42 {p : Program} {l : Launch} {e : Env} {s : State} {m : MethodId} {args : Array Value} {below : List Frame} {meth : Method} {c : Code} {B : Nat} {D : va_G} {E : Nat → ClassId} (hX : hs_cx cX12_two (some .int) 2 RX12 wcX12_two p s m args meth c D E) {o : Int32 × hs_S}  {v0 : Nat} {s0 : Int32}   {g : hs_S} {H : Heap} {locs : List Loc} {ls : Array Slot} (hf : jX12_two_42 v0 s0 g = some o) (hP : hs_P B D E g H) (hS : hs_Sx B s.heap H locs) (hl : lv_has ls 2 [(0, .ref (B + v0))]) : W p l e rmX12_two s m args below meth c H locs 0 0 (MQ below (hs_Qi B D E o) args s 0 0 (hs_F B)) (F0 m 42 ls [.int s0]) := by
  obtain ⟨hx, hb, hr, hml, hown, hts, hlocks, hK⟩ := id hX
  unfold jX12_two_42 at hf
  refine lv_istore_n (lv' := [(1, .int s0), (0, .ref (B + v0))]) hx hb dX12_two_42 rfl hl (by decide) rfl (fun ls hl => ?_)
  refine lv_aload_n hx hb dX12_two_43 rfl (lv_at hl 1 rfl) ?_
  refine lv_dup hx hb dX12_two_44 rfl ?_
  obtain ⟨h2, hf⟩ := hs_ck hf
  refine hs_geti (C := RX12) (T := TX12) (N := 48) hx hb hts (fun w h => List.mem_cons_of_mem _ (inlX12 w h)) hown hK.1 hP h2 (by decide) rfl 33 (by decide) (hts _ (List.mem_cons_of_mem _ wq399)) (fun _ h => h) rfl dX12_two_45 ?_
  refine lv_iconst (v := 2) hx hb dX12_two_48 (by decide) ?_
  refine lv_iadd hx hb dX12_two_49 ?_
  refine hs_puti (C := RX12) (T := TX12) (N := 48) hx hb hts (fun w h => List.mem_cons_of_mem _ (inlX12 w h)) tyX12 tyX12_ok nmX12 hown hK.1 hP hS h2 (by decide) rfl 33 (by decide) (hts _ (List.mem_cons_of_mem _ wq399)) (fun _ h => h) (Or.inl rfl) rfl rfl rfl dX12_two_50 (fun H locs hP hS => ?_)
  refine lv_iload_n hx hb dX12_two_53 rfl (lv_at hl 0 rfl) ?_
  exact hs_iret hx hb hr hlocks rfl hK hP hS hf dX12_two_54

set_option maxHeartbeats 4000000 in
set_option maxRecDepth 100000 in
theorem ctX12_two (l : Launch) (B : Nat) (D : va_G) (E : Nat → ClassId) (v0 : Nat) (g : hs_S) (o : Int32 × hs_S) (hf : fX12_two v0 g = some o) : Met l yX12_two wcX12_two rmX12_two (hs_Pc B D E g [.ref (B + v0)]) (hs_Qi B D E o) (0) (0) (hs_F B) := by
  refine Met.ofW (cc := cX12_two) (maxL := 2) (ret := (some .int)) (by decide) rfl ?_
  intro p e s m args below meth c s₁ Bd hml hv
  obtain ⟨rfl, hP, hK⟩ := hv
  have hx := Bd.exec
  have hb := Bd.bytes
  have hr := Bd.returns
  have hts := atoms_spec (ws := wcX12_two) Bd.pre
  have hown : s.vm.findClass RX12 = some m.cls := findClass_of_methodNamed Bd.named
  have hlocks := Bd.notSynchronized
  have hS : hs_Sx B s.heap s.heap [] := va_S.rf
  have hX : hs_cx cX12_two (some .int) 2 RX12 wcX12_two p s m (List.toArray [.ref (B + v0)]) meth c D E := ⟨hx, hb, hr, hml, hown, hts, hlocks, hK⟩
  have hl := lv_entry ([.ref (B + v0)]) (n := 2) (Nat.le_of_ble_eq_true rfl)
  rw [lg_entry_eq]
  generalize (lg_sl ([.ref (B + v0)]) ++ List.replicate (2 - (lg_sl ([.ref (B + v0)])).length) Slot.unset).toArray = ls at hl ⊢
  have hl : lv_has ls 2 [(0, .ref (B + v0))] := hl
  have hP : hs_P B D E g s.heap := hP
  unfold fX12_two at hf
  refine lv_aload_n hx hb dX12_two_0 rfl (lv_at hl 0 rfl) ?_
  obtain ⟨h1, hf⟩ := hs_ck hf
  refine hs_geti (C := RX12) (T := TX12) (N := 48) hx hb hts (fun w h => List.mem_cons_of_mem _ (inlX12 w h)) hown hK.1 hP h1 (by decide) rfl 33 (by decide) (hts _ (List.mem_cons_of_mem _ wq399)) (fun _ h => h) rfl dX12_two_1 ?_
  refine lv_iconst (v := 1) hx hb dX12_two_4 (by decide) ?_
  refine lv_iadd hx hb dX12_two_5 ?_
  refine lv_aload_n hx hb dX12_two_6 rfl (lv_at hl 0 rfl) ?_
  refine hs_geti (C := RX12) (T := TX12) (N := 48) hx hb hts (fun w h => List.mem_cons_of_mem _ (inlX12 w h)) hown hK.1 hP h1 (by decide) rfl 2 (by decide) (hts _ (List.mem_cons_of_mem _ wq176)) (fun _ h => h) rfl dX12_two_7 ?_
  refine lv_icmp_ge (tgt := 41) hx hb dX12_two_10 (by decide) (fun hc => ?_) (fun hc => ?_)
  · replace hf := hs_t hf hc
    refine lv_iconst (v := -1) hx hb dX12_two_41 (by decide) ?_
    exact wX12_two_j42 hX hf hP hS (lv_sub hl [0] rfl)
  · replace hf := hs_f hf hc
    refine lv_aload_n hx hb dX12_two_13 rfl (lv_at hl 0 rfl) ?_
    obtain ⟨h3, hf⟩ := hs_ck hf
    refine hs_getr (C := RX12) (T := TX12) (N := 48) hx hb hts (fun w h => List.mem_cons_of_mem _ (inlX12 w h)) hown hK.1 hP h1 (by decide) rfl 1 (by decide) (hts _ (List.mem_cons_of_mem _ wq122)) (fun _ h => h) rfl h3 dX12_two_14 ?_
    refine lv_aload_n hx hb dX12_two_17 rfl (lv_at hl 0 rfl) ?_
    refine hs_geti (C := RX12) (T := TX12) (N := 48) hx hb hts (fun w h => List.mem_cons_of_mem _ (inlX12 w h)) hown hK.1 hP h1 (by decide) rfl 33 (by decide) (hts _ (List.mem_cons_of_mem _ wq399)) (fun _ h => h) rfl dX12_two_18 ?_
    obtain ⟨h4, hf⟩ := hs_ck hf
    obtain ⟨h5, hf⟩ := hs_ck hf
    refine hs_iald hx hb hK.1 hP h4 h5 dX12_two_21 ?_
    refine lv_sipush (v := 256) hx hb dX12_two_22 (by decide) ?_
    refine lv_imul hx hb dX12_two_25 ?_
    refine lv_aload_n hx hb dX12_two_26 rfl (lv_at hl 0 rfl) ?_
    refine hs_getr (C := RX12) (T := TX12) (N := 48) hx hb hts (fun w h => List.mem_cons_of_mem _ (inlX12 w h)) hown hK.1 hP h1 (by decide) rfl 1 (by decide) (hts _ (List.mem_cons_of_mem _ wq122)) (fun _ h => h) rfl h3 dX12_two_27 ?_
    refine lv_aload_n hx hb dX12_two_30 rfl (lv_at hl 0 rfl) ?_
    refine hs_geti (C := RX12) (T := TX12) (N := 48) hx hb hts (fun w h => List.mem_cons_of_mem _ (inlX12 w h)) hown hK.1 hP h1 (by decide) rfl 33 (by decide) (hts _ (List.mem_cons_of_mem _ wq399)) (fun _ h => h) rfl dX12_two_31 ?_
    refine lv_iconst (v := 1) hx hb dX12_two_34 (by decide) ?_
    refine lv_iadd hx hb dX12_two_35 ?_
    obtain ⟨h6, hf⟩ := hs_ck hf
    refine hs_iald hx hb hK.1 hP h4 h6 dX12_two_36 ?_
    refine lv_iadd hx hb dX12_two_37 ?_
    refine lv_goto (tgt := 42) hx hb dX12_two_38 (by decide) ?_
    exact wX12_two_j42 hX hf hP hS (lv_sub hl [0] rfl)

theorem dX12_size_0 : decode cX12_size 0 = .ok (.iload_n 0, 1) := by decide +kernel
theorem dX12_size_1 : decode cX12_size 1 = .ok (.bipush 17, 2) := by decide +kernel
theorem dX12_size_3 : decode cX12_size 3 = .ok (.if_icmp .eq 10, 3) := by decide +kernel
theorem dX12_size_6 : decode cX12_size 6 = .ok (.iload_n 0, 1) := by decide +kernel
theorem dX12_size_7 : decode cX12_size 7 = .ok (.sipush 168, 3) := by decide +kernel
theorem dX12_size_10 : decode cX12_size 10 = .ok (.if_icmp .ne 5, 3) := by decide +kernel
theorem dX12_size_13 : decode cX12_size 13 = .ok (.iconst 3, 1) := by decide +kernel
theorem dX12_size_14 : decode cX12_size 14 = .ok (.ireturn, 1) := by decide +kernel
theorem dX12_size_15 : decode cX12_size 15 = .ok (.iload_n 0, 1) := by decide +kernel
theorem dX12_size_16 : decode cX12_size 16 = .ok (.sipush 202, 3) := by decide +kernel
theorem dX12_size_19 : decode cX12_size 19 = .ok (.if_icmp .ne 5, 3) := by decide +kernel
theorem dX12_size_22 : decode cX12_size 22 = .ok (.iconst 5, 1) := by decide +kernel
theorem dX12_size_23 : decode cX12_size 23 = .ok (.ireturn, 1) := by decide +kernel
theorem dX12_size_24 : decode cX12_size 24 = .ok (.iload_n 0, 1) := by decide +kernel
theorem dX12_size_25 : decode cX12_size 25 = .ok (.bipush 16, 2) := by decide +kernel
theorem dX12_size_27 : decode cX12_size 27 = .ok (.if_icmp .eq 69, 3) := by decide +kernel
theorem dX12_size_30 : decode cX12_size 30 = .ok (.iload_n 0, 1) := by decide +kernel
theorem dX12_size_31 : decode cX12_size 31 = .ok (.bipush 21, 2) := by decide +kernel
theorem dX12_size_33 : decode cX12_size 33 = .ok (.if_icmp .eq 63, 3) := by decide +kernel
theorem dX12_size_36 : decode cX12_size 36 = .ok (.iload_n 0, 1) := by decide +kernel
theorem dX12_size_37 : decode cX12_size 37 = .ok (.bipush 54, 2) := by decide +kernel
theorem dX12_size_39 : decode cX12_size 39 = .ok (.if_icmp .eq 57, 3) := by decide +kernel
theorem dX12_size_42 : decode cX12_size 42 = .ok (.iload_n 0, 1) := by decide +kernel
theorem dX12_size_43 : decode cX12_size 43 = .ok (.sipush 153, 3) := by decide +kernel
theorem dX12_size_46 : decode cX12_size 46 = .ok (.if_icmp .lt 10, 3) := by decide +kernel
theorem dX12_size_49 : decode cX12_size 49 = .ok (.iload_n 0, 1) := by decide +kernel
theorem dX12_size_50 : decode cX12_size 50 = .ok (.sipush 158, 3) := by decide +kernel
theorem dX12_size_53 : decode cX12_size 53 = .ok (.if_icmp .le 43, 3) := by decide +kernel
theorem dX12_size_56 : decode cX12_size 56 = .ok (.iload_n 0, 1) := by decide +kernel
theorem dX12_size_57 : decode cX12_size 57 = .ok (.sipush 167, 3) := by decide +kernel
theorem dX12_size_60 : decode cX12_size 60 = .ok (.if_icmp .eq 36, 3) := by decide +kernel
theorem dX12_size_63 : decode cX12_size 63 = .ok (.iload_n 0, 1) := by decide +kernel
theorem dX12_size_64 : decode cX12_size 64 = .ok (.sipush 184, 3) := by decide +kernel
theorem dX12_size_67 : decode cX12_size 67 = .ok (.if_icmp .eq 29, 3) := by decide +kernel
theorem dX12_size_70 : decode cX12_size 70 = .ok (.iload_n 0, 1) := by decide +kernel
theorem dX12_size_71 : decode cX12_size 71 = .ok (.sipush 188, 3) := by decide +kernel
theorem dX12_size_74 : decode cX12_size 74 = .ok (.if_icmp .eq 22, 3) := by decide +kernel
theorem dX12_size_77 : decode cX12_size 77 = .ok (.iload_n 0, 1) := by decide +kernel
theorem dX12_size_78 : decode cX12_size 78 = .ok (.sipush 190, 3) := by decide +kernel
theorem dX12_size_81 : decode cX12_size 81 = .ok (.if_icmp .eq 15, 3) := by decide +kernel
theorem dX12_size_84 : decode cX12_size 84 = .ok (.iload_n 0, 1) := by decide +kernel
theorem dX12_size_85 : decode cX12_size 85 = .ok (.bipush 46, 2) := by decide +kernel
theorem dX12_size_87 : decode cX12_size 87 = .ok (.if_icmp .eq 9, 3) := by decide +kernel
theorem dX12_size_90 : decode cX12_size 90 = .ok (.iload_n 0, 1) := by decide +kernel
theorem dX12_size_91 : decode cX12_size 91 = .ok (.bipush 79, 2) := by decide +kernel
theorem dX12_size_93 : decode cX12_size 93 = .ok (.if_icmp .ne 5, 3) := by decide +kernel
theorem dX12_size_96 : decode cX12_size 96 = .ok (.iconst 2, 1) := by decide +kernel
theorem dX12_size_97 : decode cX12_size 97 = .ok (.ireturn, 1) := by decide +kernel
theorem dX12_size_98 : decode cX12_size 98 = .ok (.iload_n 0, 1) := by decide +kernel
theorem dX12_size_99 : decode cX12_size 99 = .ok (.ifCond .eq 92, 3) := by decide +kernel
theorem dX12_size_102 : decode cX12_size 102 = .ok (.iload_n 0, 1) := by decide +kernel
theorem dX12_size_103 : decode cX12_size 103 = .ok (.bipush 87, 2) := by decide +kernel
theorem dX12_size_105 : decode cX12_size 105 = .ok (.if_icmp .eq 86, 3) := by decide +kernel
theorem dX12_size_108 : decode cX12_size 108 = .ok (.iload_n 0, 1) := by decide +kernel
theorem dX12_size_109 : decode cX12_size 109 = .ok (.bipush 89, 2) := by decide +kernel
theorem dX12_size_111 : decode cX12_size 111 = .ok (.if_icmp .eq 80, 3) := by decide +kernel
theorem dX12_size_114 : decode cX12_size 114 = .ok (.iload_n 0, 1) := by decide +kernel
theorem dX12_size_115 : decode cX12_size 115 = .ok (.bipush 96, 2) := by decide +kernel
theorem dX12_size_117 : decode cX12_size 117 = .ok (.if_icmp .eq 74, 3) := by decide +kernel
theorem dX12_size_120 : decode cX12_size 120 = .ok (.iload_n 0, 1) := by decide +kernel
theorem dX12_size_121 : decode cX12_size 121 = .ok (.bipush 100, 2) := by decide +kernel
theorem dX12_size_123 : decode cX12_size 123 = .ok (.if_icmp .eq 68, 3) := by decide +kernel
theorem dX12_size_126 : decode cX12_size 126 = .ok (.iload_n 0, 1) := by decide +kernel
theorem dX12_size_127 : decode cX12_size 127 = .ok (.bipush 104, 2) := by decide +kernel
theorem dX12_size_129 : decode cX12_size 129 = .ok (.if_icmp .eq 62, 3) := by decide +kernel
theorem dX12_size_132 : decode cX12_size 132 = .ok (.iload_n 0, 1) := by decide +kernel
theorem dX12_size_133 : decode cX12_size 133 = .ok (.bipush 108, 2) := by decide +kernel
theorem dX12_size_135 : decode cX12_size 135 = .ok (.if_icmp .eq 56, 3) := by decide +kernel
theorem dX12_size_138 : decode cX12_size 138 = .ok (.iload_n 0, 1) := by decide +kernel
theorem dX12_size_139 : decode cX12_size 139 = .ok (.bipush 112, 2) := by decide +kernel
theorem dX12_size_141 : decode cX12_size 141 = .ok (.if_icmp .eq 50, 3) := by decide +kernel
theorem dX12_size_144 : decode cX12_size 144 = .ok (.iload_n 0, 1) := by decide +kernel
theorem dX12_size_145 : decode cX12_size 145 = .ok (.bipush 116, 2) := by decide +kernel
theorem dX12_size_147 : decode cX12_size 147 = .ok (.if_icmp .eq 44, 3) := by decide +kernel
theorem dX12_size_150 : decode cX12_size 150 = .ok (.iload_n 0, 1) := by decide +kernel
theorem dX12_size_151 : decode cX12_size 151 = .ok (.bipush 126, 2) := by decide +kernel
theorem dX12_size_153 : decode cX12_size 153 = .ok (.if_icmp .eq 38, 3) := by decide +kernel
theorem dX12_size_156 : decode cX12_size 156 = .ok (.iload_n 0, 1) := by decide +kernel
theorem dX12_size_157 : decode cX12_size 157 = .ok (.sipush 128, 3) := by decide +kernel
theorem dX12_size_160 : decode cX12_size 160 = .ok (.if_icmp .eq 31, 3) := by decide +kernel
theorem dX12_size_163 : decode cX12_size 163 = .ok (.iload_n 0, 1) := by decide +kernel
theorem dX12_size_164 : decode cX12_size 164 = .ok (.sipush 130, 3) := by decide +kernel
theorem dX12_size_167 : decode cX12_size 167 = .ok (.if_icmp .eq 24, 3) := by decide +kernel
theorem dX12_size_170 : decode cX12_size 170 = .ok (.iload_n 0, 1) := by decide +kernel
theorem dX12_size_171 : decode cX12_size 171 = .ok (.sipush 172, 3) := by decide +kernel
theorem dX12_size_174 : decode cX12_size 174 = .ok (.if_icmp .eq 17, 3) := by decide +kernel
theorem dX12_size_177 : decode cX12_size 177 = .ok (.iload_n 0, 1) := by decide +kernel
theorem dX12_size_178 : decode cX12_size 178 = .ok (.sipush 191, 3) := by decide +kernel
theorem dX12_size_181 : decode cX12_size 181 = .ok (.if_icmp .eq 10, 3) := by decide +kernel
theorem dX12_size_184 : decode cX12_size 184 = .ok (.iload_n 0, 1) := by decide +kernel
theorem dX12_size_185 : decode cX12_size 185 = .ok (.sipush 203, 3) := by decide +kernel
theorem dX12_size_188 : decode cX12_size 188 = .ok (.if_icmp .ne 7, 3) := by decide +kernel
theorem dX12_size_191 : decode cX12_size 191 = .ok (.iconst 1, 1) := by decide +kernel
theorem dX12_size_192 : decode cX12_size 192 = .ok (.goto 4, 3) := by decide +kernel
theorem dX12_size_195 : decode cX12_size 195 = .ok (.iconst 0, 1) := by decide +kernel
theorem dX12_size_196 : decode cX12_size 196 = .ok (.ireturn, 1) := by decide +kernel
abbrev wcX12_size : List Cond := .code yX12_size cX12_size 1 (some .int) :: wsL_law
def jX12_size_191  (g : hs_S) : Option (Int32 × hs_S) :=
  some ((1 : Int32), g)
def jX12_size_56 (v0 : Int32) (g : hs_S) : Option (Int32 × hs_S) :=
  if v0 = (167 : Int32) then (
    some ((2 : Int32), g)
  ) else (
    if v0 = (184 : Int32) then (
      some ((2 : Int32), g)
    ) else (
      if v0 = (188 : Int32) then (
        some ((2 : Int32), g)
      ) else (
        if v0 = (190 : Int32) then (
          some ((2 : Int32), g)
        ) else (
          if v0 = (46 : Int32) then (
            some ((2 : Int32), g)
          ) else (
            if v0 = (79 : Int32) then (
              some ((2 : Int32), g)
            ) else (
              if v0 = 0 then (
                jX12_size_191 g
              ) else (
                if v0 = (87 : Int32) then (
                  jX12_size_191 g
                ) else (
                  if v0 = (89 : Int32) then (
                    jX12_size_191 g
                  ) else (
                    if v0 = (96 : Int32) then (
                      jX12_size_191 g
                    ) else (
                      if v0 = (100 : Int32) then (
                        jX12_size_191 g
                      ) else (
                        if v0 = (104 : Int32) then (
                          jX12_size_191 g
                        ) else (
                          if v0 = (108 : Int32) then (
                            jX12_size_191 g
                          ) else (
                            if v0 = (112 : Int32) then (
                              jX12_size_191 g
                            ) else (
                              if v0 = (116 : Int32) then (
                                jX12_size_191 g
                              ) else (
                                if v0 = (126 : Int32) then (
                                  jX12_size_191 g
                                ) else (
                                  if v0 = (128 : Int32) then (
                                    jX12_size_191 g
                                  ) else (
                                    if v0 = (130 : Int32) then (
                                      jX12_size_191 g
                                    ) else (
                                      if v0 = (172 : Int32) then (
                                        jX12_size_191 g
                                      ) else (
                                        if v0 = (191 : Int32) then (
                                          jX12_size_191 g
                                        ) else (
                                          if v0 = (203 : Int32) then (
                                            jX12_size_191 g
                                          ) else (
                                            some ((0 : Int32), g)
                                          )
                                        )
                                      )
                                    )
                                  )
                                )
                              )
                            )
                          )
                        )
                      )
                    )
                  )
                )
              )
            )
          )
        )
      )
    )
  )
def fX12_size (v0 : Int32) (g : hs_S) : Option (Int32 × hs_S) :=
  if v0 = (17 : Int32) then (
    some ((3 : Int32), g)
  ) else (
    if v0 = (168 : Int32) then (
      some ((3 : Int32), g)
    ) else (
      if v0 = (202 : Int32) then (
        some ((5 : Int32), g)
      ) else (
        if v0 = (16 : Int32) then (
          some ((2 : Int32), g)
        ) else (
          if v0 = (21 : Int32) then (
            some ((2 : Int32), g)
          ) else (
            if v0 = (54 : Int32) then (
              some ((2 : Int32), g)
            ) else (
              if v0 < (153 : Int32) then (
                jX12_size_56 v0 g
              ) else (
                if v0 ≤ (158 : Int32) then (
                  some ((2 : Int32), g)
                ) else (
                  jX12_size_56 v0 g
                )
              )
            )
          )
        )
      )
    )
  )
abbrev rmX12_size : Room := { frames := 0, cells := 0, slots := 0, locals := 0 }
set_option maxHeartbeats 4000000 in
set_option maxRecDepth 100000 in
theorem wX12_size_j191 {p : Program} {l : Launch} {e : Env} {s : State} {m : MethodId} {args : Array Value} {below : List Frame} {meth : Method} {c : Code} {B : Nat} {D : va_G} {E : Nat → ClassId} (hX : hs_cx cX12_size (some .int) 1 RX12 wcX12_size p s m args meth c D E) {o : Int32 × hs_S}     {g : hs_S} {H : Heap} {locs : List Loc} {ls : Array Slot} (hf : jX12_size_191  g = some o) (hP : hs_P B D E g H) (hS : hs_Sx B s.heap H locs) (hl : lv_has ls 1 []) : W p l e rmX12_size s m args below meth c H locs 0 0 (MQ below (hs_Qi B D E o) args s 0 0 (hs_F B)) (F0 m 191 ls []) := by
  obtain ⟨hx, hb, hr, hml, hown, hts, hlocks, hK⟩ := id hX
  unfold jX12_size_191 at hf
  refine lv_iconst (v := 1) hx hb dX12_size_191 (by decide) ?_
  refine lv_goto (tgt := 196) hx hb dX12_size_192 (by decide) ?_
  exact hs_iret hx hb hr hlocks rfl hK hP hS hf dX12_size_196

set_option maxHeartbeats 4000000 in
set_option maxRecDepth 100000 in
theorem wX12_size_j56 {p : Program} {l : Launch} {e : Env} {s : State} {m : MethodId} {args : Array Value} {below : List Frame} {meth : Method} {c : Code} {B : Nat} {D : va_G} {E : Nat → ClassId} (hX : hs_cx cX12_size (some .int) 1 RX12 wcX12_size p s m args meth c D E) {o : Int32 × hs_S}  {v0 : Int32}   {g : hs_S} {H : Heap} {locs : List Loc} {ls : Array Slot} (hf : jX12_size_56 v0 g = some o) (hP : hs_P B D E g H) (hS : hs_Sx B s.heap H locs) (hl : lv_has ls 1 [(0, .int v0)]) : W p l e rmX12_size s m args below meth c H locs 0 0 (MQ below (hs_Qi B D E o) args s 0 0 (hs_F B)) (F0 m 56 ls []) := by
  obtain ⟨hx, hb, hr, hml, hown, hts, hlocks, hK⟩ := id hX
  unfold jX12_size_56 at hf
  refine lv_iload_n hx hb dX12_size_56 rfl (lv_at hl 0 rfl) ?_
  refine lv_sipush (v := 167) hx hb dX12_size_57 (by decide) ?_
  refine lv_icmp_eq (tgt := 96) hx hb dX12_size_60 (by decide) (fun hc => ?_) (fun hc => ?_)
  · replace hf := hs_t hf hc
    refine lv_iconst (v := 2) hx hb dX12_size_96 (by decide) ?_
    exact hs_iret hx hb hr hlocks rfl hK hP hS hf dX12_size_97
  · replace hf := hs_f hf hc
    refine lv_iload_n hx hb dX12_size_63 rfl (lv_at hl 0 rfl) ?_
    refine lv_sipush (v := 184) hx hb dX12_size_64 (by decide) ?_
    refine lv_icmp_eq (tgt := 96) hx hb dX12_size_67 (by decide) (fun hc => ?_) (fun hc => ?_)
    · replace hf := hs_t hf hc
      refine lv_iconst (v := 2) hx hb dX12_size_96 (by decide) ?_
      exact hs_iret hx hb hr hlocks rfl hK hP hS hf dX12_size_97
    · replace hf := hs_f hf hc
      refine lv_iload_n hx hb dX12_size_70 rfl (lv_at hl 0 rfl) ?_
      refine lv_sipush (v := 188) hx hb dX12_size_71 (by decide) ?_
      refine lv_icmp_eq (tgt := 96) hx hb dX12_size_74 (by decide) (fun hc => ?_) (fun hc => ?_)
      · replace hf := hs_t hf hc
        refine lv_iconst (v := 2) hx hb dX12_size_96 (by decide) ?_
        exact hs_iret hx hb hr hlocks rfl hK hP hS hf dX12_size_97
      · replace hf := hs_f hf hc
        refine lv_iload_n hx hb dX12_size_77 rfl (lv_at hl 0 rfl) ?_
        refine lv_sipush (v := 190) hx hb dX12_size_78 (by decide) ?_
        refine lv_icmp_eq (tgt := 96) hx hb dX12_size_81 (by decide) (fun hc => ?_) (fun hc => ?_)
        · replace hf := hs_t hf hc
          refine lv_iconst (v := 2) hx hb dX12_size_96 (by decide) ?_
          exact hs_iret hx hb hr hlocks rfl hK hP hS hf dX12_size_97
        · replace hf := hs_f hf hc
          refine lv_iload_n hx hb dX12_size_84 rfl (lv_at hl 0 rfl) ?_
          refine lv_bipush (v := 46) hx hb dX12_size_85 (by decide) ?_
          refine lv_icmp_eq (tgt := 96) hx hb dX12_size_87 (by decide) (fun hc => ?_) (fun hc => ?_)
          · replace hf := hs_t hf hc
            refine lv_iconst (v := 2) hx hb dX12_size_96 (by decide) ?_
            exact hs_iret hx hb hr hlocks rfl hK hP hS hf dX12_size_97
          · replace hf := hs_f hf hc
            refine lv_iload_n hx hb dX12_size_90 rfl (lv_at hl 0 rfl) ?_
            refine lv_bipush (v := 79) hx hb dX12_size_91 (by decide) ?_
            refine lv_icmp_ne (tgt := 98) hx hb dX12_size_93 (by decide) (fun hc => ?_) (fun hc => ?_)
            · replace hf := hs_f hf hc
              refine lv_iload_n hx hb dX12_size_98 rfl (lv_at hl 0 rfl) ?_
              refine lv_if_eq (tgt := 191) hx hb dX12_size_99 (by decide) (fun hc => ?_) (fun hc => ?_)
              · replace hf := hs_t hf hc
                exact wX12_size_j191 hX hf hP hS (lv_sub hl [] rfl)
              · replace hf := hs_f hf hc
                refine lv_iload_n hx hb dX12_size_102 rfl (lv_at hl 0 rfl) ?_
                refine lv_bipush (v := 87) hx hb dX12_size_103 (by decide) ?_
                refine lv_icmp_eq (tgt := 191) hx hb dX12_size_105 (by decide) (fun hc => ?_) (fun hc => ?_)
                · replace hf := hs_t hf hc
                  exact wX12_size_j191 hX hf hP hS (lv_sub hl [] rfl)
                · replace hf := hs_f hf hc
                  refine lv_iload_n hx hb dX12_size_108 rfl (lv_at hl 0 rfl) ?_
                  refine lv_bipush (v := 89) hx hb dX12_size_109 (by decide) ?_
                  refine lv_icmp_eq (tgt := 191) hx hb dX12_size_111 (by decide) (fun hc => ?_) (fun hc => ?_)
                  · replace hf := hs_t hf hc
                    exact wX12_size_j191 hX hf hP hS (lv_sub hl [] rfl)
                  · replace hf := hs_f hf hc
                    refine lv_iload_n hx hb dX12_size_114 rfl (lv_at hl 0 rfl) ?_
                    refine lv_bipush (v := 96) hx hb dX12_size_115 (by decide) ?_
                    refine lv_icmp_eq (tgt := 191) hx hb dX12_size_117 (by decide) (fun hc => ?_) (fun hc => ?_)
                    · replace hf := hs_t hf hc
                      exact wX12_size_j191 hX hf hP hS (lv_sub hl [] rfl)
                    · replace hf := hs_f hf hc
                      refine lv_iload_n hx hb dX12_size_120 rfl (lv_at hl 0 rfl) ?_
                      refine lv_bipush (v := 100) hx hb dX12_size_121 (by decide) ?_
                      refine lv_icmp_eq (tgt := 191) hx hb dX12_size_123 (by decide) (fun hc => ?_) (fun hc => ?_)
                      · replace hf := hs_t hf hc
                        exact wX12_size_j191 hX hf hP hS (lv_sub hl [] rfl)
                      · replace hf := hs_f hf hc
                        refine lv_iload_n hx hb dX12_size_126 rfl (lv_at hl 0 rfl) ?_
                        refine lv_bipush (v := 104) hx hb dX12_size_127 (by decide) ?_
                        refine lv_icmp_eq (tgt := 191) hx hb dX12_size_129 (by decide) (fun hc => ?_) (fun hc => ?_)
                        · replace hf := hs_t hf hc
                          exact wX12_size_j191 hX hf hP hS (lv_sub hl [] rfl)
                        · replace hf := hs_f hf hc
                          refine lv_iload_n hx hb dX12_size_132 rfl (lv_at hl 0 rfl) ?_
                          refine lv_bipush (v := 108) hx hb dX12_size_133 (by decide) ?_
                          refine lv_icmp_eq (tgt := 191) hx hb dX12_size_135 (by decide) (fun hc => ?_) (fun hc => ?_)
                          · replace hf := hs_t hf hc
                            exact wX12_size_j191 hX hf hP hS (lv_sub hl [] rfl)
                          · replace hf := hs_f hf hc
                            refine lv_iload_n hx hb dX12_size_138 rfl (lv_at hl 0 rfl) ?_
                            refine lv_bipush (v := 112) hx hb dX12_size_139 (by decide) ?_
                            refine lv_icmp_eq (tgt := 191) hx hb dX12_size_141 (by decide) (fun hc => ?_) (fun hc => ?_)
                            · replace hf := hs_t hf hc
                              exact wX12_size_j191 hX hf hP hS (lv_sub hl [] rfl)
                            · replace hf := hs_f hf hc
                              refine lv_iload_n hx hb dX12_size_144 rfl (lv_at hl 0 rfl) ?_
                              refine lv_bipush (v := 116) hx hb dX12_size_145 (by decide) ?_
                              refine lv_icmp_eq (tgt := 191) hx hb dX12_size_147 (by decide) (fun hc => ?_) (fun hc => ?_)
                              · replace hf := hs_t hf hc
                                exact wX12_size_j191 hX hf hP hS (lv_sub hl [] rfl)
                              · replace hf := hs_f hf hc
                                refine lv_iload_n hx hb dX12_size_150 rfl (lv_at hl 0 rfl) ?_
                                refine lv_bipush (v := 126) hx hb dX12_size_151 (by decide) ?_
                                refine lv_icmp_eq (tgt := 191) hx hb dX12_size_153 (by decide) (fun hc => ?_) (fun hc => ?_)
                                · replace hf := hs_t hf hc
                                  exact wX12_size_j191 hX hf hP hS (lv_sub hl [] rfl)
                                · replace hf := hs_f hf hc
                                  refine lv_iload_n hx hb dX12_size_156 rfl (lv_at hl 0 rfl) ?_
                                  refine lv_sipush (v := 128) hx hb dX12_size_157 (by decide) ?_
                                  refine lv_icmp_eq (tgt := 191) hx hb dX12_size_160 (by decide) (fun hc => ?_) (fun hc => ?_)
                                  · replace hf := hs_t hf hc
                                    exact wX12_size_j191 hX hf hP hS (lv_sub hl [] rfl)
                                  · replace hf := hs_f hf hc
                                    refine lv_iload_n hx hb dX12_size_163 rfl (lv_at hl 0 rfl) ?_
                                    refine lv_sipush (v := 130) hx hb dX12_size_164 (by decide) ?_
                                    refine lv_icmp_eq (tgt := 191) hx hb dX12_size_167 (by decide) (fun hc => ?_) (fun hc => ?_)
                                    · replace hf := hs_t hf hc
                                      exact wX12_size_j191 hX hf hP hS (lv_sub hl [] rfl)
                                    · replace hf := hs_f hf hc
                                      refine lv_iload_n hx hb dX12_size_170 rfl (lv_at hl 0 rfl) ?_
                                      refine lv_sipush (v := 172) hx hb dX12_size_171 (by decide) ?_
                                      refine lv_icmp_eq (tgt := 191) hx hb dX12_size_174 (by decide) (fun hc => ?_) (fun hc => ?_)
                                      · replace hf := hs_t hf hc
                                        exact wX12_size_j191 hX hf hP hS (lv_sub hl [] rfl)
                                      · replace hf := hs_f hf hc
                                        refine lv_iload_n hx hb dX12_size_177 rfl (lv_at hl 0 rfl) ?_
                                        refine lv_sipush (v := 191) hx hb dX12_size_178 (by decide) ?_
                                        refine lv_icmp_eq (tgt := 191) hx hb dX12_size_181 (by decide) (fun hc => ?_) (fun hc => ?_)
                                        · replace hf := hs_t hf hc
                                          exact wX12_size_j191 hX hf hP hS (lv_sub hl [] rfl)
                                        · replace hf := hs_f hf hc
                                          refine lv_iload_n hx hb dX12_size_184 rfl (lv_at hl 0 rfl) ?_
                                          refine lv_sipush (v := 203) hx hb dX12_size_185 (by decide) ?_
                                          refine lv_icmp_ne (tgt := 195) hx hb dX12_size_188 (by decide) (fun hc => ?_) (fun hc => ?_)
                                          · replace hf := hs_f hf hc
                                            refine lv_iconst (v := 0) hx hb dX12_size_195 (by decide) ?_
                                            exact hs_iret hx hb hr hlocks rfl hK hP hS hf dX12_size_196
                                          · replace hf := hs_t hf hc
                                            exact wX12_size_j191 hX hf hP hS (lv_sub hl [] rfl)
            · replace hf := hs_t hf hc
              refine lv_iconst (v := 2) hx hb dX12_size_96 (by decide) ?_
              exact hs_iret hx hb hr hlocks rfl hK hP hS hf dX12_size_97

set_option maxHeartbeats 4000000 in
set_option maxRecDepth 100000 in
theorem ctX12_size (l : Launch) (B : Nat) (D : va_G) (E : Nat → ClassId) (v0 : Int32) (g : hs_S) (o : Int32 × hs_S) (hf : fX12_size v0 g = some o) : Met l yX12_size wcX12_size rmX12_size (hs_Pc B D E g [.int v0]) (hs_Qi B D E o) (0) (0) (hs_F B) := by
  refine Met.ofW (cc := cX12_size) (maxL := 1) (ret := (some .int)) (by decide) rfl ?_
  intro p e s m args below meth c s₁ Bd hml hv
  obtain ⟨rfl, hP, hK⟩ := hv
  have hx := Bd.exec
  have hb := Bd.bytes
  have hr := Bd.returns
  have hts := atoms_spec (ws := wcX12_size) Bd.pre
  have hown : s.vm.findClass RX12 = some m.cls := findClass_of_methodNamed Bd.named
  have hlocks := Bd.notSynchronized
  have hS : hs_Sx B s.heap s.heap [] := va_S.rf
  have hX : hs_cx cX12_size (some .int) 1 RX12 wcX12_size p s m (List.toArray [.int v0]) meth c D E := ⟨hx, hb, hr, hml, hown, hts, hlocks, hK⟩
  have hl := lv_entry ([.int v0]) (n := 1) (Nat.le_of_ble_eq_true rfl)
  rw [lg_entry_eq]
  generalize (lg_sl ([.int v0]) ++ List.replicate (1 - (lg_sl ([.int v0])).length) Slot.unset).toArray = ls at hl ⊢
  have hl : lv_has ls 1 [(0, .int v0)] := hl
  have hP : hs_P B D E g s.heap := hP
  unfold fX12_size at hf
  refine lv_iload_n hx hb dX12_size_0 rfl (lv_at hl 0 rfl) ?_
  refine lv_bipush (v := 17) hx hb dX12_size_1 (by decide) ?_
  refine lv_icmp_eq (tgt := 13) hx hb dX12_size_3 (by decide) (fun hc => ?_) (fun hc => ?_)
  · replace hf := hs_t hf hc
    refine lv_iconst (v := 3) hx hb dX12_size_13 (by decide) ?_
    exact hs_iret hx hb hr hlocks rfl hK hP hS hf dX12_size_14
  · replace hf := hs_f hf hc
    refine lv_iload_n hx hb dX12_size_6 rfl (lv_at hl 0 rfl) ?_
    refine lv_sipush (v := 168) hx hb dX12_size_7 (by decide) ?_
    refine lv_icmp_ne (tgt := 15) hx hb dX12_size_10 (by decide) (fun hc => ?_) (fun hc => ?_)
    · replace hf := hs_f hf hc
      refine lv_iload_n hx hb dX12_size_15 rfl (lv_at hl 0 rfl) ?_
      refine lv_sipush (v := 202) hx hb dX12_size_16 (by decide) ?_
      refine lv_icmp_ne (tgt := 24) hx hb dX12_size_19 (by decide) (fun hc => ?_) (fun hc => ?_)
      · replace hf := hs_f hf hc
        refine lv_iload_n hx hb dX12_size_24 rfl (lv_at hl 0 rfl) ?_
        refine lv_bipush (v := 16) hx hb dX12_size_25 (by decide) ?_
        refine lv_icmp_eq (tgt := 96) hx hb dX12_size_27 (by decide) (fun hc => ?_) (fun hc => ?_)
        · replace hf := hs_t hf hc
          refine lv_iconst (v := 2) hx hb dX12_size_96 (by decide) ?_
          exact hs_iret hx hb hr hlocks rfl hK hP hS hf dX12_size_97
        · replace hf := hs_f hf hc
          refine lv_iload_n hx hb dX12_size_30 rfl (lv_at hl 0 rfl) ?_
          refine lv_bipush (v := 21) hx hb dX12_size_31 (by decide) ?_
          refine lv_icmp_eq (tgt := 96) hx hb dX12_size_33 (by decide) (fun hc => ?_) (fun hc => ?_)
          · replace hf := hs_t hf hc
            refine lv_iconst (v := 2) hx hb dX12_size_96 (by decide) ?_
            exact hs_iret hx hb hr hlocks rfl hK hP hS hf dX12_size_97
          · replace hf := hs_f hf hc
            refine lv_iload_n hx hb dX12_size_36 rfl (lv_at hl 0 rfl) ?_
            refine lv_bipush (v := 54) hx hb dX12_size_37 (by decide) ?_
            refine lv_icmp_eq (tgt := 96) hx hb dX12_size_39 (by decide) (fun hc => ?_) (fun hc => ?_)
            · replace hf := hs_t hf hc
              refine lv_iconst (v := 2) hx hb dX12_size_96 (by decide) ?_
              exact hs_iret hx hb hr hlocks rfl hK hP hS hf dX12_size_97
            · replace hf := hs_f hf hc
              refine lv_iload_n hx hb dX12_size_42 rfl (lv_at hl 0 rfl) ?_
              refine lv_sipush (v := 153) hx hb dX12_size_43 (by decide) ?_
              refine lv_icmp_lt (tgt := 56) hx hb dX12_size_46 (by decide) (fun hc => ?_) (fun hc => ?_)
              · replace hf := hs_t hf hc
                exact wX12_size_j56 hX hf hP hS (lv_sub hl [0] rfl)
              · replace hf := hs_f hf hc
                refine lv_iload_n hx hb dX12_size_49 rfl (lv_at hl 0 rfl) ?_
                refine lv_sipush (v := 158) hx hb dX12_size_50 (by decide) ?_
                refine lv_icmp_le (tgt := 96) hx hb dX12_size_53 (by decide) (fun hc => ?_) (fun hc => ?_)
                · replace hf := hs_t hf hc
                  refine lv_iconst (v := 2) hx hb dX12_size_96 (by decide) ?_
                  exact hs_iret hx hb hr hlocks rfl hK hP hS hf dX12_size_97
                · replace hf := hs_f hf hc
                  exact wX12_size_j56 hX hf hP hS (lv_sub hl [0] rfl)
      · replace hf := hs_t hf hc
        refine lv_iconst (v := 5) hx hb dX12_size_22 (by decide) ?_
        exact hs_iret hx hb hr hlocks rfl hK hP hS hf dX12_size_23
    · replace hf := hs_t hf hc
      refine lv_iconst (v := 3) hx hb dX12_size_13 (by decide) ?_
      exact hs_iret hx hb hr hlocks rfl hK hP hS hf dX12_size_14

theorem dX12_isKind_0 : decode cX12_isKind 0 = .ok (.iload_n 0, 1) := by decide +kernel
theorem dX12_isKind_1 : decode cX12_isKind 1 = .ok (.invokestatic 120, 3) := by decide +kernel
theorem dX12_isKind_4 : decode cX12_isKind 4 = .ok (.ifCond .le 21, 3) := by decide +kernel
theorem dX12_isKind_7 : decode cX12_isKind 7 = .ok (.iload_n 0, 1) := by decide +kernel
theorem dX12_isKind_8 : decode cX12_isKind 8 = .ok (.sipush 202, 3) := by decide +kernel
theorem dX12_isKind_11 : decode cX12_isKind 11 = .ok (.if_icmp .eq 14, 3) := by decide +kernel
theorem dX12_isKind_14 : decode cX12_isKind 14 = .ok (.iload_n 0, 1) := by decide +kernel
theorem dX12_isKind_15 : decode cX12_isKind 15 = .ok (.sipush 203, 3) := by decide +kernel
theorem dX12_isKind_18 : decode cX12_isKind 18 = .ok (.if_icmp .eq 7, 3) := by decide +kernel
theorem dX12_isKind_21 : decode cX12_isKind 21 = .ok (.iconst 1, 1) := by decide +kernel
theorem dX12_isKind_22 : decode cX12_isKind 22 = .ok (.goto 4, 3) := by decide +kernel
theorem dX12_isKind_25 : decode cX12_isKind 25 = .ok (.iconst 0, 1) := by decide +kernel
theorem dX12_isKind_26 : decode cX12_isKind 26 = .ok (.ireturn, 1) := by decide +kernel
abbrev wcX12_isKind : List Cond := .code yX12_isKind cX12_isKind 1 (some .boolean) :: wsL_law
def fX12_isKind (v0 : Int32) (g : hs_S) : Option (Int32 × hs_S) :=
  hs_bd (fX12_size v0 g) fun r2 g1 =>
  if r2 ≤ 0 then (
    some ((0 : Int32), g1)
  ) else (
    if v0 = (202 : Int32) then (
      some ((0 : Int32), g1)
    ) else (
      if v0 = (203 : Int32) then (
        some ((0 : Int32), g1)
      ) else (
        some ((1 : Int32), g1)
      )
    )
  )
abbrev rmX12_isKind : Room := { frames := 1, cells := 0, slots := 0, locals := 20 }
set_option maxHeartbeats 4000000 in
set_option maxRecDepth 100000 in
theorem ctX12_isKind (l : Launch) (B : Nat) (D : va_G) (E : Nat → ClassId) (v0 : Int32) (g : hs_S) (o : Int32 × hs_S) (hf : fX12_isKind v0 g = some o) : Met l yX12_isKind wcX12_isKind rmX12_isKind (hs_Pc B D E g [.int v0]) (hs_Qi B D E o) (0) (0) (hs_F B) := by
  refine Met.ofW (cc := cX12_isKind) (maxL := 1) (ret := (some .boolean)) (by decide) rfl ?_
  intro p e s m args below meth c s₁ Bd hml hv
  obtain ⟨rfl, hP, hK⟩ := hv
  have hx := Bd.exec
  have hb := Bd.bytes
  have hr := Bd.returns
  have hts := atoms_spec (ws := wcX12_isKind) Bd.pre
  have hown : s.vm.findClass RX12 = some m.cls := findClass_of_methodNamed Bd.named
  have hlocks := Bd.notSynchronized
  have hS : hs_Sx B s.heap s.heap [] := va_S.rf
  have hX : hs_cx cX12_isKind (some .boolean) 1 RX12 wcX12_isKind p s m (List.toArray [.int v0]) meth c D E := ⟨hx, hb, hr, hml, hown, hts, hlocks, hK⟩
  have hl := lv_entry ([.int v0]) (n := 1) (Nat.le_of_ble_eq_true rfl)
  rw [lg_entry_eq]
  generalize (lg_sl ([.int v0]) ++ List.replicate (1 - (lg_sl ([.int v0])).length) Slot.unset).toArray = ls at hl ⊢
  have hl : lv_has ls 1 [(0, .int v0)] := hl
  have hP : hs_P B D E g s.heap := hP
  unfold fX12_isKind at hf
  refine lv_iload_n hx hb dX12_isKind_0 rfl (lv_at hl 0 rfl) ?_
  obtain ⟨r2, g1, h3, hf⟩ := hs_bd_some hf
  refine hs_calli (va_runS (As := [.int v0]) (rest := []) ⟨hx, hb, hml, hown, hts⟩ (ctX12_size l B D E v0 g _ h3) (va_cwS 1 hts (hs_gS (fun _ h => List.mem_cons_of_mem _ h) wq423 wq424 wq5 wq425) rfl rfl rfl (by decide +kernel) ⟨Nat.le_of_ble_eq_true rfl, Nat.le_of_ble_eq_true rfl⟩) (hs_pre hP hK) rfl rfl hl.1 rfl (lv_room (Nat.le_of_ble_eq_true rfl)) dX12_isKind_1 ⟨(Nat.le_of_ble_eq_true rfl), (Nat.le_of_ble_eq_true rfl)⟩) hS (fun H locs hP hS => ?_)
  refine lv_if_le (tgt := 25) hx hb dX12_isKind_4 (by decide) (fun hc => ?_) (fun hc => ?_)
  · replace hf := hs_t hf hc
    refine lv_iconst (v := 0) hx hb dX12_isKind_25 (by decide) ?_
    exact hs_iret hx hb hr hlocks (hs_01_nar (rfl)) hK hP hS hf dX12_isKind_26
  · replace hf := hs_f hf hc
    refine lv_iload_n hx hb dX12_isKind_7 rfl (lv_at hl 0 rfl) ?_
    refine lv_sipush (v := 202) hx hb dX12_isKind_8 (by decide) ?_
    refine lv_icmp_eq (tgt := 25) hx hb dX12_isKind_11 (by decide) (fun hc => ?_) (fun hc => ?_)
    · replace hf := hs_t hf hc
      refine lv_iconst (v := 0) hx hb dX12_isKind_25 (by decide) ?_
      exact hs_iret hx hb hr hlocks (hs_01_nar (rfl)) hK hP hS hf dX12_isKind_26
    · replace hf := hs_f hf hc
      refine lv_iload_n hx hb dX12_isKind_14 rfl (lv_at hl 0 rfl) ?_
      refine lv_sipush (v := 203) hx hb dX12_isKind_15 (by decide) ?_
      refine lv_icmp_eq (tgt := 25) hx hb dX12_isKind_18 (by decide) (fun hc => ?_) (fun hc => ?_)
      · replace hf := hs_t hf hc
        refine lv_iconst (v := 0) hx hb dX12_isKind_25 (by decide) ?_
        exact hs_iret hx hb hr hlocks (hs_01_nar (rfl)) hK hP hS hf dX12_isKind_26
      · replace hf := hs_f hf hc
        refine lv_iconst (v := 1) hx hb dX12_isKind_21 (by decide) ?_
        refine lv_goto (tgt := 26) hx hb dX12_isKind_22 (by decide) ?_
        exact hs_iret hx hb hr hlocks (hs_01_nar (rfl)) hK hP hS hf dX12_isKind_26

