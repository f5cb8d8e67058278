/-! WHICH METHOD OBJECTS ARE WRITTEN (wip/gen/k6.py): M alone -/
def P6 (M : Nat) (g q : hs_S) : Prop := ((∀ b, (gm_k b = 6 ∨ gm_k b = 0) → b ≠ M → hs_I q b = hs_I g b) ∧ hs_R q = hs_R g) ∧ RO q
theorem P6.rf {M : Nat} {g : hs_S} (c : RO g) : P6 M g g := ⟨⟨fun _ _ _ => rfl, rfl⟩, c⟩
theorem P6.trans {M : Nat} {g q r : hs_S} (h : P6 M g q) (h' : P6 M q r) : P6 M g r := ⟨⟨fun b x y => (h'.1.1 b x y).trans (h.1.1 b x y), h'.1.2.trans h.1.2⟩, h'.2⟩
theorem P6.w {M : Nat} {g q : hs_S} (h : P6 M g q) {a j : Nat} {v : Int32} (o : (gm_k a ≠ 6 ∧ gm_k a ≠ 0) ∨ a = M) : P6 M g (hs_wI q a j v) := by
  refine ⟨⟨fun b x y => ?_, h.1.2⟩, h.2⟩
  funext i
  rw [hs_I_w, if_neg (fun e => by
    rcases o with o | o
    · rw [e] at x
      exact x.elim o.1 o.2
    · exact y (e.trans o)), h.1.1 b x y]
def O62 {α : Type} (M : Nat) (E : hs_S) (q : α × hs_S) : Prop := P6 M E q.2
def O63 {α β : Type} (M : Nat) (E : hs_S) (q : α × β × hs_S) : Prop := P6 M E q.2.2
def O64 {α β γ : Type} (M : Nat) (E : hs_S) (q : α × β × γ × hs_S) : Prop := P6 M E q.2.2.2
theorem Pq.st6 {α β : Type} {M : Nat} {x : Option (α × hs_S)} {f : α → hs_S → Option β} {E : hs_S} {P : β → Prop} (h : Pq x (O62 M E)) (k : ∀ r g', P6 M E g' → Pq (f r g') P) : Pq (hs_bd x f) P := by
  cases e : x with
  | none => exact Pq.n
  | some q => exact k q.1 q.2 (h q e)
theorem Pq.sv6 {β : Type} {M : Nat} {x : Option hs_S} {f : hs_S → Option β} {E : hs_S} {P : β → Prop} (h : Pq x (P6 M E)) (k : ∀ g', P6 M E g' → Pq (f g') P) : Pq (hs_bv x f) P := by
  cases e : x with
  | none => exact Pq.n
  | some q => exact k q (h q e)
theorem Pq.s36 {α0 α1 β : Type} {M : Nat} {x : Option (α0 × α1 × hs_S)} {f : α0 → α1 → hs_S → Option β} {E : hs_S} {P : β → Prop} (h : Pq x (O63 M E)) (k : ∀ r0 r1 g', P6 M E g' → Pq (f r0 r1 g') P) : Pq (hs_b3 x f) P := by
  cases e : x with
  | none => exact Pq.n
  | some q => exact k q.1 q.2.1 q.2.2 (h q e)
theorem Pq.s46 {α0 α1 α2 β : Type} {M : Nat} {x : Option (α0 × α1 × α2 × hs_S)} {f : α0 → α1 → α2 → hs_S → Option β} {E : hs_S} {P : β → Prop} (h : Pq x (O64 M E)) (k : ∀ r0 r1 r2 g', P6 M E g' → Pq (f r0 r1 r2 g') P) : Pq (hs_b4 x f) P := by
  cases e : x with
  | none => exact Pq.n
  | some q => exact k q.1 q.2.1 q.2.2.1 q.2.2.2 (h q e)
theorem Pq.to6 {α : Type} {M : Nat} {g E : hs_S} {x : Option (α × hs_S)} (o : P6 M g E) (h : Pq x (O62 M E)) : Pq x (O62 M g) := fun q e => o.trans (h q e)
theorem Pq.tv6 {M : Nat} {g E : hs_S} {x : Option hs_S} (o : P6 M g E) (h : Pq x (P6 M E)) : Pq x (P6 M g) := fun q e => o.trans (h q e)
theorem Pq.t36 {α β : Type} {M : Nat} {g E : hs_S} {x : Option (α × β × hs_S)} (o : P6 M g E) (h : Pq x (O63 M E)) : Pq x (O63 M g) := fun q e => o.trans (h q e)
theorem Pq.t46 {α β γ : Type} {M : Nat} {g E : hs_S} {x : Option (α × β × γ × hs_S)} (o : P6 M g E) (h : Pq x (O64 M E)) : Pq x (O64 M g) := fun q e => o.trans (h q e)
theorem klJ7_fill_53178_5 {M : Nat} : ∀ (n : Nat) (v0 : Nat) (v1 : Int32) (v2 : Int32) (v3 : Int32) (g : hs_S), RO g → aG v0 → Pq (lJ7_fill_53178_5 n v0 v1 v2 v3 g) (P6 M g)
  | 0, v0, v1, v2, v3, g, _, _ => Pq.n
  | n + 1, v0, v1, v2, v3, g, c, k_v0 => by
    rw [lJ7_fill_53178_5]
    refine Pq.br ?_ ?_
    · exact Pq.s (P6.rf c)
    · refine Pq.ck ?_
      refine Pq.ck ?_
      exact Pq.tv6 ((P6.rf c).w (Or.inl (by rw [(k_v0).1]; decide))) (klJ7_fill_53178_5 (M := M) n _ _ _ _ _ c k_v0)
theorem kfJ7_fill_53178 {M : Nat} {g : hs_S} {v0 : Nat} {v1 : Int32} (c : RO g) (k_v0 : aG v0) : Pq (fJ7_fill_53178 v0 v1 g) (P6 M g) := by
  unfold fJ7_fill_53178
  refine Pq.ck ?_
  refine Pq.sv6 (klJ7_fill_53178_5 (M := M) hs_N _ _ _ _ _ c k_v0) fun  g1 o2 => ?_
  exact Pq.s ((P6.rf c).trans o2)
theorem kfX9_put {M : Nat} {g : hs_S} {v0 : Nat} {v1 : Int32} {v2 : Int32} (c : RO g) (k_v0 : aG v0) : Pq (fX9_put v0 v1 v2 g) (P6 M g) := by
  unfold fX9_put
  refine Pq.br ?_ ?_
  · exact Pq.s (P6.rf c)
  · refine Pq.ck ?_
    refine Pq.br ?_ ?_
    · exact Pq.s (P6.rf c)
    · refine Pq.ck ?_
      exact Pq.s ((P6.rf c).w (Or.inl (by rw [(k_v0).1]; decide)))
theorem kfX7_empty {g : hs_S} {v0 : Nat} (c : RO g) (k_v0 : gm_k v0 = 6) : Pq (fX7_empty v0 g) (P6 v0 g) := by
  unfold fX7_empty
  refine Pq.ck ?_
  refine Pq.sm ?_
  refine Pq.sm ?_
  exact Pq.s ((((((((((P6.rf c).w (Or.inr rfl)).w (Or.inr rfl)).w (Or.inr rfl)).w (Or.inr rfl)).w (Or.inr rfl)).w (Or.inr rfl)).w (Or.inr rfl)).w (Or.inr rfl)).w (Or.inr rfl))
theorem kfX2_wrongHandlerCount {g : hs_S} {v0 : Nat} {v1 : Nat} {v2 : Nat} (c : RO g) (k_v2 : gm_k v2 = 6) : Pq (fX2_wrongHandlerCount v0 v1 v2 g) (O62 v2 g) := by
  unfold fX2_wrongHandlerCount
  refine Pq.ck ?_
  refine Pq.ck ?_
  refine Pq.br ?_ ?_
  · refine Pq.ro (pfX0_valueAt) fun y1 f5 => ?_
    refine Pq.ck ?_
    refine Pq.br ?_ ?_
    · refine Pq.ck ?_
      refine Pq.ro (pfX2_endOf) fun y3 f6 => ?_
      refine Pq.ck ?_
      refine Pq.br ?_ ?_
      · exact Pq.s ((P6.rf c).w (Or.inr rfl))
      · exact Pq.s ((P6.rf c).w (Or.inr rfl))
    · exact Pq.s ((P6.rf c).w (Or.inr rfl))
  · exact Pq.s (P6.rf c)
theorem kfX2_wrongNumber {g : hs_S} {v0 : Nat} {v1 : Nat} {v2 : Nat} {v3 : Int32} (c : RO g) (k_v2 : gm_k v2 = 6) : Pq (fX2_wrongNumber v0 v1 v2 v3 g) (O62 v2 g) := by
  unfold fX2_wrongNumber
  refine Pq.ck ?_
  refine Pq.ro (pfX0_valueAt) fun y1 f9 => ?_
  refine Pq.ck ?_
  refine Pq.br ?_ ?_
  · exact Pq.s ((P6.rf c).w (Or.inr rfl))
  · refine Pq.br ?_ ?_
    · refine Pq.ck ?_
      refine Pq.ro (pfX0_valueAt) fun y3 f10 => ?_
      refine Pq.ck ?_
      refine Pq.br ?_ ?_
      · refine Pq.br ?_ ?_
        · exact Pq.s (((P6.rf c).w (Or.inr rfl)).w (Or.inr rfl))
        · refine Pq.br ?_ ?_
          · refine Pq.ck ?_
            refine Pq.ro (pfX0_pairAt) fun y5 f11 => ?_
            refine Pq.ck ?_
            refine Pq.br ?_ ?_
            · refine Pq.br ?_ ?_
              · exact Pq.s (((((P6.rf c).w (Or.inr rfl)).w (Or.inr rfl)).w (Or.inr rfl)).w (Or.inr rfl))
              · refine Pq.br ?_ ?_
                · refine Pq.ck ?_
                  refine Pq.st6 (kfX2_wrongHandlerCount c k_v2) fun y7 g8 o12 => ?_
                  exact Pq.s ((((((P6.rf c).w (Or.inr rfl)).w (Or.inr rfl)).w (Or.inr rfl)).w (Or.inr rfl)).trans o12)
                · exact Pq.s (((((P6.rf c).w (Or.inr rfl)).w (Or.inr rfl)).w (Or.inr rfl)).w (Or.inr rfl))
            · exact Pq.s (((((P6.rf c).w (Or.inr rfl)).w (Or.inr rfl)).w (Or.inr rfl)).w (Or.inr rfl))
          · exact Pq.s (((P6.rf c).w (Or.inr rfl)).w (Or.inr rfl))
      · exact Pq.s (((P6.rf c).w (Or.inr rfl)).w (Or.inr rfl))
    · exact Pq.s ((P6.rf c).w (Or.inr rfl))
theorem kfX7_mark {M : Nat} {g : hs_S} {v0 : Nat} {v1 : Int32} {v2 : Int32} (c : RO g) (k_v0 : gm_k v0 = 6) : Pq (fX7_mark v0 v1 v2 g) (P6 M g) := by
  unfold fX7_mark
  refine Pq.ck ?_
  refine Pq.ro (pfX7_hasPlace) fun y1 f3 => ?_
  refine Pq.br ?_ ?_
  · exact Pq.s (P6.rf c)
  · refine Pq.ck ?_
    refine Pq.ck ?_
    refine Pq.ck ?_
    refine Pq.ck ?_
    exact Pq.s ((P6.rf c).w (Or.inl (by rw [(((c.1 _).2.2.2.2.2.2.1 k_v0).1.2).1]; decide)))
theorem klX2_wrongInstruction_2 : ∀ (n : Nat) (v0 : Nat) (v1 : Nat) (v2 : Nat) (v3 : Int32) (g : hs_S), RO g → gm_k v2 = 6 → Pq (lX2_wrongInstruction_2 n v0 v1 v2 v3 g) (O63 v2 g)
  | 0, v0, v1, v2, v3, g, _, _ => Pq.n
  | n + 1, v0, v1, v2, v3, g, c, k_v2 => by
    rw [lX2_wrongInstruction_2]
    unfold jX2_wrongInstruction_37 jX2_wrongInstruction_38 jX2_wrongInstruction_91
    refine Pq.ck ?_
    refine Pq.br ?_ ?_
    · exact Pq.s (P6.rf c)
    · refine Pq.ro (pfX7_sizeAt) fun y1 f18 => ?_
      refine Pq.br ?_ ?_
      · refine Pq.br ?_ ?_
        · exact Pq.s (P6.rf c)
        · refine Pq.ck ?_
          refine Pq.ro (pfX2_hasOperand) fun y3 f19 => ?_
          refine Pq.br ?_ ?_
          · exact Pq.s (P6.rf c)
          · refine Pq.ck ?_
            refine Pq.sv6 (kfX7_mark (M := v2) c k_v2) fun  g5 o20 => ?_
            refine Pq.ck ?_
            refine Pq.ro (pfX7_valueAt) fun y6 f21 => ?_
            refine Pq.br ?_ ?_
            · refine Pq.ck ?_
              exact Pq.t36 (((P6.rf c).trans o20).w (Or.inr rfl)) (klX2_wrongInstruction_2 n _ _ _ _ _ ((P6.rf c).trans o20).2 k_v2)
            · exact Pq.t36 ((P6.rf c).trans o20) (klX2_wrongInstruction_2 n _ _ _ _ _ ((P6.rf c).trans o20).2 k_v2)
      · refine Pq.ck ?_
        refine Pq.br ?_ ?_
        · refine Pq.br ?_ ?_
          · exact Pq.s (P6.rf c)
          · refine Pq.ck ?_
            refine Pq.ro (pfX2_hasOperand) fun y8 f22 => ?_
            refine Pq.br ?_ ?_
            · exact Pq.s (P6.rf c)
            · refine Pq.ck ?_
              refine Pq.sv6 (kfX7_mark (M := v2) c k_v2) fun  g10 o23 => ?_
              refine Pq.ck ?_
              refine Pq.ro (pfX7_valueAt) fun y11 f24 => ?_
              refine Pq.br ?_ ?_
              · refine Pq.ck ?_
                exact Pq.t36 (((P6.rf c).trans o23).w (Or.inr rfl)) (klX2_wrongInstruction_2 n _ _ _ _ _ ((P6.rf c).trans o23).2 k_v2)
              · exact Pq.t36 ((P6.rf c).trans o23) (klX2_wrongInstruction_2 n _ _ _ _ _ ((P6.rf c).trans o23).2 k_v2)
        · refine Pq.br ?_ ?_
          · exact Pq.s (P6.rf c)
          · refine Pq.ck ?_
            refine Pq.ro (pfX2_hasOperand) fun y13 f25 => ?_
            refine Pq.br ?_ ?_
            · exact Pq.s (P6.rf c)
            · refine Pq.ck ?_
              refine Pq.sv6 (kfX7_mark (M := v2) c k_v2) fun  g15 o26 => ?_
              refine Pq.ck ?_
              refine Pq.ro (pfX7_valueAt) fun y16 f27 => ?_
              refine Pq.br ?_ ?_
              · refine Pq.ck ?_
                exact Pq.t36 (((P6.rf c).trans o26).w (Or.inr rfl)) (klX2_wrongInstruction_2 n _ _ _ _ _ ((P6.rf c).trans o26).2 k_v2)
              · exact Pq.t36 ((P6.rf c).trans o26) (klX2_wrongInstruction_2 n _ _ _ _ _ ((P6.rf c).trans o26).2 k_v2)
theorem kfX2_wrongInstruction {g : hs_S} {v0 : Nat} {v1 : Nat} {v2 : Nat} (c : RO g) (k_v2 : gm_k v2 = 6) : Pq (fX2_wrongInstruction v0 v1 v2 g) (O62 v2 g) := by
  unfold fX2_wrongInstruction jX2_wrongInstruction_55
  refine Pq.s36 (klX2_wrongInstruction_2 hs_N _ _ _ _ _ c k_v2) fun y1 y2 g3 o4 => ?_
  refine Pq.br ?_ ?_
  · exact Pq.s ((P6.rf c).trans o4)
  · refine Pq.ck ?_
    exact Pq.s ((P6.rf c).trans o4)
theorem kfX7_setHandlerNumber {M : Nat} {g : hs_S} {v0 : Nat} {v1 : Int32} {v2 : Int32} {v3 : Int32} (c : RO g) (k_v0 : gm_k v0 = 6) : Pq (fX7_setHandlerNumber v0 v1 v2 v3 g) (P6 M g) := by
  unfold fX7_setHandlerNumber
  refine Pq.ck ?_
  refine Pq.ck ?_
  refine Pq.sv6 (kfX9_put (M := M) c ((c.1 _).2.2.2.2.2.2.1 k_v0).2.2) fun  g1 o2 => ?_
  exact Pq.s ((P6.rf c).trans o2)
theorem klX2_wrongHandler_2 {M : Nat} : ∀ (n : Nat) (v0 : Nat) (v1 : Nat) (v2 : Nat) (v3 : Int32) (g : hs_S), RO g → gm_k v2 = 6 → Pq (lX2_wrongHandler_2 n v0 v1 v2 v3 g) (O63 M g)
  | 0, v0, v1, v2, v3, g, _, _ => Pq.n
  | n + 1, v0, v1, v2, v3, g, c, k_v2 => by
    rw [lX2_wrongHandler_2]
    unfold jX2_wrongHandler_82 jX2_wrongHandler_86 jX2_wrongHandler_87
    refine Pq.ck ?_
    refine Pq.br ?_ ?_
    · exact Pq.s (P6.rf c)
    · refine Pq.ck ?_
      refine Pq.ro (pfX2_handlerPlace) fun y1 f45 => ?_
      refine Pq.ck ?_
      refine Pq.ro (pfX0_pairAt) fun y3 f46 => ?_
      refine Pq.ck ?_
      refine Pq.ro (pfX0_pairAt) fun y5 f47 => ?_
      refine Pq.ck ?_
      refine Pq.ro (pfX0_pairAt) fun y7 f48 => ?_
      refine Pq.ck ?_
      refine Pq.ro (pfX0_valueAt) fun y9 f49 => ?_
      refine Pq.br ?_ ?_
      · refine Pq.ck ?_
        refine Pq.ro (pfX7_begins) fun y13 f50 => ?_
        refine Pq.br ?_ ?_
        · exact Pq.s (P6.rf c)
        · refine Pq.ck ?_
          refine Pq.ro (pfX7_begins) fun y15 f51 => ?_
          refine Pq.br ?_ ?_
          · exact Pq.s (P6.rf c)
          · refine Pq.br ?_ ?_
            · exact Pq.s (P6.rf c)
            · refine Pq.br ?_ ?_
              · refine Pq.ck ?_
                refine Pq.sv6 (kfX7_setHandlerNumber (M := M) c k_v2) fun  g17 o52 => ?_
                refine Pq.ck ?_
                refine Pq.sv6 (kfX7_setHandlerNumber (M := M) ((P6.rf c).trans o52).2 k_v2) fun  g18 o53 => ?_
                refine Pq.ck ?_
                refine Pq.sv6 (kfX7_setHandlerNumber (M := M) (((P6.rf c).trans o52).trans o53).2 k_v2) fun  g19 o54 => ?_
                refine Pq.ck ?_
                refine Pq.sv6 (kfX7_setHandlerNumber (M := M) ((((P6.rf c).trans o52).trans o53).trans o54).2 k_v2) fun  g20 o55 => ?_
                exact Pq.t36 (((((P6.rf c).trans o52).trans o53).trans o54).trans o55) (klX2_wrongHandler_2 (M := M) n _ _ _ _ _ (((((P6.rf c).trans o52).trans o53).trans o54).trans o55).2 k_v2)
              · exact Pq.s (P6.rf c)
      · refine Pq.ck ?_
        refine Pq.ro (pfX7_begins) fun y11 f56 => ?_
        refine Pq.br ?_ ?_
        · refine Pq.ck ?_
          refine Pq.br ?_ ?_
          · refine Pq.ck ?_
            refine Pq.ro (pfX7_begins) fun y21 f57 => ?_
            refine Pq.br ?_ ?_
            · exact Pq.s (P6.rf c)
            · refine Pq.ck ?_
              refine Pq.ro (pfX7_begins) fun y23 f58 => ?_
              refine Pq.br ?_ ?_
              · exact Pq.s (P6.rf c)
              · refine Pq.br ?_ ?_
                · exact Pq.s (P6.rf c)
                · refine Pq.br ?_ ?_
                  · refine Pq.ck ?_
                    refine Pq.sv6 (kfX7_setHandlerNumber (M := M) c k_v2) fun  g25 o59 => ?_
                    refine Pq.ck ?_
                    refine Pq.sv6 (kfX7_setHandlerNumber (M := M) ((P6.rf c).trans o59).2 k_v2) fun  g26 o60 => ?_
                    refine Pq.ck ?_
                    refine Pq.sv6 (kfX7_setHandlerNumber (M := M) (((P6.rf c).trans o59).trans o60).2 k_v2) fun  g27 o61 => ?_
                    refine Pq.ck ?_
                    refine Pq.sv6 (kfX7_setHandlerNumber (M := M) ((((P6.rf c).trans o59).trans o60).trans o61).2 k_v2) fun  g28 o62 => ?_
                    exact Pq.t36 (((((P6.rf c).trans o59).trans o60).trans o61).trans o62) (klX2_wrongHandler_2 (M := M) n _ _ _ _ _ (((((P6.rf c).trans o59).trans o60).trans o61).trans o62).2 k_v2)
                  · exact Pq.s (P6.rf c)
          · refine Pq.ck ?_
            refine Pq.ro (pfX7_begins) fun y29 f63 => ?_
            refine Pq.br ?_ ?_
            · exact Pq.s (P6.rf c)
            · refine Pq.ck ?_
              refine Pq.ro (pfX7_begins) fun y31 f64 => ?_
              refine Pq.br ?_ ?_
              · exact Pq.s (P6.rf c)
              · refine Pq.br ?_ ?_
                · exact Pq.s (P6.rf c)
                · refine Pq.br ?_ ?_
                  · refine Pq.ck ?_
                    refine Pq.sv6 (kfX7_setHandlerNumber (M := M) c k_v2) fun  g33 o65 => ?_
                    refine Pq.ck ?_
                    refine Pq.sv6 (kfX7_setHandlerNumber (M := M) ((P6.rf c).trans o65).2 k_v2) fun  g34 o66 => ?_
                    refine Pq.ck ?_
                    refine Pq.sv6 (kfX7_setHandlerNumber (M := M) (((P6.rf c).trans o65).trans o66).2 k_v2) fun  g35 o67 => ?_
                    refine Pq.ck ?_
                    refine Pq.sv6 (kfX7_setHandlerNumber (M := M) ((((P6.rf c).trans o65).trans o66).trans o67).2 k_v2) fun  g36 o68 => ?_
                    exact Pq.t36 (((((P6.rf c).trans o65).trans o66).trans o67).trans o68) (klX2_wrongHandler_2 (M := M) n _ _ _ _ _ (((((P6.rf c).trans o65).trans o66).trans o67).trans o68).2 k_v2)
                  · exact Pq.s (P6.rf c)
        · refine Pq.ck ?_
          refine Pq.ro (pfX7_begins) fun y37 f69 => ?_
          refine Pq.br ?_ ?_
          · exact Pq.s (P6.rf c)
          · refine Pq.ck ?_
            refine Pq.ro (pfX7_begins) fun y39 f70 => ?_
            refine Pq.br ?_ ?_
            · exact Pq.s (P6.rf c)
            · refine Pq.br ?_ ?_
              · exact Pq.s (P6.rf c)
              · refine Pq.br ?_ ?_
                · refine Pq.ck ?_
                  refine Pq.sv6 (kfX7_setHandlerNumber (M := M) c k_v2) fun  g41 o71 => ?_
                  refine Pq.ck ?_
                  refine Pq.sv6 (kfX7_setHandlerNumber (M := M) ((P6.rf c).trans o71).2 k_v2) fun  g42 o72 => ?_
                  refine Pq.ck ?_
                  refine Pq.sv6 (kfX7_setHandlerNumber (M := M) (((P6.rf c).trans o71).trans o72).2 k_v2) fun  g43 o73 => ?_
                  refine Pq.ck ?_
                  refine Pq.sv6 (kfX7_setHandlerNumber (M := M) ((((P6.rf c).trans o71).trans o72).trans o73).2 k_v2) fun  g44 o74 => ?_
                  exact Pq.t36 (((((P6.rf c).trans o71).trans o72).trans o73).trans o74) (klX2_wrongHandler_2 (M := M) n _ _ _ _ _ (((((P6.rf c).trans o71).trans o72).trans o73).trans o74).2 k_v2)
                · exact Pq.s (P6.rf c)
theorem kfX2_wrongHandler {M : Nat} {g : hs_S} {v0 : Nat} {v1 : Nat} {v2 : Nat} (c : RO g) (k_v2 : gm_k v2 = 6) : Pq (fX2_wrongHandler v0 v1 v2 g) (O62 M g) := by
  unfold fX2_wrongHandler
  refine Pq.s36 (klX2_wrongHandler_2 (M := M) hs_N _ _ _ _ _ c k_v2) fun y1 y2 g3 o4 => ?_
  refine Pq.br ?_ ?_
  · exact Pq.s ((P6.rf c).trans o4)
  · exact Pq.s ((P6.rf c).trans o4)
theorem klX2_markBlocks_10 {M : Nat} : ∀ (n : Nat) (v1 : Nat) (v2 : Int32) (g : hs_S), RO g → gm_k v1 = 6 → Pq (lX2_markBlocks_10 n v1 v2 g) (P6 M g)
  | 0, v1, v2, g, _, _ => Pq.n
  | n + 1, v1, v2, g, c, k_v1 => by
    rw [lX2_markBlocks_10]
    unfold jX2_markBlocks_38 jX2_markBlocks_61 jX2_markBlocks_62 jX2_markBlocks_75 jX2_markBlocks_89
    refine Pq.ck ?_
    refine Pq.br ?_ ?_
    · exact Pq.s (P6.rf c)
    · refine Pq.ro (pfX7_jumpsAt) fun y1 f66 => ?_
      refine Pq.br ?_ ?_
      · refine Pq.ck ?_
        refine Pq.ro (pfX7_begins) fun y6 f67 => ?_
        refine Pq.br ?_ ?_
        · refine Pq.br ?_ ?_
          · refine Pq.ck ?_
            refine Pq.ro (pfX7_jumpsAt) fun y12 f68 => ?_
            refine Pq.br ?_ ?_
            · exact Pq.tv6 (P6.rf c) (klX2_markBlocks_10 (M := M) n _ _ _ c k_v1)
            · refine Pq.ck ?_
              refine Pq.ro (pfX7_sizeAt) fun y14 f69 => ?_
              refine Pq.ck ?_
              refine Pq.sv6 (kfX7_mark (M := M) c k_v1) fun  g16 o70 => ?_
              exact Pq.tv6 ((P6.rf c).trans o70) (klX2_markBlocks_10 (M := M) n _ _ _ ((P6.rf c).trans o70).2 k_v1)
          · refine Pq.ck ?_
            refine Pq.ro (pfX7_sizeAt) fun y17 f71 => ?_
            refine Pq.ck ?_
            refine Pq.sv6 (kfX7_mark (M := M) c k_v1) fun  g19 o72 => ?_
            exact Pq.tv6 ((P6.rf c).trans o72) (klX2_markBlocks_10 (M := M) n _ _ _ ((P6.rf c).trans o72).2 k_v1)
        · refine Pq.ck ?_
          refine Pq.ro (pfX7_valueAt) fun y8 f73 => ?_
          refine Pq.ro (pfX4_endsWay) fun y10 f74 => ?_
          refine Pq.br ?_ ?_
          · refine Pq.br ?_ ?_
            · refine Pq.ck ?_
              refine Pq.ro (pfX7_jumpsAt) fun y20 f75 => ?_
              refine Pq.br ?_ ?_
              · exact Pq.tv6 (P6.rf c) (klX2_markBlocks_10 (M := M) n _ _ _ c k_v1)
              · refine Pq.ck ?_
                refine Pq.ro (pfX7_sizeAt) fun y22 f76 => ?_
                refine Pq.ck ?_
                refine Pq.sv6 (kfX7_mark (M := M) c k_v1) fun  g24 o77 => ?_
                exact Pq.tv6 ((P6.rf c).trans o77) (klX2_markBlocks_10 (M := M) n _ _ _ ((P6.rf c).trans o77).2 k_v1)
            · refine Pq.ck ?_
              refine Pq.ro (pfX7_sizeAt) fun y25 f78 => ?_
              refine Pq.ck ?_
              refine Pq.sv6 (kfX7_mark (M := M) c k_v1) fun  g27 o79 => ?_
              exact Pq.tv6 ((P6.rf c).trans o79) (klX2_markBlocks_10 (M := M) n _ _ _ ((P6.rf c).trans o79).2 k_v1)
          · refine Pq.br ?_ ?_
            · refine Pq.ck ?_
              refine Pq.ro (pfX7_jumpsAt) fun y28 f80 => ?_
              refine Pq.br ?_ ?_
              · exact Pq.tv6 (P6.rf c) (klX2_markBlocks_10 (M := M) n _ _ _ c k_v1)
              · refine Pq.ck ?_
                refine Pq.ro (pfX7_sizeAt) fun y30 f81 => ?_
                refine Pq.ck ?_
                refine Pq.sv6 (kfX7_mark (M := M) c k_v1) fun  g32 o82 => ?_
                exact Pq.tv6 ((P6.rf c).trans o82) (klX2_markBlocks_10 (M := M) n _ _ _ ((P6.rf c).trans o82).2 k_v1)
            · refine Pq.ck ?_
              refine Pq.ro (pfX7_sizeAt) fun y33 f83 => ?_
              refine Pq.ck ?_
              refine Pq.sv6 (kfX7_mark (M := M) c k_v1) fun  g35 o84 => ?_
              exact Pq.tv6 ((P6.rf c).trans o84) (klX2_markBlocks_10 (M := M) n _ _ _ ((P6.rf c).trans o84).2 k_v1)
      · refine Pq.ck ?_
        refine Pq.ro (pfX7_targetOf) fun y3 f85 => ?_
        refine Pq.ck ?_
        refine Pq.sv6 (kfX7_mark (M := M) c k_v1) fun  g5 o86 => ?_
        refine Pq.ck ?_
        refine Pq.ro (pfX7_begins) fun y36 f87 => ?_
        refine Pq.br ?_ ?_
        · refine Pq.br ?_ ?_
          · refine Pq.ck ?_
            refine Pq.ro (pfX7_jumpsAt) fun y42 f88 => ?_
            refine Pq.br ?_ ?_
            · exact Pq.tv6 ((P6.rf c).trans o86) (klX2_markBlocks_10 (M := M) n _ _ _ ((P6.rf c).trans o86).2 k_v1)
            · refine Pq.ck ?_
              refine Pq.ro (pfX7_sizeAt) fun y44 f89 => ?_
              refine Pq.ck ?_
              refine Pq.sv6 (kfX7_mark (M := M) ((P6.rf c).trans o86).2 k_v1) fun  g46 o90 => ?_
              exact Pq.tv6 (((P6.rf c).trans o86).trans o90) (klX2_markBlocks_10 (M := M) n _ _ _ (((P6.rf c).trans o86).trans o90).2 k_v1)
          · refine Pq.ck ?_
            refine Pq.ro (pfX7_sizeAt) fun y47 f91 => ?_
            refine Pq.ck ?_
            refine Pq.sv6 (kfX7_mark (M := M) ((P6.rf c).trans o86).2 k_v1) fun  g49 o92 => ?_
            exact Pq.tv6 (((P6.rf c).trans o86).trans o92) (klX2_markBlocks_10 (M := M) n _ _ _ (((P6.rf c).trans o86).trans o92).2 k_v1)
        · refine Pq.ck ?_
          refine Pq.ro (pfX7_valueAt) fun y38 f93 => ?_
          refine Pq.ro (pfX4_endsWay) fun y40 f94 => ?_
          refine Pq.br ?_ ?_
          · refine Pq.br ?_ ?_
            · refine Pq.ck ?_
              refine Pq.ro (pfX7_jumpsAt) fun y50 f95 => ?_
              refine Pq.br ?_ ?_
              · exact Pq.tv6 ((P6.rf c).trans o86) (klX2_markBlocks_10 (M := M) n _ _ _ ((P6.rf c).trans o86).2 k_v1)
              · refine Pq.ck ?_
                refine Pq.ro (pfX7_sizeAt) fun y52 f96 => ?_
                refine Pq.ck ?_
                refine Pq.sv6 (kfX7_mark (M := M) ((P6.rf c).trans o86).2 k_v1) fun  g54 o97 => ?_
                exact Pq.tv6 (((P6.rf c).trans o86).trans o97) (klX2_markBlocks_10 (M := M) n _ _ _ (((P6.rf c).trans o86).trans o97).2 k_v1)
            · refine Pq.ck ?_
              refine Pq.ro (pfX7_sizeAt) fun y55 f98 => ?_
              refine Pq.ck ?_
              refine Pq.sv6 (kfX7_mark (M := M) ((P6.rf c).trans o86).2 k_v1) fun  g57 o99 => ?_
              exact Pq.tv6 (((P6.rf c).trans o86).trans o99) (klX2_markBlocks_10 (M := M) n _ _ _ (((P6.rf c).trans o86).trans o99).2 k_v1)
          · refine Pq.br ?_ ?_
            · refine Pq.ck ?_
              refine Pq.ro (pfX7_jumpsAt) fun y58 f100 => ?_
              refine Pq.br ?_ ?_
              · exact Pq.tv6 ((P6.rf c).trans o86) (klX2_markBlocks_10 (M := M) n _ _ _ ((P6.rf c).trans o86).2 k_v1)
              · refine Pq.ck ?_
                refine Pq.ro (pfX7_sizeAt) fun y60 f101 => ?_
                refine Pq.ck ?_
                refine Pq.sv6 (kfX7_mark (M := M) ((P6.rf c).trans o86).2 k_v1) fun  g62 o102 => ?_
                exact Pq.tv6 (((P6.rf c).trans o86).trans o102) (klX2_markBlocks_10 (M := M) n _ _ _ (((P6.rf c).trans o86).trans o102).2 k_v1)
            · refine Pq.ck ?_
              refine Pq.ro (pfX7_sizeAt) fun y63 f103 => ?_
              refine Pq.ck ?_
              refine Pq.sv6 (kfX7_mark (M := M) ((P6.rf c).trans o86).2 k_v1) fun  g65 o104 => ?_
              exact Pq.tv6 (((P6.rf c).trans o86).trans o104) (klX2_markBlocks_10 (M := M) n _ _ _ (((P6.rf c).trans o86).trans o104).2 k_v1)
theorem klX2_markBlocks_97 {M : Nat} : ∀ (n : Nat) (v1 : Nat) (v2 : Int32) (g : hs_S), RO g → gm_k v1 = 6 → Pq (lX2_markBlocks_97 n v1 v2 g) (P6 M g)
  | 0, v1, v2, g, _, _ => Pq.n
  | n + 1, v1, v2, g, c, k_v1 => by
    rw [lX2_markBlocks_97]
    refine Pq.ck ?_
    refine Pq.br ?_ ?_
    · exact Pq.s (P6.rf c)
    · refine Pq.ro (pfX7_handlerNumber) fun y1 f4 => ?_
      refine Pq.ck ?_
      refine Pq.sv6 (kfX7_mark (M := M) c k_v1) fun  g3 o5 => ?_
      exact Pq.tv6 ((P6.rf c).trans o5) (klX2_markBlocks_97 (M := M) n _ _ _ ((P6.rf c).trans o5).2 k_v1)
theorem klX2_markBlocks_126 : ∀ (n : Nat) (v1 : Nat) (v2 : Int32) (g : hs_S), RO g → gm_k v1 = 6 → Pq (lX2_markBlocks_126 n v1 v2 g) (P6 v1 g)
  | 0, v1, v2, g, _, _ => Pq.n
  | n + 1, v1, v2, g, c, k_v1 => by
    rw [lX2_markBlocks_126]
    unfold jX2_markBlocks_152
    refine Pq.ck ?_
    refine Pq.br ?_ ?_
    · exact Pq.s (P6.rf c)
    · refine Pq.ro (pfX7_beginsBlock) fun y1 f3 => ?_
      refine Pq.br ?_ ?_
      · refine Pq.ck ?_
        exact Pq.tv6 ((P6.rf c).w (Or.inr rfl)) (klX2_markBlocks_126 n _ _ _ c k_v1)
      · refine Pq.ck ?_
        exact Pq.tv6 ((P6.rf c).w (Or.inr rfl)) (klX2_markBlocks_126 n _ _ _ c k_v1)
theorem kfX2_markBlocks {g : hs_S} {v0 : Nat} {v1 : Nat} (c : RO g) (k_v1 : gm_k v1 = 6) : Pq (fX2_markBlocks v0 v1 g) (P6 v1 g) := by
  unfold fX2_markBlocks
  refine Pq.ck ?_
  refine Pq.sv6 (kfX7_mark (M := v1) c k_v1) fun  g1 o5 => ?_
  refine Pq.sv6 (klX2_markBlocks_10 (M := v1) hs_N _ _ _ ((P6.rf c).trans o5).2 k_v1) fun  g2 o6 => ?_
  refine Pq.sv6 (klX2_markBlocks_97 (M := v1) hs_N _ _ _ (((P6.rf c).trans o5).trans o6).2 k_v1) fun  g3 o7 => ?_
  refine Pq.sv6 (klX2_markBlocks_126 hs_N _ _ _ ((((P6.rf c).trans o5).trans o6).trans o7).2 k_v1) fun  g4 o8 => ?_
  exact Pq.s (((((P6.rf c).trans o5).trans o6).trans o7).trans o8)
theorem kfX2_wrongInMethod {g : hs_S} {v0 : Nat} {v1 : Nat} {v2 : Nat} {v3 : Int32} (c : RO g) (k_v2 : gm_k v2 = 6) : Pq (fX2_wrongInMethod v0 v1 v2 v3 g) (O62 v2 g) := by
  unfold fX2_wrongInMethod jX2_wrongInMethod_30 jX2_wrongInMethod_49 jX2_wrongInMethod_67
  refine Pq.ck ?_
  refine Pq.sv6 (kfX7_empty c k_v2) fun  g1 o26 => ?_
  refine Pq.ck ?_
  refine Pq.st6 (kfX2_wrongNumber ((P6.rf c).trans o26).2 k_v2) fun y2 g3 o27 => ?_
  refine Pq.br ?_ ?_
  · refine Pq.ck ?_
    refine Pq.st6 (kfX2_wrongInstruction (((P6.rf c).trans o26).trans o27).2 k_v2) fun y4 g5 o28 => ?_
    refine Pq.br ?_ ?_
    · refine Pq.ck ?_
      refine Pq.st6 (kfX2_wrongHandler (M := v2) ((((P6.rf c).trans o26).trans o27).trans o28).2 k_v2) fun y6 g7 o29 => ?_
      refine Pq.br ?_ ?_
      · refine Pq.ck ?_
        refine Pq.ro (pfX2_wrongJump) fun y8 f30 => ?_
        refine Pq.br ?_ ?_
        · refine Pq.ck ?_
          refine Pq.sv6 (kfX2_markBlocks (((((P6.rf c).trans o26).trans o27).trans o28).trans o29).2 k_v2) fun  g10 o31 => ?_
          exact Pq.s ((((((P6.rf c).trans o26).trans o27).trans o28).trans o29).trans o31)
        · exact Pq.s (((((P6.rf c).trans o26).trans o27).trans o28).trans o29)
      · refine Pq.br ?_ ?_
        · refine Pq.ck ?_
          refine Pq.sv6 (kfX2_markBlocks (((((P6.rf c).trans o26).trans o27).trans o28).trans o29).2 k_v2) fun  g11 o32 => ?_
          exact Pq.s ((((((P6.rf c).trans o26).trans o27).trans o28).trans o29).trans o32)
        · exact Pq.s (((((P6.rf c).trans o26).trans o27).trans o28).trans o29)
    · refine Pq.br ?_ ?_
      · refine Pq.ck ?_
        refine Pq.ro (pfX2_wrongJump) fun y12 f33 => ?_
        refine Pq.br ?_ ?_
        · refine Pq.ck ?_
          refine Pq.sv6 (kfX2_markBlocks ((((P6.rf c).trans o26).trans o27).trans o28).2 k_v2) fun  g14 o34 => ?_
          exact Pq.s (((((P6.rf c).trans o26).trans o27).trans o28).trans o34)
        · exact Pq.s ((((P6.rf c).trans o26).trans o27).trans o28)
      · refine Pq.br ?_ ?_
        · refine Pq.ck ?_
          refine Pq.sv6 (kfX2_markBlocks ((((P6.rf c).trans o26).trans o27).trans o28).2 k_v2) fun  g15 o35 => ?_
          exact Pq.s (((((P6.rf c).trans o26).trans o27).trans o28).trans o35)
        · exact Pq.s ((((P6.rf c).trans o26).trans o27).trans o28)
  · refine Pq.br ?_ ?_
    · refine Pq.ck ?_
      refine Pq.st6 (kfX2_wrongHandler (M := v2) (((P6.rf c).trans o26).trans o27).2 k_v2) fun y16 g17 o36 => ?_
      refine Pq.br ?_ ?_
      · refine Pq.ck ?_
        refine Pq.ro (pfX2_wrongJump) fun y18 f37 => ?_
        refine Pq.br ?_ ?_
        · refine Pq.ck ?_
          refine Pq.sv6 (kfX2_markBlocks ((((P6.rf c).trans o26).trans o27).trans o36).2 k_v2) fun  g20 o38 => ?_
          exact Pq.s (((((P6.rf c).trans o26).trans o27).trans o36).trans o38)
        · exact Pq.s ((((P6.rf c).trans o26).trans o27).trans o36)
      · refine Pq.br ?_ ?_
        · refine Pq.ck ?_
          refine Pq.sv6 (kfX2_markBlocks ((((P6.rf c).trans o26).trans o27).trans o36).2 k_v2) fun  g21 o39 => ?_
          exact Pq.s (((((P6.rf c).trans o26).trans o27).trans o36).trans o39)
        · exact Pq.s ((((P6.rf c).trans o26).trans o27).trans o36)
    · refine Pq.br ?_ ?_
      · refine Pq.ck ?_
        refine Pq.ro (pfX2_wrongJump) fun y22 f40 => ?_
        refine Pq.br ?_ ?_
        · refine Pq.ck ?_
          refine Pq.sv6 (kfX2_markBlocks (((P6.rf c).trans o26).trans o27).2 k_v2) fun  g24 o41 => ?_
          exact Pq.s ((((P6.rf c).trans o26).trans o27).trans o41)
        · exact Pq.s (((P6.rf c).trans o26).trans o27)
      · refine Pq.br ?_ ?_
        · refine Pq.ck ?_
          refine Pq.sv6 (kfX2_markBlocks (((P6.rf c).trans o26).trans o27).2 k_v2) fun  g25 o42 => ?_
          exact Pq.s ((((P6.rf c).trans o26).trans o27).trans o42)
        · exact Pq.s (((P6.rf c).trans o26).trans o27)
theorem klX1_findLowest_0 {M : Nat} : ∀ (n : Nat) (v0 : Nat) (v1 : Int32) (g : hs_S), RO g → gm_k v0 = 1 → Pq (lX1_findLowest_0 n v0 v1 g) (O62 M g)
  | 0, v0, v1, g, _, _ => Pq.n
  | n + 1, v0, v1, g, c, k_v0 => by
    rw [lX1_findLowest_0]
    unfold jX1_findLowest_39
    refine Pq.ck ?_
    refine Pq.br ?_ ?_
    · exact Pq.s (P6.rf c)
    · refine Pq.ck ?_
      refine Pq.ro (pfX9_at) fun y1 f5 => ?_
      refine Pq.br ?_ ?_
      · refine Pq.ck ?_
        exact Pq.to6 ((P6.rf c).w (Or.inl (by rw [k_v0]; decide))) (klX1_findLowest_0 (M := M) n _ _ _ c k_v0)
      · refine Pq.ck ?_
        refine Pq.ck ?_
        refine Pq.ro (pfX9_at) fun y3 f6 => ?_
        refine Pq.br ?_ ?_
        · exact Pq.s (P6.rf c)
        · refine Pq.ck ?_
          exact Pq.to6 ((P6.rf c).w (Or.inl (by rw [k_v0]; decide))) (klX1_findLowest_0 (M := M) n _ _ _ c k_v0)
theorem kfX1_findLowest {M : Nat} {g : hs_S} {v0 : Nat} {v1 : Int32} (c : RO g) (k_v0 : gm_k v0 = 1) : Pq (fX1_findLowest v0 v1 g) (O62 M g) := by
  unfold fX1_findLowest
  refine Pq.st6 (klX1_findLowest_0 (M := M) hs_N _ _ _ c k_v0) fun y1 g2 o3 => ?_
  refine Pq.br ?_ ?_
  · exact Pq.s ((P6.rf c).trans o3)
  · exact Pq.s ((P6.rf c).trans o3)
theorem kfX1_reach {M : Nat} {g : hs_S} {v0 : Nat} {v1 : Int32} {v2 : Int32} (c : RO g) (k_v0 : gm_k v0 = 1) : Pq (fX1_reach v0 v1 v2 g) (O62 M g) := by
  unfold fX1_reach
  refine Pq.ck ?_
  refine Pq.ck ?_
  refine Pq.ro (pfX9_at) fun y1 f4 => ?_
  refine Pq.br ?_ ?_
  · refine Pq.ck ?_
    refine Pq.ck ?_
    refine Pq.sv6 (kfX9_put (M := M) c ((c.1 _).2.1 k_v0).1.2) fun  g3 o5 => ?_
    refine Pq.ck ?_
    exact Pq.s (((P6.rf c).trans o5).w (Or.inl (by rw [k_v0]; decide)))
  · refine Pq.br ?_ ?_
    · exact Pq.s (P6.rf c)
    · exact Pq.s (P6.rf c)
theorem kfX1_goOn {M : Nat} {g : hs_S} {v0 : Nat} {v1 : Nat} {v2 : Nat} {v3 : Int32} (c : RO g) (k_v0 : gm_k v0 = 1) (k_v1 : gm_k v1 = 0) : Pq (fX1_goOn v0 v1 v2 v3 g) (O62 M g) := by
  unfold fX1_goOn jX1_goOn_35 jX1_goOn_99 jX1_goOn_129 jX1_goOn_146 jX1_goOn_171 jX1_goOn_185
  refine Pq.ck ?_
  refine Pq.ck ?_
  refine Pq.sv6 (kfX9_put (M := M) c ((c.1 _).2.1 k_v0).2.2) fun  g1 o142 => ?_
  refine Pq.ck ?_
  refine Pq.ro (pfX7_valueAt) fun y2 f143 => ?_
  refine Pq.br ?_ ?_
  · refine Pq.ck ?_
    refine Pq.ro (pfX7_valueAt) fun y4 f144 => ?_
    refine Pq.ro (pfX4_takes) fun y6 f145 => ?_
    refine Pq.ck ?_
    refine Pq.ro (pfX0_method (((P6.rf c).trans o142).2 : RO g1) k_v1) fun y8 f146 => ?_
    refine Pq.ck ?_
    refine Pq.ck ?_
    refine Pq.ck ?_
    refine Pq.ro (pfX9_at) fun y10 f147 => ?_
    refine Pq.ro (pfX4_gives) fun y12 f148 => ?_
    refine Pq.ck ?_
    refine Pq.ro (pfX7_sizeAt) fun y14 f149 => ?_
    refine Pq.ro (pfX4_endsWay) fun y16 f150 => ?_
    refine Pq.br ?_ ?_
    · refine Pq.br ?_ ?_
      · exact Pq.s ((P6.rf c).trans o142)
      · refine Pq.br ?_ ?_
        · exact Pq.s ((P6.rf c).trans o142)
        · refine Pq.br ?_ ?_
          · refine Pq.br ?_ ?_
            · refine Pq.ro (pfX4_isJump) fun y20 f151 => ?_
              refine Pq.br ?_ ?_
              · refine Pq.br ?_ ?_
                · refine Pq.br ?_ ?_
                  · exact Pq.s ((P6.rf c).trans o142)
                  · exact Pq.s ((P6.rf c).trans o142)
                · refine Pq.br ?_ ?_
                  · refine Pq.br ?_ ?_
                    · exact Pq.s ((P6.rf c).trans o142)
                    · exact Pq.s ((P6.rf c).trans o142)
                  · exact Pq.s ((P6.rf c).trans o142)
              · refine Pq.ck ?_
                refine Pq.ro (pfX7_targetOf) fun y22 f152 => ?_
                refine Pq.ck ?_
                refine Pq.st6 (kfX1_reach (M := M) ((P6.rf c).trans o142).2 k_v0) fun y24 g25 o153 => ?_
                refine Pq.br ?_ ?_
                · refine Pq.br ?_ ?_
                  · exact Pq.s (((P6.rf c).trans o142).trans o153)
                  · exact Pq.s (((P6.rf c).trans o142).trans o153)
                · refine Pq.br ?_ ?_
                  · refine Pq.br ?_ ?_
                    · exact Pq.s (((P6.rf c).trans o142).trans o153)
                    · exact Pq.s (((P6.rf c).trans o142).trans o153)
                  · exact Pq.s (((P6.rf c).trans o142).trans o153)
            · refine Pq.ck ?_
              refine Pq.st6 (kfX1_reach (M := M) ((P6.rf c).trans o142).2 k_v0) fun y18 g19 o154 => ?_
              refine Pq.ro (pfX4_isJump) fun y26 f155 => ?_
              refine Pq.br ?_ ?_
              · refine Pq.br ?_ ?_
                · refine Pq.br ?_ ?_
                  · exact Pq.s (((P6.rf c).trans o142).trans o154)
                  · exact Pq.s (((P6.rf c).trans o142).trans o154)
                · refine Pq.br ?_ ?_
                  · refine Pq.br ?_ ?_
                    · exact Pq.s (((P6.rf c).trans o142).trans o154)
                    · exact Pq.s (((P6.rf c).trans o142).trans o154)
                  · exact Pq.s (((P6.rf c).trans o142).trans o154)
              · refine Pq.ck ?_
                refine Pq.ro (pfX7_targetOf) fun y28 f156 => ?_
                refine Pq.ck ?_
                refine Pq.st6 (kfX1_reach (M := M) (((P6.rf c).trans o142).trans o154).2 k_v0) fun y30 g31 o157 => ?_
                refine Pq.br ?_ ?_
                · refine Pq.br ?_ ?_
                  · exact Pq.s ((((P6.rf c).trans o142).trans o154).trans o157)
                  · exact Pq.s ((((P6.rf c).trans o142).trans o154).trans o157)
                · refine Pq.br ?_ ?_
                  · refine Pq.br ?_ ?_
                    · exact Pq.s ((((P6.rf c).trans o142).trans o154).trans o157)
                    · exact Pq.s ((((P6.rf c).trans o142).trans o154).trans o157)
                  · exact Pq.s ((((P6.rf c).trans o142).trans o154).trans o157)
          · refine Pq.ck ?_
            refine Pq.br ?_ ?_
            · refine Pq.br ?_ ?_
              · refine Pq.ro (pfX4_isJump) fun y34 f158 => ?_
                refine Pq.br ?_ ?_
                · refine Pq.br ?_ ?_
                  · refine Pq.br ?_ ?_
                    · exact Pq.s ((P6.rf c).trans o142)
                    · exact Pq.s ((P6.rf c).trans o142)
                  · refine Pq.br ?_ ?_
                    · refine Pq.br ?_ ?_
                      · exact Pq.s ((P6.rf c).trans o142)
                      · exact Pq.s ((P6.rf c).trans o142)
                    · exact Pq.s ((P6.rf c).trans o142)
                · refine Pq.ck ?_
                  refine Pq.ro (pfX7_targetOf) fun y36 f159 => ?_
                  refine Pq.ck ?_
                  refine Pq.st6 (kfX1_reach (M := M) ((P6.rf c).trans o142).2 k_v0) fun y38 g39 o160 => ?_
                  refine Pq.br ?_ ?_
                  · refine Pq.br ?_ ?_
                    · exact Pq.s (((P6.rf c).trans o142).trans o160)
                    · exact Pq.s (((P6.rf c).trans o142).trans o160)
                  · refine Pq.br ?_ ?_
                    · refine Pq.br ?_ ?_
                      · exact Pq.s (((P6.rf c).trans o142).trans o160)
                      · exact Pq.s (((P6.rf c).trans o142).trans o160)
                    · exact Pq.s (((P6.rf c).trans o142).trans o160)
              · refine Pq.ck ?_
                refine Pq.st6 (kfX1_reach (M := M) ((P6.rf c).trans o142).2 k_v0) fun y32 g33 o161 => ?_
                refine Pq.ro (pfX4_isJump) fun y40 f162 => ?_
                refine Pq.br ?_ ?_
                · refine Pq.br ?_ ?_
                  · refine Pq.br ?_ ?_
                    · exact Pq.s (((P6.rf c).trans o142).trans o161)
                    · exact Pq.s (((P6.rf c).trans o142).trans o161)
                  · refine Pq.br ?_ ?_
                    · refine Pq.br ?_ ?_
                      · exact Pq.s (((P6.rf c).trans o142).trans o161)
                      · exact Pq.s (((P6.rf c).trans o142).trans o161)
                    · exact Pq.s (((P6.rf c).trans o142).trans o161)
                · refine Pq.ck ?_
                  refine Pq.ro (pfX7_targetOf) fun y42 f163 => ?_
                  refine Pq.ck ?_
                  refine Pq.st6 (kfX1_reach (M := M) (((P6.rf c).trans o142).trans o161).2 k_v0) fun y44 g45 o164 => ?_
                  refine Pq.br ?_ ?_
                  · refine Pq.br ?_ ?_
                    · exact Pq.s ((((P6.rf c).trans o142).trans o161).trans o164)
                    · exact Pq.s ((((P6.rf c).trans o142).trans o161).trans o164)
                  · refine Pq.br ?_ ?_
                    · refine Pq.br ?_ ?_
                      · exact Pq.s ((((P6.rf c).trans o142).trans o161).trans o164)
                      · exact Pq.s ((((P6.rf c).trans o142).trans o161).trans o164)
                    · exact Pq.s ((((P6.rf c).trans o142).trans o161).trans o164)
            · exact Pq.s ((P6.rf c).trans o142)
    · refine Pq.br ?_ ?_
      · exact Pq.s ((P6.rf c).trans o142)
      · refine Pq.br ?_ ?_
        · exact Pq.s ((P6.rf c).trans o142)
        · refine Pq.br ?_ ?_
          · refine Pq.br ?_ ?_
            · refine Pq.ro (pfX4_isJump) fun y48 f165 => ?_
              refine Pq.br ?_ ?_
              · refine Pq.br ?_ ?_
                · refine Pq.br ?_ ?_
                  · exact Pq.s ((P6.rf c).trans o142)
                  · exact Pq.s ((P6.rf c).trans o142)
                · refine Pq.br ?_ ?_
                  · refine Pq.br ?_ ?_
                    · exact Pq.s ((P6.rf c).trans o142)
                    · exact Pq.s ((P6.rf c).trans o142)
                  · exact Pq.s ((P6.rf c).trans o142)
              · refine Pq.ck ?_
                refine Pq.ro (pfX7_targetOf) fun y50 f166 => ?_
                refine Pq.ck ?_
                refine Pq.st6 (kfX1_reach (M := M) ((P6.rf c).trans o142).2 k_v0) fun y52 g53 o167 => ?_
                refine Pq.br ?_ ?_
                · refine Pq.br ?_ ?_
                  · exact Pq.s (((P6.rf c).trans o142).trans o167)
                  · exact Pq.s (((P6.rf c).trans o142).trans o167)
                · refine Pq.br ?_ ?_
                  · refine Pq.br ?_ ?_
                    · exact Pq.s (((P6.rf c).trans o142).trans o167)
                    · exact Pq.s (((P6.rf c).trans o142).trans o167)
                  · exact Pq.s (((P6.rf c).trans o142).trans o167)
            · refine Pq.ck ?_
              refine Pq.st6 (kfX1_reach (M := M) ((P6.rf c).trans o142).2 k_v0) fun y46 g47 o168 => ?_
              refine Pq.ro (pfX4_isJump) fun y54 f169 => ?_
              refine Pq.br ?_ ?_
              · refine Pq.br ?_ ?_
                · refine Pq.br ?_ ?_
                  · exact Pq.s (((P6.rf c).trans o142).trans o168)
                  · exact Pq.s (((P6.rf c).trans o142).trans o168)
                · refine Pq.br ?_ ?_
                  · refine Pq.br ?_ ?_
                    · exact Pq.s (((P6.rf c).trans o142).trans o168)
                    · exact Pq.s (((P6.rf c).trans o142).trans o168)
                  · exact Pq.s (((P6.rf c).trans o142).trans o168)
              · refine Pq.ck ?_
                refine Pq.ro (pfX7_targetOf) fun y56 f170 => ?_
                refine Pq.ck ?_
                refine Pq.st6 (kfX1_reach (M := M) (((P6.rf c).trans o142).trans o168).2 k_v0) fun y58 g59 o171 => ?_
                refine Pq.br ?_ ?_
                · refine Pq.br ?_ ?_
                  · exact Pq.s ((((P6.rf c).trans o142).trans o168).trans o171)
                  · exact Pq.s ((((P6.rf c).trans o142).trans o168).trans o171)
                · refine Pq.br ?_ ?_
                  · refine Pq.br ?_ ?_
                    · exact Pq.s ((((P6.rf c).trans o142).trans o168).trans o171)
                    · exact Pq.s ((((P6.rf c).trans o142).trans o168).trans o171)
                  · exact Pq.s ((((P6.rf c).trans o142).trans o168).trans o171)
          · refine Pq.ck ?_
            refine Pq.br ?_ ?_
            · refine Pq.br ?_ ?_
              · refine Pq.ro (pfX4_isJump) fun y62 f172 => ?_
                refine Pq.br ?_ ?_
                · refine Pq.br ?_ ?_
                  · refine Pq.br ?_ ?_
                    · exact Pq.s ((P6.rf c).trans o142)
                    · exact Pq.s ((P6.rf c).trans o142)
                  · refine Pq.br ?_ ?_
                    · refine Pq.br ?_ ?_
                      · exact Pq.s ((P6.rf c).trans o142)
                      · exact Pq.s ((P6.rf c).trans o142)
                    · exact Pq.s ((P6.rf c).trans o142)
                · refine Pq.ck ?_
                  refine Pq.ro (pfX7_targetOf) fun y64 f173 => ?_
                  refine Pq.ck ?_
                  refine Pq.st6 (kfX1_reach (M := M) ((P6.rf c).trans o142).2 k_v0) fun y66 g67 o174 => ?_
                  refine Pq.br ?_ ?_
                  · refine Pq.br ?_ ?_
                    · exact Pq.s (((P6.rf c).trans o142).trans o174)
                    · exact Pq.s (((P6.rf c).trans o142).trans o174)
                  · refine Pq.br ?_ ?_
                    · refine Pq.br ?_ ?_
                      · exact Pq.s (((P6.rf c).trans o142).trans o174)
                      · exact Pq.s (((P6.rf c).trans o142).trans o174)
                    · exact Pq.s (((P6.rf c).trans o142).trans o174)
              · refine Pq.ck ?_
                refine Pq.st6 (kfX1_reach (M := M) ((P6.rf c).trans o142).2 k_v0) fun y60 g61 o175 => ?_
                refine Pq.ro (pfX4_isJump) fun y68 f176 => ?_
                refine Pq.br ?_ ?_
                · refine Pq.br ?_ ?_
                  · refine Pq.br ?_ ?_
                    · exact Pq.s (((P6.rf c).trans o142).trans o175)
                    · exact Pq.s (((P6.rf c).trans o142).trans o175)
                  · refine Pq.br ?_ ?_
                    · refine Pq.br ?_ ?_
                      · exact Pq.s (((P6.rf c).trans o142).trans o175)
                      · exact Pq.s (((P6.rf c).trans o142).trans o175)
                    · exact Pq.s (((P6.rf c).trans o142).trans o175)
                · refine Pq.ck ?_
                  refine Pq.ro (pfX7_targetOf) fun y70 f177 => ?_
                  refine Pq.ck ?_
                  refine Pq.st6 (kfX1_reach (M := M) (((P6.rf c).trans o142).trans o175).2 k_v0) fun y72 g73 o178 => ?_
                  refine Pq.br ?_ ?_
                  · refine Pq.br ?_ ?_
                    · exact Pq.s ((((P6.rf c).trans o142).trans o175).trans o178)
                    · exact Pq.s ((((P6.rf c).trans o142).trans o175).trans o178)
                  · refine Pq.br ?_ ?_
                    · refine Pq.br ?_ ?_
                      · exact Pq.s ((((P6.rf c).trans o142).trans o175).trans o178)
                      · exact Pq.s ((((P6.rf c).trans o142).trans o175).trans o178)
                    · exact Pq.s ((((P6.rf c).trans o142).trans o175).trans o178)
            · exact Pq.s ((P6.rf c).trans o142)
  · refine Pq.ro (pfX4_takes) fun y74 f179 => ?_
    refine Pq.ck ?_
    refine Pq.ro (pfX0_method (((P6.rf c).trans o142).2 : RO g1) k_v1) fun y76 f180 => ?_
    refine Pq.ck ?_
    refine Pq.ck ?_
    refine Pq.ck ?_
    refine Pq.ro (pfX9_at) fun y78 f181 => ?_
    refine Pq.ro (pfX4_gives) fun y80 f182 => ?_
    refine Pq.ck ?_
    refine Pq.ro (pfX7_sizeAt) fun y82 f183 => ?_
    refine Pq.ro (pfX4_endsWay) fun y84 f184 => ?_
    refine Pq.br ?_ ?_
    · refine Pq.br ?_ ?_
      · exact Pq.s ((P6.rf c).trans o142)
      · refine Pq.br ?_ ?_
        · exact Pq.s ((P6.rf c).trans o142)
        · refine Pq.br ?_ ?_
          · refine Pq.br ?_ ?_
            · refine Pq.ro (pfX4_isJump) fun y88 f185 => ?_
              refine Pq.br ?_ ?_
              · refine Pq.br ?_ ?_
                · refine Pq.br ?_ ?_
                  · exact Pq.s ((P6.rf c).trans o142)
                  · exact Pq.s ((P6.rf c).trans o142)
                · refine Pq.br ?_ ?_
                  · refine Pq.br ?_ ?_
                    · exact Pq.s ((P6.rf c).trans o142)
                    · exact Pq.s ((P6.rf c).trans o142)
                  · exact Pq.s ((P6.rf c).trans o142)
              · refine Pq.ck ?_
                refine Pq.ro (pfX7_targetOf) fun y90 f186 => ?_
                refine Pq.ck ?_
                refine Pq.st6 (kfX1_reach (M := M) ((P6.rf c).trans o142).2 k_v0) fun y92 g93 o187 => ?_
                refine Pq.br ?_ ?_
                · refine Pq.br ?_ ?_
                  · exact Pq.s (((P6.rf c).trans o142).trans o187)
                  · exact Pq.s (((P6.rf c).trans o142).trans o187)
                · refine Pq.br ?_ ?_
                  · refine Pq.br ?_ ?_
                    · exact Pq.s (((P6.rf c).trans o142).trans o187)
                    · exact Pq.s (((P6.rf c).trans o142).trans o187)
                  · exact Pq.s (((P6.rf c).trans o142).trans o187)
            · refine Pq.ck ?_
              refine Pq.st6 (kfX1_reach (M := M) ((P6.rf c).trans o142).2 k_v0) fun y86 g87 o188 => ?_
              refine Pq.ro (pfX4_isJump) fun y94 f189 => ?_
              refine Pq.br ?_ ?_
              · refine Pq.br ?_ ?_
                · refine Pq.br ?_ ?_
                  · exact Pq.s (((P6.rf c).trans o142).trans o188)
                  · exact Pq.s (((P6.rf c).trans o142).trans o188)
                · refine Pq.br ?_ ?_
                  · refine Pq.br ?_ ?_
                    · exact Pq.s (((P6.rf c).trans o142).trans o188)
                    · exact Pq.s (((P6.rf c).trans o142).trans o188)
                  · exact Pq.s (((P6.rf c).trans o142).trans o188)
              · refine Pq.ck ?_
                refine Pq.ro (pfX7_targetOf) fun y96 f190 => ?_
                refine Pq.ck ?_
                refine Pq.st6 (kfX1_reach (M := M) (((P6.rf c).trans o142).trans o188).2 k_v0) fun y98 g99 o191 => ?_
                refine Pq.br ?_ ?_
                · refine Pq.br ?_ ?_
                  · exact Pq.s ((((P6.rf c).trans o142).trans o188).trans o191)
                  · exact Pq.s ((((P6.rf c).trans o142).trans o188).trans o191)
                · refine Pq.br ?_ ?_
                  · refine Pq.br ?_ ?_
                    · exact Pq.s ((((P6.rf c).trans o142).trans o188).trans o191)
                    · exact Pq.s ((((P6.rf c).trans o142).trans o188).trans o191)
                  · exact Pq.s ((((P6.rf c).trans o142).trans o188).trans o191)
          · refine Pq.ck ?_
            refine Pq.br ?_ ?_
            · refine Pq.br ?_ ?_
              · refine Pq.ro (pfX4_isJump) fun y102 f192 => ?_
                refine Pq.br ?_ ?_
                · refine Pq.br ?_ ?_
                  · refine Pq.br ?_ ?_
                    · exact Pq.s ((P6.rf c).trans o142)
                    · exact Pq.s ((P6.rf c).trans o142)
                  · refine Pq.br ?_ ?_
                    · refine Pq.br ?_ ?_
                      · exact Pq.s ((P6.rf c).trans o142)
                      · exact Pq.s ((P6.rf c).trans o142)
                    · exact Pq.s ((P6.rf c).trans o142)
                · refine Pq.ck ?_
                  refine Pq.ro (pfX7_targetOf) fun y104 f193 => ?_
                  refine Pq.ck ?_
                  refine Pq.st6 (kfX1_reach (M := M) ((P6.rf c).trans o142).2 k_v0) fun y106 g107 o194 => ?_
                  refine Pq.br ?_ ?_
                  · refine Pq.br ?_ ?_
                    · exact Pq.s (((P6.rf c).trans o142).trans o194)
                    · exact Pq.s (((P6.rf c).trans o142).trans o194)
                  · refine Pq.br ?_ ?_
                    · refine Pq.br ?_ ?_
                      · exact Pq.s (((P6.rf c).trans o142).trans o194)
                      · exact Pq.s (((P6.rf c).trans o142).trans o194)
                    · exact Pq.s (((P6.rf c).trans o142).trans o194)
              · refine Pq.ck ?_
                refine Pq.st6 (kfX1_reach (M := M) ((P6.rf c).trans o142).2 k_v0) fun y100 g101 o195 => ?_
                refine Pq.ro (pfX4_isJump) fun y108 f196 => ?_
                refine Pq.br ?_ ?_
                · refine Pq.br ?_ ?_
                  · refine Pq.br ?_ ?_
                    · exact Pq.s (((P6.rf c).trans o142).trans o195)
                    · exact Pq.s (((P6.rf c).trans o142).trans o195)
                  · refine Pq.br ?_ ?_
                    · refine Pq.br ?_ ?_
                      · exact Pq.s (((P6.rf c).trans o142).trans o195)
                      · exact Pq.s (((P6.rf c).trans o142).trans o195)
                    · exact Pq.s (((P6.rf c).trans o142).trans o195)
                · refine Pq.ck ?_
                  refine Pq.ro (pfX7_targetOf) fun y110 f197 => ?_
                  refine Pq.ck ?_
                  refine Pq.st6 (kfX1_reach (M := M) (((P6.rf c).trans o142).trans o195).2 k_v0) fun y112 g113 o198 => ?_
                  refine Pq.br ?_ ?_
                  · refine Pq.br ?_ ?_
                    · exact Pq.s ((((P6.rf c).trans o142).trans o195).trans o198)
                    · exact Pq.s ((((P6.rf c).trans o142).trans o195).trans o198)
                  · refine Pq.br ?_ ?_
                    · refine Pq.br ?_ ?_
                      · exact Pq.s ((((P6.rf c).trans o142).trans o195).trans o198)
                      · exact Pq.s ((((P6.rf c).trans o142).trans o195).trans o198)
                    · exact Pq.s ((((P6.rf c).trans o142).trans o195).trans o198)
            · exact Pq.s ((P6.rf c).trans o142)
    · refine Pq.br ?_ ?_
      · exact Pq.s ((P6.rf c).trans o142)
      · refine Pq.br ?_ ?_
        · exact Pq.s ((P6.rf c).trans o142)
        · refine Pq.br ?_ ?_
          · refine Pq.br ?_ ?_
            · refine Pq.ro (pfX4_isJump) fun y116 f199 => ?_
              refine Pq.br ?_ ?_
              · refine Pq.br ?_ ?_
                · refine Pq.br ?_ ?_
                  · exact Pq.s ((P6.rf c).trans o142)
                  · exact Pq.s ((P6.rf c).trans o142)
                · refine Pq.br ?_ ?_
                  · refine Pq.br ?_ ?_
                    · exact Pq.s ((P6.rf c).trans o142)
                    · exact Pq.s ((P6.rf c).trans o142)
                  · exact Pq.s ((P6.rf c).trans o142)
              · refine Pq.ck ?_
                refine Pq.ro (pfX7_targetOf) fun y118 f200 => ?_
                refine Pq.ck ?_
                refine Pq.st6 (kfX1_reach (M := M) ((P6.rf c).trans o142).2 k_v0) fun y120 g121 o201 => ?_
                refine Pq.br ?_ ?_
                · refine Pq.br ?_ ?_
                  · exact Pq.s (((P6.rf c).trans o142).trans o201)
                  · exact Pq.s (((P6.rf c).trans o142).trans o201)
                · refine Pq.br ?_ ?_
                  · refine Pq.br ?_ ?_
                    · exact Pq.s (((P6.rf c).trans o142).trans o201)
                    · exact Pq.s (((P6.rf c).trans o142).trans o201)
                  · exact Pq.s (((P6.rf c).trans o142).trans o201)
            · refine Pq.ck ?_
              refine Pq.st6 (kfX1_reach (M := M) ((P6.rf c).trans o142).2 k_v0) fun y114 g115 o202 => ?_
              refine Pq.ro (pfX4_isJump) fun y122 f203 => ?_
              refine Pq.br ?_ ?_
              · refine Pq.br ?_ ?_
                · refine Pq.br ?_ ?_
                  · exact Pq.s (((P6.rf c).trans o142).trans o202)
                  · exact Pq.s (((P6.rf c).trans o142).trans o202)
                · refine Pq.br ?_ ?_
                  · refine Pq.br ?_ ?_
                    · exact Pq.s (((P6.rf c).trans o142).trans o202)
                    · exact Pq.s (((P6.rf c).trans o142).trans o202)
                  · exact Pq.s (((P6.rf c).trans o142).trans o202)
              · refine Pq.ck ?_
                refine Pq.ro (pfX7_targetOf) fun y124 f204 => ?_
                refine Pq.ck ?_
                refine Pq.st6 (kfX1_reach (M := M) (((P6.rf c).trans o142).trans o202).2 k_v0) fun y126 g127 o205 => ?_
                refine Pq.br ?_ ?_
                · refine Pq.br ?_ ?_
                  · exact Pq.s ((((P6.rf c).trans o142).trans o202).trans o205)
                  · exact Pq.s ((((P6.rf c).trans o142).trans o202).trans o205)
                · refine Pq.br ?_ ?_
                  · refine Pq.br ?_ ?_
                    · exact Pq.s ((((P6.rf c).trans o142).trans o202).trans o205)
                    · exact Pq.s ((((P6.rf c).trans o142).trans o202).trans o205)
                  · exact Pq.s ((((P6.rf c).trans o142).trans o202).trans o205)
          · refine Pq.ck ?_
            refine Pq.br ?_ ?_
            · refine Pq.br ?_ ?_
              · refine Pq.ro (pfX4_isJump) fun y130 f206 => ?_
                refine Pq.br ?_ ?_
                · refine Pq.br ?_ ?_
                  · refine Pq.br ?_ ?_
                    · exact Pq.s ((P6.rf c).trans o142)
                    · exact Pq.s ((P6.rf c).trans o142)
                  · refine Pq.br ?_ ?_
                    · refine Pq.br ?_ ?_
                      · exact Pq.s ((P6.rf c).trans o142)
                      · exact Pq.s ((P6.rf c).trans o142)
                    · exact Pq.s ((P6.rf c).trans o142)
                · refine Pq.ck ?_
                  refine Pq.ro (pfX7_targetOf) fun y132 f207 => ?_
                  refine Pq.ck ?_
                  refine Pq.st6 (kfX1_reach (M := M) ((P6.rf c).trans o142).2 k_v0) fun y134 g135 o208 => ?_
                  refine Pq.br ?_ ?_
                  · refine Pq.br ?_ ?_
                    · exact Pq.s (((P6.rf c).trans o142).trans o208)
                    · exact Pq.s (((P6.rf c).trans o142).trans o208)
                  · refine Pq.br ?_ ?_
                    · refine Pq.br ?_ ?_
                      · exact Pq.s (((P6.rf c).trans o142).trans o208)
                      · exact Pq.s (((P6.rf c).trans o142).trans o208)
                    · exact Pq.s (((P6.rf c).trans o142).trans o208)
              · refine Pq.ck ?_
                refine Pq.st6 (kfX1_reach (M := M) ((P6.rf c).trans o142).2 k_v0) fun y128 g129 o209 => ?_
                refine Pq.ro (pfX4_isJump) fun y136 f210 => ?_
                refine Pq.br ?_ ?_
                · refine Pq.br ?_ ?_
                  · refine Pq.br ?_ ?_
                    · exact Pq.s (((P6.rf c).trans o142).trans o209)
                    · exact Pq.s (((P6.rf c).trans o142).trans o209)
                  · refine Pq.br ?_ ?_
                    · refine Pq.br ?_ ?_
                      · exact Pq.s (((P6.rf c).trans o142).trans o209)
                      · exact Pq.s (((P6.rf c).trans o142).trans o209)
                    · exact Pq.s (((P6.rf c).trans o142).trans o209)
                · refine Pq.ck ?_
                  refine Pq.ro (pfX7_targetOf) fun y138 f211 => ?_
                  refine Pq.ck ?_
                  refine Pq.st6 (kfX1_reach (M := M) (((P6.rf c).trans o142).trans o209).2 k_v0) fun y140 g141 o212 => ?_
                  refine Pq.br ?_ ?_
                  · refine Pq.br ?_ ?_
                    · exact Pq.s ((((P6.rf c).trans o142).trans o209).trans o212)
                    · exact Pq.s ((((P6.rf c).trans o142).trans o209).trans o212)
                  · refine Pq.br ?_ ?_
                    · refine Pq.br ?_ ?_
                      · exact Pq.s ((((P6.rf c).trans o142).trans o209).trans o212)
                      · exact Pq.s ((((P6.rf c).trans o142).trans o209).trans o212)
                    · exact Pq.s ((((P6.rf c).trans o142).trans o209).trans o212)
            · exact Pq.s ((P6.rf c).trans o142)
theorem klX1_wrongPlace_32 {M : Nat} : ∀ (n : Nat) (v0 : Nat) (v1 : Nat) (v2 : Nat) (v3 : Int32) (g : hs_S), RO g → gm_k v0 = 1 → Pq (lX1_wrongPlace_32 n v0 v1 v2 v3 g) (O62 M g)
  | 0, v0, v1, v2, v3, g, _, _ => Pq.n
  | n + 1, v0, v1, v2, v3, g, c, k_v0 => by
    rw [lX1_wrongPlace_32]
    refine Pq.ck ?_
    refine Pq.br ?_ ?_
    · exact Pq.s (P6.rf c)
    · refine Pq.ro (pfX7_handlerNumber) fun y1 f4 => ?_
      refine Pq.br ?_ ?_
      · exact Pq.s (P6.rf c)
      · refine Pq.ck ?_
        refine Pq.ck ?_
        refine Pq.sv6 (kfX9_put (M := M) c ((c.1 _).2.1 k_v0).1.2) fun  g3 o5 => ?_
        exact Pq.to6 ((P6.rf c).trans o5) (klX1_wrongPlace_32 (M := M) n _ _ _ _ _ ((P6.rf c).trans o5).2 k_v0)
theorem klX1_wrongPlace_73 {M : Nat} : ∀ (n : Nat) (v0 : Nat) (v1 : Nat) (v2 : Nat) (v3 : Int32) (g : hs_S), RO g → gm_k v0 = 1 → gm_k v1 = 0 → Pq (lX1_wrongPlace_73 n v0 v1 v2 v3 g) (O63 M g)
  | 0, v0, v1, v2, v3, g, _, _, _ => Pq.n
  | n + 1, v0, v1, v2, v3, g, c, k_v0, k_v1 => by
    rw [lX1_wrongPlace_73]
    refine Pq.ck ?_
    refine Pq.br ?_ ?_
    · exact Pq.s (P6.rf c)
    · refine Pq.ck ?_
      refine Pq.st6 (kfX1_findLowest (M := M) c k_v0) fun y1 g2 o5 => ?_
      refine Pq.br ?_ ?_
      · exact Pq.s ((P6.rf c).trans o5)
      · refine Pq.ck ?_
        refine Pq.st6 (kfX1_goOn (M := M) ((P6.rf c).trans o5).2 k_v0 k_v1) fun y3 g4 o6 => ?_
        refine Pq.br ?_ ?_
        · exact Pq.t36 (((P6.rf c).trans o5).trans o6) (klX1_wrongPlace_73 (M := M) n _ _ _ _ _ (((P6.rf c).trans o5).trans o6).2 k_v0 k_v1)
        · exact Pq.s (((P6.rf c).trans o5).trans o6)
theorem kfX1_wrongPlace {g : hs_S} {v0 : Nat} {v1 : Nat} {v2 : Nat} (c : RO g) (k_v0 : gm_k v0 = 1) (k_v1 : gm_k v1 = 0) (k_v2 : gm_k v2 = 6) : Pq (fX1_wrongPlace v0 v1 v2 g) (O62 v2 g) := by
  unfold fX1_wrongPlace jX1_wrongPlace_119
  refine Pq.ck ?_
  refine Pq.ck ?_
  refine Pq.sv6 (kfJ7_fill_53178 (M := v2) c ((c.1 _).2.1 k_v0).1.2) fun  g1 o11 => ?_
  refine Pq.ck ?_
  refine Pq.ck ?_
  refine Pq.sv6 (kfJ7_fill_53178 (M := v2) ((P6.rf c).trans o11).2 ((((P6.rf c).trans o11).2.1 _).2.1 k_v0).2.2) fun  g2 o12 => ?_
  refine Pq.ck ?_
  refine Pq.ck ?_
  refine Pq.sv6 (kfX9_put (M := v2) (((P6.rf c).trans o11).trans o12).2 (((((P6.rf c).trans o11).trans o12).2.1 _).2.1 k_v0).1.2) fun  g3 o13 => ?_
  refine Pq.st6 (klX1_wrongPlace_32 (M := v2) hs_N _ _ _ _ _ (((((P6.rf c).trans o11).trans o12).w (Or.inl (by rw [k_v0]; decide))).trans o13).2 k_v0) fun y4 g5 o14 => ?_
  refine Pq.br ?_ ?_
  · refine Pq.s36 (klX1_wrongPlace_73 (M := v2) hs_N _ _ _ _ _ ((((((P6.rf c).trans o11).trans o12).w (Or.inl (by rw [k_v0]; decide))).trans o13).trans o14).2 k_v0 k_v1) fun y6 y7 g8 o15 => ?_
    refine Pq.br ?_ ?_
    · refine Pq.ck ?_
      refine Pq.ro (pfX1_greatest) fun y9 f16 => ?_
      refine Pq.ck ?_
      exact Pq.s ((((((((P6.rf c).trans o11).trans o12).w (Or.inl (by rw [k_v0]; decide))).trans o13).trans o14).trans o15).w (Or.inr rfl))
    · exact Pq.s (((((((P6.rf c).trans o11).trans o12).w (Or.inl (by rw [k_v0]; decide))).trans o13).trans o14).trans o15)
  · exact Pq.s ((((((P6.rf c).trans o11).trans o12).w (Or.inl (by rw [k_v0]; decide))).trans o13).trans o14)
