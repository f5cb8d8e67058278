/-! WHAT A METHOD MAY WRITE (wip/gen/po.py) -/
theorem pfX6_pay {G : Nat → Prop} {g : hs_S} {v0 : Nat} {v1 : Nat} {v2 : Int32} {v3 : Int32} (c : RO g) (g_v0 : G (ow v0)) (g_v1 : G (ow v1)) : Pq (fX6_pay v0 v1 v2 v3 g) (Os G g) := by
  unfold fX6_pay
  refine Pq.ck ?_
  refine Pq.br ?_ ?_
  · refine Pq.ck ?_
    refine Pq.sm ?_
    exact Pq.s (((PO.rf c).w g_v0).w g_v1)
  · exact Pq.s (PO.rf c)
theorem pfX3_peek {g : hs_S} {v0 : Nat}  : Pq (fX3_peek v0 g) (Or' g tt) := by
  unfold fX3_peek
  refine Pq.ck ?_
  refine Pq.ck ?_
  refine Pq.ro (pfX9_at) fun y1 f3 => ?_
  exact Pq.s ⟨rfl, trivial⟩
theorem pfX3_operand {g : hs_S} {v0 : Nat}  : Pq (fX3_operand v0 g) (Or' g tt) := by
  unfold fX3_operand
  refine Pq.ck ?_
  refine Pq.ck ?_
  refine Pq.ck ?_
  refine Pq.ro (pfX7_valueAt) fun y1 f3 => ?_
  exact Pq.s ⟨rfl, trivial⟩
theorem pfX3_pop {G : Nat → Prop} {g : hs_S} {v0 : Nat} (c : RO g) (g_v0 : G (ow v0)) : Pq (fX3_pop v0 g) (Os G g) := by
  unfold fX3_pop jX3_pop_17
  refine Pq.ck ?_
  refine Pq.br ?_ ?_
  · refine Pq.ck ?_
    refine Pq.ck ?_
    refine Pq.ro (pfX9_at) fun y1 f5 => ?_
    exact Pq.s (PO.rf c)
  · refine Pq.ck ?_
    refine Pq.ck ?_
    refine Pq.ro (pfX9_at) fun y3 f6 => ?_
    exact Pq.s ((PO.rf c).w g_v0)
theorem plX6_call_45 {G : Nat → Prop} : ∀ (n : Nat) (v0 : Nat) (v1 : Nat) (v3 : Nat) (v4 : Int32) (g : hs_S), RO g → gm_k v3 = 3 → G (ow v1) → G (ow v3) → Pq (lX6_call_45 n v0 v1 v3 v4 g) (PO G g)
  | 0, v0, v1, v3, v4, g, _, _, _, _ => Pq.n
  | n + 1, v0, v1, v3, v4, g, c, k_v3, g_v1, g_v3 => by
    rw [lX6_call_45]
    refine Pq.br ?_ ?_
    · exact Pq.s (PO.rf c)
    · refine Pq.ck ?_
      refine Pq.st (pfX3_pop (G := G) c g_v1) fun y1 g2 o4 => ?_
      refine Pq.ck ?_
      refine Pq.sv (pfX3_setLocal (G := G) ((PO.rf c).trans o4).2 k_v3 g_v3) fun  g3 o5 => ?_
      exact Pq.tv (((PO.rf c).trans o4).trans o5) (plX6_call_45 (G := G) n _ _ _ _ _ (((PO.rf c).trans o4).trans o5).2 k_v3 g_v1 g_v3)
theorem pfX6_call {G : Nat → Prop} {g : hs_S} {v0 : Nat} {v1 : Nat} (c : RO g) (k_v0 : gm_k v0 = 5) (g_v0 : G (ow v0)) (g_v1 : G (ow v1)) : Pq (fX6_call v0 v1 g) (Os G g) := by
  unfold fX6_call
  refine Pq.ck ?_
  refine Pq.br ?_ ?_
  · refine Pq.ck ?_
    refine Pq.ck ?_
    refine Pq.ro (pfX3_operand) fun y1 f9 => ?_
    refine Pq.ck ?_
    refine Pq.ro (pfX0_method (c : RO g) ((c.1 _).2.2.2.2.2.1 k_v0).1.2) fun y3 f10 => ?_
    refine Pq.ck ?_
    refine Pq.ro (pfX6_frame (c : RO g) k_v0) fun y5 f11 => ?_
    refine Pq.ck ?_
    refine Pq.sv (pfX3_begin (G := G) c f11.1 f10.1 (gO f11.2 g_v0)) fun  g7 o12 => ?_
    refine Pq.ck ?_
    refine Pq.sv (plX6_call_45 (G := G) hs_N _ _ _ _ _ ((PO.rf c).trans o12).2 f11.1 g_v1 (gO f11.2 g_v0)) fun  g8 o13 => ?_
    refine Pq.ck ?_
    exact Pq.s ((((PO.rf c).trans o12).trans o13).w g_v0)
  · exact Pq.s (PO.rf c)
theorem pfX3_push {G : Nat → Prop} {g : hs_S} {v0 : Nat} {v1 : Int32} (c : RO g) (k_v0 : gm_k v0 = 3) (g_v0 : G (ow v0)) : Pq (fX3_push v0 v1 g) (PO G g) := by
  unfold fX3_push
  refine Pq.ck ?_
  refine Pq.br ?_ ?_
  · exact Pq.s (PO.rf c)
  · refine Pq.ck ?_
    refine Pq.sv (pfX9_put (G := G) c (c.2.o k_v0 (by decide) g_v0)) fun  g1 o2 => ?_
    refine Pq.ck ?_
    exact Pq.s (((PO.rf c).trans o2).w g_v0)
theorem pfX6_leave {G : Nat → Prop} {g : hs_S} {v0 : Nat} {v1 : Int32} (c : RO g) (k_v0 : gm_k v0 = 5) (g_v0 : G (ow v0)) : Pq (fX6_leave v0 v1 g) (Os G g) := by
  unfold fX6_leave
  refine Pq.ck ?_
  refine Pq.br ?_ ?_
  · refine Pq.ro (pfX6_frame (c : RO (hs_wI g v0 3 ((hs_I g v0 3) - (1 : Int32)))) k_v0) fun y1 f6 => ?_
    refine Pq.ck ?_
    refine Pq.sv (pfX3_push (G := G) c f6.1 (gO f6.2 g_v0)) fun  g3 o7 => ?_
    refine Pq.ck ?_
    refine Pq.ro (pfX4_sizeOf) fun y4 f8 => ?_
    refine Pq.ck ?_
    exact Pq.s ((((PO.rf c).w g_v0).trans o7).w (gO f6.2 g_v0))
  · exact Pq.s (((PO.rf c).w g_v0).w g_v0)
theorem pfX4_isTaken {g : hs_S} {v0 : Int32} {v1 : Int32}  : Pq (fX4_isTaken v0 v1 g) (Or' g tt) := by
  unfold fX4_isTaken
  refine Pq.br ?_ ?_
  · refine Pq.br ?_ ?_
    · exact Pq.s ⟨rfl, trivial⟩
    · exact Pq.s ⟨rfl, trivial⟩
  · refine Pq.br ?_ ?_
    · refine Pq.br ?_ ?_
      · exact Pq.s ⟨rfl, trivial⟩
      · exact Pq.s ⟨rfl, trivial⟩
    · refine Pq.br ?_ ?_
      · refine Pq.br ?_ ?_
        · exact Pq.s ⟨rfl, trivial⟩
        · exact Pq.s ⟨rfl, trivial⟩
      · refine Pq.br ?_ ?_
        · refine Pq.br ?_ ?_
          · exact Pq.s ⟨rfl, trivial⟩
          · exact Pq.s ⟨rfl, trivial⟩
        · refine Pq.br ?_ ?_
          · refine Pq.br ?_ ?_
            · exact Pq.s ⟨rfl, trivial⟩
            · exact Pq.s ⟨rfl, trivial⟩
          · refine Pq.br ?_ ?_
            · exact Pq.s ⟨rfl, trivial⟩
            · exact Pq.s ⟨rfl, trivial⟩
theorem pfX6_jump {G : Nat → Prop} {g : hs_S} {v0 : Nat} {v1 : Nat} {v2 : Int32} (c : RO g) (g_v1 : G (ow v1)) : Pq (fX6_jump v0 v1 v2 g) (Os G g) := by
  unfold fX6_jump jX6_jump_18 jX6_jump_23
  refine Pq.ro (pfX4_isBranch) fun y1 f19 => ?_
  refine Pq.br ?_ ?_
  · refine Pq.ck ?_
    refine Pq.ro (pfX4_sizeOf) fun y7 f20 => ?_
    refine Pq.br ?_ ?_
    · refine Pq.ck ?_
      exact Pq.s ((PO.rf c).w g_v1)
    · refine Pq.ck ?_
      refine Pq.ck ?_
      refine Pq.ck ?_
      refine Pq.ro (pfX7_targetOf) fun y9 f21 => ?_
      refine Pq.ck ?_
      exact Pq.s ((PO.rf c).w g_v1)
  · refine Pq.ck ?_
    refine Pq.st (pfX3_pop (G := G) c g_v1) fun y3 g4 o22 => ?_
    refine Pq.ro (pfX4_isTaken) fun y5 f23 => ?_
    refine Pq.br ?_ ?_
    · refine Pq.ck ?_
      refine Pq.ro (pfX4_sizeOf) fun y11 f24 => ?_
      refine Pq.br ?_ ?_
      · refine Pq.ck ?_
        exact Pq.s (((PO.rf c).trans o22).w g_v1)
      · refine Pq.ck ?_
        refine Pq.ck ?_
        refine Pq.ck ?_
        refine Pq.ro (pfX7_targetOf) fun y13 f25 => ?_
        refine Pq.ck ?_
        exact Pq.s (((PO.rf c).trans o22).w g_v1)
    · refine Pq.ck ?_
      refine Pq.ro (pfX4_sizeOf) fun y15 f26 => ?_
      refine Pq.br ?_ ?_
      · refine Pq.ck ?_
        exact Pq.s (((PO.rf c).trans o22).w g_v1)
      · refine Pq.ck ?_
        refine Pq.ck ?_
        refine Pq.ck ?_
        refine Pq.ro (pfX7_targetOf) fun y17 f27 => ?_
        refine Pq.ck ?_
        exact Pq.s (((PO.rf c).trans o22).w g_v1)
theorem pfX3_local {g : hs_S} {v0 : Nat} {v1 : Int32}  : Pq (fX3_local v0 v1 g) (Or' g tt) := by
  unfold fX3_local
  refine Pq.ck ?_
  refine Pq.ck ?_
  refine Pq.ro (pfX9_at) fun y1 f3 => ?_
  exact Pq.s ⟨rfl, trivial⟩
theorem pfX10_put {G : Nat → Prop} {g : hs_S} {v0 : Nat} {v1 : Int32} {v2 : Int32} {v3 : Int32} (c : RO g) (k_v0 : gm_k v0 = 8) (g_v0 : G (ow v0)) : Pq (fX10_put v0 v1 v2 v3 g) (PO G g) := by
  unfold fX10_put
  refine Pq.ck ?_
  refine Pq.ck ?_
  refine Pq.sv (pfX9_put (G := G) c (c.2.o k_v0 (by decide) g_v0)) fun  g1 o2 => ?_
  exact Pq.s ((PO.rf c).trans o2)
theorem plX10_make_26 {G : Nat → Prop} : ∀ (n : Nat) (v0 : Nat) (v1 : Int32) (v2 : Int32) (v3 : Int32) (g : hs_S), RO g → gm_k v0 = 8 → G (ow v0) → Pq (lX10_make_26 n v0 v1 v2 v3 g) (PO G g)
  | 0, v0, v1, v2, v3, g, _, _, _ => Pq.n
  | n + 1, v0, v1, v2, v3, g, c, k_v0, g_v0 => by
    rw [lX10_make_26]
    refine Pq.br ?_ ?_
    · exact Pq.s (PO.rf c)
    · refine Pq.ck ?_
      refine Pq.sv (pfX10_put (G := G) c k_v0 g_v0) fun  g1 o2 => ?_
      exact Pq.tv ((PO.rf c).trans o2) (plX10_make_26 (G := G) n _ _ _ _ _ ((PO.rf c).trans o2).2 k_v0 g_v0)
theorem pfX10_make {G : Nat → Prop} {g : hs_S} {v0 : Nat} {v1 : Int32} {v2 : Int32} (c : RO g) (k_v0 : gm_k v0 = 8) (g_v0 : G (ow v0)) : Pq (fX10_make v0 v1 v2 g) (Os G g) := by
  unfold fX10_make
  refine Pq.br ?_ ?_
  · refine Pq.br ?_ ?_
    · refine Pq.ck ?_
      refine Pq.ck ?_
      refine Pq.sv (pfX9_put (G := G) c (c.2.o k_v0 (by decide) g_v0)) fun  g1 o3 => ?_
      refine Pq.sv (plX10_make_26 (G := G) hs_N _ _ _ _ _ ((PO.rf c).trans o3).2 k_v0 g_v0) fun  g2 o4 => ?_
      exact Pq.s (((PO.rf c).trans o3).trans o4)
    · exact Pq.s (PO.rf c)
  · exact Pq.s (PO.rf c)
theorem pfX10_sizeOf {g : hs_S} {v0 : Nat} {v1 : Int32}  : Pq (fX10_sizeOf v0 v1 g) (Or' g tt) := by
  unfold fX10_sizeOf
  refine Pq.ck ?_
  refine Pq.ck ?_
  refine Pq.ro (pfX9_at) fun y1 f3 => ?_
  exact Pq.s ⟨rfl, trivial⟩
theorem pfX10_has {g : hs_S} {v0 : Nat} {v1 : Int32} {v2 : Int32}  : Pq (fX10_has v0 v1 v2 g) (Or' g tt) := by
  unfold fX10_has
  refine Pq.br ?_ ?_
  · exact Pq.s ⟨rfl, trivial⟩
  · refine Pq.ck ?_
    refine Pq.ro (pfX10_sizeOf) fun y1 f3 => ?_
    refine Pq.br ?_ ?_
    · exact Pq.s ⟨rfl, trivial⟩
    · exact Pq.s ⟨rfl, trivial⟩
theorem pfX10_get {g : hs_S} {v0 : Nat} {v1 : Int32} {v2 : Int32}  : Pq (fX10_get v0 v1 v2 g) (Or' g tt) := by
  unfold fX10_get
  refine Pq.ck ?_
  refine Pq.ck ?_
  refine Pq.ro (pfX9_at) fun y1 f3 => ?_
  exact Pq.s ⟨rfl, trivial⟩
theorem pfX6_actOnArray {G : Nat → Prop} {g : hs_S} {v0 : Nat} {v1 : Nat} {v2 : Int32} (c : RO g) (k_v0 : gm_k v0 = 5) (k_v1 : gm_k v1 = 3) (g_v0 : G (ow v0)) (g_v1 : G (ow v1)) : Pq (fX6_actOnArray v0 v1 v2 g) (Os G g) := by
  unfold fX6_actOnArray jX6_actOnArray_60
  refine Pq.ck ?_
  refine Pq.ro (pfX3_operand) fun y1 f28 => ?_
  refine Pq.br ?_ ?_
  · refine Pq.ck ?_
    refine Pq.ck ?_
    refine Pq.ck ?_
    refine Pq.st (pfX3_pop (G := G) c g_v1) fun y3 g4 o29 => ?_
    refine Pq.ck ?_
    refine Pq.st (pfX10_make (G := G) ((PO.rf c).trans o29).2 ((c.1 _).2.2.2.2.2.1 k_v0).2.2.2 (c.2.o k_v0 (by decide) g_v0)) fun y5 g6 o30 => ?_
    exact Pq.s (((PO.rf c).trans o29).trans o30)
  · refine Pq.br ?_ ?_
    · refine Pq.ck ?_
      refine Pq.ck ?_
      refine Pq.ck ?_
      refine Pq.ro (pfX10_sizeOf) fun y7 f31 => ?_
      refine Pq.ck ?_
      refine Pq.sv (pfX3_push (G := G) c k_v1 g_v1) fun  g9 o32 => ?_
      exact Pq.s ((PO.rf c).trans o32)
    · refine Pq.br ?_ ?_
      · refine Pq.ck ?_
        refine Pq.st (pfX3_pop (G := G) c g_v1) fun y10 g11 o33 => ?_
        refine Pq.ck ?_
        refine Pq.st (pfX3_pop (G := G) ((PO.rf c).trans o33).2 g_v1) fun y12 g13 o34 => ?_
        refine Pq.ck ?_
        refine Pq.ck ?_
        refine Pq.ck ?_
        refine Pq.ro (pfX10_has) fun y14 f35 => ?_
        refine Pq.br ?_ ?_
        · exact Pq.s (((PO.rf c).trans o33).trans o34)
        · refine Pq.br ?_ ?_
          · refine Pq.ck ?_
            refine Pq.ck ?_
            refine Pq.ck ?_
            refine Pq.sv (pfX10_put (G := G) (((PO.rf c).trans o33).trans o34).2 (((((PO.rf c).trans o33).trans o34).2.1 _).2.2.2.2.2.1 k_v0).2.2.2 ((((PO.rf c).trans o33).trans o34).2.2.o k_v0 (by decide) g_v0)) fun  g16 o36 => ?_
            exact Pq.s ((((PO.rf c).trans o33).trans o34).trans o36)
          · refine Pq.ck ?_
            refine Pq.ck ?_
            refine Pq.ck ?_
            refine Pq.ro (pfX10_get) fun y17 f37 => ?_
            refine Pq.ck ?_
            refine Pq.sv (pfX3_push (G := G) (((PO.rf c).trans o33).trans o34).2 k_v1 g_v1) fun  g19 o38 => ?_
            exact Pq.s ((((PO.rf c).trans o33).trans o34).trans o38)
      · refine Pq.ck ?_
        refine Pq.st (pfX3_pop (G := G) c g_v1) fun y20 g21 o39 => ?_
        refine Pq.ck ?_
        refine Pq.ck ?_
        refine Pq.ck ?_
        refine Pq.ro (pfX10_has) fun y22 f40 => ?_
        refine Pq.br ?_ ?_
        · exact Pq.s ((PO.rf c).trans o39)
        · refine Pq.br ?_ ?_
          · refine Pq.ck ?_
            refine Pq.ck ?_
            refine Pq.ck ?_
            refine Pq.sv (pfX10_put (G := G) ((PO.rf c).trans o39).2 ((((PO.rf c).trans o39).2.1 _).2.2.2.2.2.1 k_v0).2.2.2 (((PO.rf c).trans o39).2.2.o k_v0 (by decide) g_v0)) fun  g24 o41 => ?_
            exact Pq.s (((PO.rf c).trans o39).trans o41)
          · refine Pq.ck ?_
            refine Pq.ck ?_
            refine Pq.ck ?_
            refine Pq.ro (pfX10_get) fun y25 f42 => ?_
            refine Pq.ck ?_
            refine Pq.sv (pfX3_push (G := G) ((PO.rf c).trans o39).2 k_v1 g_v1) fun  g27 o43 => ?_
            exact Pq.s (((PO.rf c).trans o39).trans o43)
theorem pfX6_joined {g : hs_S} {v0 : Nat} {v1 : Int32} {v2 : Int32} {v3 : Int32}  : Pq (fX6_joined v0 v1 v2 v3 g) (Or' g tt) := by
  unfold fX6_joined
  refine Pq.br ?_ ?_
  · exact Pq.s ⟨rfl, trivial⟩
  · refine Pq.br ?_ ?_
    · exact Pq.s ⟨rfl, trivial⟩
    · refine Pq.br ?_ ?_
      · exact Pq.s ⟨rfl, trivial⟩
      · refine Pq.br ?_ ?_
        · exact Pq.s ⟨rfl, trivial⟩
        · refine Pq.br ?_ ?_
          · exact Pq.s ⟨rfl, trivial⟩
          · exact Pq.s ⟨rfl, trivial⟩
theorem pfX6_actOnTwo {G : Nat → Prop} {g : hs_S} {v0 : Nat} {v1 : Nat} {v2 : Int32} (c : RO g) (k_v1 : gm_k v1 = 3) (g_v1 : G (ow v1)) : Pq (fX6_actOnTwo v0 v1 v2 g) (Os G g) := by
  unfold fX6_actOnTwo jX6_actOnTwo_23 jX6_actOnTwo_47
  refine Pq.ck ?_
  refine Pq.st (pfX3_pop (G := G) c g_v1) fun y1 g2 o12 => ?_
  refine Pq.ck ?_
  refine Pq.st (pfX3_pop (G := G) ((PO.rf c).trans o12).2 g_v1) fun y3 g4 o13 => ?_
  refine Pq.br ?_ ?_
  · refine Pq.br ?_ ?_
    · exact Pq.s (((PO.rf c).trans o12).trans o13)
    · refine Pq.br ?_ ?_
      · refine Pq.ck ?_
        refine Pq.ck ?_
        refine Pq.sv (pfX3_push (G := G) (((PO.rf c).trans o12).trans o13).2 k_v1 g_v1) fun  g8 o14 => ?_
        exact Pq.s ((((PO.rf c).trans o12).trans o13).trans o14)
      · refine Pq.ck ?_
        refine Pq.ck ?_
        refine Pq.sv (pfX3_push (G := G) (((PO.rf c).trans o12).trans o13).2 k_v1 g_v1) fun  g9 o15 => ?_
        exact Pq.s ((((PO.rf c).trans o12).trans o13).trans o15)
  · refine Pq.br ?_ ?_
    · refine Pq.br ?_ ?_
      · exact Pq.s (((PO.rf c).trans o12).trans o13)
      · refine Pq.br ?_ ?_
        · refine Pq.ck ?_
          refine Pq.ck ?_
          refine Pq.sv (pfX3_push (G := G) (((PO.rf c).trans o12).trans o13).2 k_v1 g_v1) fun  g10 o16 => ?_
          exact Pq.s ((((PO.rf c).trans o12).trans o13).trans o16)
        · refine Pq.ck ?_
          refine Pq.ck ?_
          refine Pq.sv (pfX3_push (G := G) (((PO.rf c).trans o12).trans o13).2 k_v1 g_v1) fun  g11 o17 => ?_
          exact Pq.s ((((PO.rf c).trans o12).trans o13).trans o17)
    · refine Pq.ck ?_
      refine Pq.ro (pfX6_joined) fun y5 f18 => ?_
      refine Pq.ck ?_
      refine Pq.sv (pfX3_push (G := G) (((PO.rf c).trans o12).trans o13).2 k_v1 g_v1) fun  g7 o19 => ?_
      exact Pq.s ((((PO.rf c).trans o12).trans o13).trans o19)
theorem pfX6_act {G : Nat → Prop} {g : hs_S} {v0 : Nat} {v1 : Nat} {v2 : Int32} (c : RO g) (k_v0 : gm_k v0 = 5) (k_v1 : gm_k v1 = 3) (g_v0 : G (ow v0)) (g_v1 : G (ow v1)) : Pq (fX6_act v0 v1 v2 g) (Os G g) := by
  unfold fX6_act
  refine Pq.br ?_ ?_
  · exact Pq.s (PO.rf c)
  · refine Pq.br ?_ ?_
    · refine Pq.ck ?_
      refine Pq.ro (pfX3_operand) fun y1 f31 => ?_
      refine Pq.ck ?_
      refine Pq.sv (pfX3_push (G := G) c k_v1 g_v1) fun  g3 o32 => ?_
      exact Pq.s ((PO.rf c).trans o32)
    · refine Pq.br ?_ ?_
      · refine Pq.ck ?_
        refine Pq.ck ?_
        refine Pq.ck ?_
        refine Pq.ro (pfX7_pairAt) fun y4 f33 => ?_
        refine Pq.ck ?_
        refine Pq.sv (pfX3_push (G := G) c k_v1 g_v1) fun  g6 o34 => ?_
        exact Pq.s ((PO.rf c).trans o34)
      · refine Pq.br ?_ ?_
        · refine Pq.ck ?_
          refine Pq.ro (pfX3_operand) fun y7 f35 => ?_
          refine Pq.ck ?_
          refine Pq.ro (pfX3_local) fun y9 f36 => ?_
          refine Pq.ck ?_
          refine Pq.sv (pfX3_push (G := G) c k_v1 g_v1) fun  g11 o37 => ?_
          exact Pq.s ((PO.rf c).trans o37)
        · refine Pq.br ?_ ?_
          · refine Pq.ck ?_
            refine Pq.ro (pfX3_operand) fun y12 f38 => ?_
            refine Pq.ck ?_
            refine Pq.st (pfX3_pop (G := G) c g_v1) fun y14 g15 o39 => ?_
            refine Pq.ck ?_
            refine Pq.sv (pfX3_setLocal (G := G) ((PO.rf c).trans o39).2 k_v1 g_v1) fun  g16 o40 => ?_
            exact Pq.s (((PO.rf c).trans o39).trans o40)
          · refine Pq.br ?_ ?_
            · refine Pq.ck ?_
              refine Pq.st (pfX3_pop (G := G) c g_v1) fun y17 g18 o41 => ?_
              exact Pq.s ((PO.rf c).trans o41)
            · refine Pq.br ?_ ?_
              · refine Pq.ck ?_
                refine Pq.ro (pfX3_peek) fun y19 f42 => ?_
                refine Pq.ck ?_
                refine Pq.sv (pfX3_push (G := G) c k_v1 g_v1) fun  g21 o43 => ?_
                exact Pq.s ((PO.rf c).trans o43)
              · refine Pq.br ?_ ?_
                · refine Pq.ck ?_
                  refine Pq.st (pfX3_pop (G := G) c g_v1) fun y22 g23 o44 => ?_
                  refine Pq.ck ?_
                  refine Pq.sv (pfX3_push (G := G) ((PO.rf c).trans o44).2 k_v1 g_v1) fun  g24 o45 => ?_
                  exact Pq.s (((PO.rf c).trans o44).trans o45)
                · refine Pq.br ?_ ?_
                  · exact Pq.s (PO.rf c)
                  · refine Pq.ro (pfX4_isOfArray) fun y25 f46 => ?_
                    refine Pq.br ?_ ?_
                    · refine Pq.ck ?_
                      refine Pq.st (pfX6_actOnTwo (G := G) c k_v1 g_v1) fun y27 g28 o47 => ?_
                      exact Pq.s ((PO.rf c).trans o47)
                    · refine Pq.ck ?_
                      refine Pq.st (pfX6_actOnArray (G := G) c k_v0 k_v1 g_v0 g_v1) fun y29 g30 o48 => ?_
                      exact Pq.s ((PO.rf c).trans o48)
theorem plX7_handlerFor_2 : ∀ (n : Nat) (v0 : Nat) (v1 : Int32) (v2 : Int32) (v3 : Int32) (g : hs_S), Pq (lX7_handlerFor_2 n v0 v1 v2 v3 g) (Or3 g)
  | 0, v0, v1, v2, v3, g => Pq.n
  | n + 1, v0, v1, v2, v3, g => by
    rw [lX7_handlerFor_2]
    unfold jX7_handlerFor_42 jX7_handlerFor_43 jX7_handlerFor_68
    refine Pq.ck ?_
    refine Pq.br ?_ ?_
    · exact Pq.s rfl
    · refine Pq.ro (pfX7_handlerNumber) fun y1 f7 => ?_
      refine Pq.ck ?_
      refine Pq.ro (pfX7_handlerNumber) fun y3 f8 => ?_
      refine Pq.br ?_ ?_
      · refine Pq.br ?_ ?_
        · exact (plX7_handlerFor_2 n _ _ _ _ _)
        · refine Pq.br ?_ ?_
          · exact Pq.s rfl
          · refine Pq.br ?_ ?_
            · exact Pq.s rfl
            · exact (plX7_handlerFor_2 n _ _ _ _ _)
      · refine Pq.ck ?_
        refine Pq.ro (pfX7_handlerNumber) fun y5 f9 => ?_
        refine Pq.br ?_ ?_
        · refine Pq.br ?_ ?_
          · exact (plX7_handlerFor_2 n _ _ _ _ _)
          · refine Pq.br ?_ ?_
            · exact Pq.s rfl
            · refine Pq.br ?_ ?_
              · exact Pq.s rfl
              · exact (plX7_handlerFor_2 n _ _ _ _ _)
        · refine Pq.br ?_ ?_
          · exact (plX7_handlerFor_2 n _ _ _ _ _)
          · refine Pq.br ?_ ?_
            · exact Pq.s rfl
            · refine Pq.br ?_ ?_
              · exact Pq.s rfl
              · exact (plX7_handlerFor_2 n _ _ _ _ _)
theorem pfX7_handlerFor {g : hs_S} {v0 : Nat} {v1 : Int32} {v2 : Int32}  : Pq (fX7_handlerFor v0 v1 v2 g) (Or' g tt) := by
  unfold fX7_handlerFor jX7_handlerFor_61
  refine Pq.r3 (plX7_handlerFor_2 hs_N _ _ _ _ _) fun y1 y2 => ?_
  refine Pq.br ?_ ?_
  · exact Pq.s ⟨rfl, trivial⟩
  · refine Pq.ck ?_
    refine Pq.ro (pfX7_handlerNumber) fun y4 f7 => ?_
    exact Pq.s ⟨rfl, trivial⟩
theorem pfX3_goOnWith {G : Nat → Prop} {g : hs_S} {v0 : Nat} {v1 : Int32} {v2 : Int32} (c : RO g) (k_v0 : gm_k v0 = 3) (g_v0 : G (ow v0)) : Pq (fX3_goOnWith v0 v1 v2 g) (PO G g) := by
  unfold fX3_goOnWith
  refine Pq.ck ?_
  refine Pq.sv (pfX3_push (G := G) c k_v0 g_v0) fun  g1 o2 => ?_
  refine Pq.ck ?_
  exact Pq.s ((((PO.rf c).w g_v0).trans o2).w g_v0)
theorem plX6_raise_0 {G : Nat → Prop} : ∀ (n : Nat) (v0 : Nat) (v1 : Int32) (g : hs_S), RO g → gm_k v0 = 5 → G (ow v0) → Pq (lX6_raise_0 n v0 v1 g) (fun q => Os4 G g q ∧ (q.1 = 0 ∨ (gm_k q.2.1 = 3 ∧ ow q.2.1 = ow v0)))
  | 0, v0, v1, g, _, _, _ => Pq.n
  | n + 1, v0, v1, g, c, k_v0, g_v0 => by
    rw [lX6_raise_0]
    refine Pq.ck (Pq.br (Pq.s ⟨PO.rf c, Or.inl rfl⟩) ?_)
    refine Pq.ro (pfX6_frame c k_v0) fun r k => Pq.ck (Pq.ck (Pq.ck (Pq.ro pfX7_handlerFor fun r9 _ => Pq.br (Pq.ck ?_) (Pq.s ⟨PO.rf c, Or.inr k⟩))))
    have o : PO G g (hs_wI g v0 3 (hs_I g v0 3 - 1)) := (PO.rf c).w g_v0
    exact fun q e => ⟨o.trans (plX6_raise_0 n v0 v1 _ o.2 k_v0 g_v0 q e).1, (plX6_raise_0 n v0 v1 _ o.2 k_v0 g_v0 q e).2⟩
theorem pfX6_raise {G : Nat → Prop} {g : hs_S} {v0 : Nat} {v1 : Int32} (c : RO g) (k_v0 : gm_k v0 = 5) (g_v0 : G (ow v0)) : Pq (fX6_raise v0 v1 g) (Os G g) := by
  unfold fX6_raise
  cases e : lX6_raise_0 hs_N v0 v1 g with
  | none => exact Pq.n
  | some q =>
    obtain ⟨o, h⟩ := plX6_raise_0 hs_N v0 v1 g c k_v0 g_v0 q e
    have o' : PO G g q.2.2.2 := o
    show Pq (if q.1 = 0 then _ else _) _
    by_cases c0 : q.1 = 0
    · rw [if_pos c0]
      exact Pq.ck (Pq.s (o'.w g_v0))
    · rw [if_neg c0]
      have h2 := h.resolve_left c0
      exact Pq.ck (Pq.sv (pfX3_goOnWith (G := G) o'.2 h2.1 (gO h2.2 g_v0)) fun g' o2 => Pq.s (o'.trans o2))
theorem pfX6_goOn {G : Nat → Prop} {g : hs_S} {v0 : Nat} {v1 : Nat} (c : RO g) (k_v0 : gm_k v0 = 5) (k_v1 : gm_k v1 = 3) (g_v0 : G (ow v0)) (g_v1 : G (ow v1)) : Pq (fX6_goOn v0 v1 g) (Os G g) := by
  unfold fX6_goOn
  refine Pq.ck ?_
  refine Pq.ro (pfX3_kind) fun y1 f27 => ?_
  refine Pq.br ?_ ?_
  · refine Pq.ck ?_
    refine Pq.ck ?_
    refine Pq.ck ?_
    refine Pq.ro (pfX7_fourAt) fun y3 f28 => ?_
    refine Pq.ck ?_
    refine Pq.st (pfX6_pay (G := G) c g_v0 g_v1) fun y5 g6 o29 => ?_
    exact Pq.s ((PO.rf c).trans o29)
  · refine Pq.br ?_ ?_
    · refine Pq.ck ?_
      refine Pq.ro (pfX3_peek) fun y7 f30 => ?_
      refine Pq.ck ?_
      refine Pq.st (pfX6_pay (G := G) c g_v0 g_v1) fun y9 g10 o31 => ?_
      exact Pq.s ((PO.rf c).trans o31)
    · refine Pq.ck ?_
      refine Pq.br ?_ ?_
      · refine Pq.br ?_ ?_
        · refine Pq.st (pfX6_call (G := G) c k_v0 g_v0 g_v1) fun y11 g12 o32 => ?_
          exact Pq.s (((PO.rf c).w g_v0).trans o32)
        · refine Pq.br ?_ ?_
          · refine Pq.ck ?_
            refine Pq.st (pfX3_pop (G := G) c g_v1) fun y13 g14 o33 => ?_
            refine Pq.ck ?_
            refine Pq.st (pfX6_leave (G := G) (((PO.rf c).w g_v0).trans o33).2 k_v0 g_v0) fun y15 g16 o34 => ?_
            exact Pq.s ((((PO.rf c).w g_v0).trans o33).trans o34)
          · refine Pq.ro (pfX4_isJump) fun y17 f35 => ?_
            refine Pq.br ?_ ?_
            · refine Pq.ck ?_
              refine Pq.st (pfX6_act (G := G) c k_v0 k_v1 g_v0 g_v1) fun y19 g20 o36 => ?_
              refine Pq.br ?_ ?_
              · refine Pq.ck ?_
                refine Pq.ro (pfX4_sizeOf) fun y21 f37 => ?_
                refine Pq.ck ?_
                exact Pq.s ((((PO.rf c).w g_v0).trans o36).w g_v1)
              · refine Pq.ck ?_
                refine Pq.st (pfX6_raise (G := G) (((PO.rf c).w g_v0).trans o36).2 k_v0 g_v0) fun y23 g24 o38 => ?_
                exact Pq.s ((((PO.rf c).w g_v0).trans o36).trans o38)
            · refine Pq.ck ?_
              refine Pq.st (pfX6_jump (G := G) c g_v1) fun y25 g26 o39 => ?_
              exact Pq.s (((PO.rf c).w g_v0).trans o39)
      · exact Pq.s (PO.rf c)
theorem plX6_perform_75 {G : Nat → Prop} : ∀ (n : Nat) (v0 : Nat) (v6 : Int32) (g : hs_S), RO g → gm_k v0 = 5 → G (ow v0) → Pq (lX6_perform_75 n v0 v6 g) (Os3 G g)
  | 0, v0, v6, g, _, _, _ => Pq.n
  | n + 1, v0, v6, g, c, k_v0, g_v0 => by
    rw [lX6_perform_75]
    refine Pq.br ?_ ?_
    · exact Pq.s (PO.rf c)
    · refine Pq.ck ?_
      refine Pq.ro (pfX6_frame (c : RO g) k_v0) fun y1 f5 => ?_
      refine Pq.ck ?_
      refine Pq.st (pfX6_goOn (G := G) c k_v0 f5.1 g_v0 (gO f5.2 g_v0)) fun y3 g4 o6 => ?_
      refine Pq.br ?_ ?_
      · exact Pq.t3 ((PO.rf c).trans o6) (plX6_perform_75 (G := G) n _ _ _ ((PO.rf c).trans o6).2 k_v0 g_v0)
      · exact Pq.s ((PO.rf c).trans o6)
theorem pfX6_perform {G : Nat → Prop} {g : hs_S} {v0 : Nat} {v1 : Int32} {v2 : Int32} {v3 : Int32} {v4 : Int32} (c : RO g) (k_v0 : gm_k v0 = 5) (g_v0 : G (ow v0)) : Pq (fX6_perform v0 v1 v2 v3 v4 g) (Os G g) := by
  unfold fX6_perform jX6_perform_48 jX6_perform_67
  refine Pq.ck ?_
  refine Pq.sv (pfX6_forget (G := G) c k_v0 g_v0) fun  g1 o22 => ?_
  refine Pq.ck ?_
  refine Pq.ro (pfX6_frame (((PO.rf c).trans o22).2 : RO (hs_wI g1 v0 4 v4)) k_v0) fun y2 f23 => ?_
  refine Pq.ck ?_
  refine Pq.ck ?_
  refine Pq.ck ?_
  refine Pq.ro (pfX0_method (((PO.rf c).trans o22).2 : RO (hs_wI g1 v0 4 v4)) ((((PO.rf c).trans o22).2.1 _).2.2.2.2.2.1 k_v0).1.2) fun y4 f24 => ?_
  refine Pq.ck ?_
  refine Pq.sv (pfX3_begin (G := G) ((PO.rf c).trans o22).2 f23.1 f24.1 (gO f23.2 g_v0)) fun  g6 o25 => ?_
  refine Pq.ck ?_
  refine Pq.ck ?_
  refine Pq.ck ?_
  refine Pq.br ?_ ?_
  · refine Pq.ck ?_
    refine Pq.ck ?_
    refine Pq.ck ?_
    refine Pq.br ?_ ?_
    · refine Pq.ck ?_
      refine Pq.s3 (plX6_perform_75 (G := G) hs_N _ _ _ ((((PO.rf c).trans o22).w g_v0).trans o25).2 k_v0 g_v0) fun y9 y10 g11 o26 => ?_
      refine Pq.br ?_ ?_
      · exact Pq.s ((((((PO.rf c).trans o22).w g_v0).trans o25).w g_v0).trans o26)
      · exact Pq.s ((((((PO.rf c).trans o22).w g_v0).trans o25).w g_v0).trans o26)
    · refine Pq.sv (pfX3_setLocal (G := G) ((((PO.rf c).trans o22).w g_v0).trans o25).2 f23.1 (gO f23.2 g_v0)) fun  g8 o27 => ?_
      refine Pq.ck ?_
      refine Pq.s3 (plX6_perform_75 (G := G) hs_N _ _ _ (((((PO.rf c).trans o22).w g_v0).trans o25).trans o27).2 k_v0 g_v0) fun y12 y13 g14 o28 => ?_
      refine Pq.br ?_ ?_
      · exact Pq.s (((((((PO.rf c).trans o22).w g_v0).trans o25).trans o27).w g_v0).trans o28)
      · exact Pq.s (((((((PO.rf c).trans o22).w g_v0).trans o25).trans o27).w g_v0).trans o28)
  · refine Pq.sv (pfX3_setLocal (G := G) ((((PO.rf c).trans o22).w g_v0).trans o25).2 f23.1 (gO f23.2 g_v0)) fun  g7 o29 => ?_
    refine Pq.ck ?_
    refine Pq.ck ?_
    refine Pq.ck ?_
    refine Pq.br ?_ ?_
    · refine Pq.ck ?_
      refine Pq.s3 (plX6_perform_75 (G := G) hs_N _ _ _ (((((PO.rf c).trans o22).w g_v0).trans o25).trans o29).2 k_v0 g_v0) fun y16 y17 g18 o30 => ?_
      refine Pq.br ?_ ?_
      · exact Pq.s (((((((PO.rf c).trans o22).w g_v0).trans o25).trans o29).w g_v0).trans o30)
      · exact Pq.s (((((((PO.rf c).trans o22).w g_v0).trans o25).trans o29).w g_v0).trans o30)
    · refine Pq.sv (pfX3_setLocal (G := G) (((((PO.rf c).trans o22).w g_v0).trans o25).trans o29).2 f23.1 (gO f23.2 g_v0)) fun  g15 o31 => ?_
      refine Pq.ck ?_
      refine Pq.s3 (plX6_perform_75 (G := G) hs_N _ _ _ ((((((PO.rf c).trans o22).w g_v0).trans o25).trans o29).trans o31).2 k_v0 g_v0) fun y19 y20 g21 o32 => ?_
      refine Pq.br ?_ ?_
      · exact Pq.s ((((((((PO.rf c).trans o22).w g_v0).trans o25).trans o29).trans o31).w g_v0).trans o32)
      · exact Pq.s ((((((((PO.rf c).trans o22).w g_v0).trans o25).trans o29).trans o31).w g_v0).trans o32)
