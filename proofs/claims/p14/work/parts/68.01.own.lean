/-! WHOSE A CELL IS, and that a method writes only what is of its own -/
def ow (a : Nat) : Nat := if a = 0 then 0 else if a < 23 then 1 else if a < 45 then 23 else if a < 67 then 45 else if a < 89 then 67 else if a < 91 then 89 else if a < 95 then 91 else if a < 100 then 95 else if a < 285 then 100 else 285
def coS (k j : Nat) : Bool := (decide (k = 0) && decide (j < 3)) || ((decide (k = 1) && decide (j < 2)) || ((decide (k = 2) && decide (j = 0)) || ((decide (k = 3) && decide (j < 2)) || ((decide (k = 4) && decide (j < 4)) || ((decide (k = 5) && (decide (j = 1) || decide (j = 2))) || ((decide (k = 6) && decide (j < 2)) || ((decide (k = 7) && decide (j = 0)) || ((decide (k = 8) && decide (j < 2)) || ((decide (k = 102) && decide (j < 8)) || (decide (k = 103) && decide (j < 60)))))))))))
def CO (R : Nat → Nat → Nat) : Prop := ∀ a j, coS (gm_k a) j = true → ow (R a j - 1) = ow a
theorem gO {G : Nat → Prop} {r v : Nat} (e : ow r = ow v) (g : G (ow v)) : G (ow r) := by rw [e]; exact g
theorem CO.o {R : Nat → Nat → Nat} {G : Nat → Prop} {a j k : Nat} (co : CO R) (hk : gm_k a = k) (h : coS k j = true) (g : G (ow a)) : G (ow (R a j - 1)) := gO (co a j (by rw [hk]; exact h)) g
/-- what the references are -/
def RO (g : hs_S) : Prop := CR (hs_R g) ∧ CO (hs_R g)
theorem RO.w {g : hs_S} (h : RO g) {a j : Nat} {v : Int32} : RO (hs_wI g a j v) := h
/-- outside G all is as it was -/
def PO (G : Nat → Prop) (g q : hs_S) : Prop := (∀ a, ¬ G (ow a) → hs_I q a = hs_I g a) ∧ RO q
theorem PO.rf {G : Nat → Prop} {g : hs_S} (c : RO g) : PO G g g := ⟨fun _ _ => rfl, c⟩
theorem PO.trans {G : Nat → Prop} {g q r : hs_S} (h : PO G g q) (h' : PO G q r) : PO G g r := ⟨fun a x => (h'.1 a x).trans (h.1 a x), h'.2⟩
theorem PO.w {G : Nat → Prop} {g q : hs_S} (h : PO G g q) {a j : Nat} {v : Int32} (o : G (ow a)) : PO G g (hs_wI q a j v) := by
  refine ⟨fun b x => ?_, h.2⟩
  funext i
  rw [hs_I_w, if_neg (fun e => x (by rw [e]; exact o)), h.1 b x]
def Pq {σ : Type} (x : Option σ) (P : σ → Prop) : Prop := ∀ q, x = some q → P q
def Or' {α : Type} (E : hs_S) (X : α → Prop) (q : α × hs_S) : Prop := q.2 = E ∧ X q.1
def Or3 {α β : Type} (E : hs_S) (q : α × β × hs_S) : Prop := q.2.2 = E
def Os {α : Type} (G : Nat → Prop) (E : hs_S) (q : α × hs_S) : Prop := PO G E q.2
def Os3 {α β : Type} (G : Nat → Prop) (E : hs_S) (q : α × β × hs_S) : Prop := PO G E q.2.2
def Os4 {α β γ : Type} (G : Nat → Prop) (E : hs_S) (q : α × β × γ × hs_S) : Prop := PO G E q.2.2.2
theorem Pq.s {σ : Type} {r : σ} {P : σ → Prop} (h : P r) : Pq (Option.some r) P := fun q e => by cases e; exact h
theorem Pq.n {σ : Type} {P : σ → Prop} : Pq (none : Option σ) P := fun q e => by cases e
theorem Pq.ck {σ : Type} {c : Prop} {i : Decidable c} {x : Option σ} {P : σ → Prop} (h : Pq x P) : Pq (@ite _ c i x none) P := by
  by_cases k : c
  · rw [if_pos k]; exact h
  · rw [if_neg k]; exact Pq.n
theorem Pq.br {σ : Type} {c : Prop} {i : Decidable c} {x y : Option σ} {P : σ → Prop} (h : Pq x P) (h' : Pq y P) : Pq (@ite _ c i x y) P := by
  by_cases k : c
  · rw [if_pos k]; exact h
  · rw [if_neg k]; exact h'
theorem Pq.sm {β : Type} {E : hs_S} {f : hs_S → Option β} {P : β → Prop} (h : Pq (f E) P) : Pq (hs_bv (Option.some E) f) P := h
theorem Pq.ro {α β : Type} {x : Option (α × hs_S)} {f : α → hs_S → Option β} {E : hs_S} {X : α → Prop} {P : β → Prop} (h : Pq x (Or' E X)) (k : ∀ r, X r → Pq (f r E) P) : Pq (hs_bd x f) P := by
  cases e : x with
  | none => exact Pq.n
  | some q =>
    obtain ⟨r, s⟩ := q
    obtain ⟨h1, h2⟩ := h _ e
    have h3 : s = E := h1
    show Pq (f r s) P
    rw [h3]; exact k r h2
theorem Pq.r3 {α0 α1 β : Type} {x : Option (α0 × α1 × hs_S)} {f : α0 → α1 → hs_S → Option β} {E : hs_S} {P : β → Prop} (h : Pq x (Or3 E)) (k : ∀ r0 r1, Pq (f r0 r1 E) P) : Pq (hs_b3 x f) P := by
  cases e : x with
  | none => exact Pq.n
  | some q =>
    obtain ⟨r0, r1, s⟩ := q
    have h3 : s = E := h _ e
    show Pq (f r0 r1 s) P
    rw [h3]; exact k r0 r1
theorem Pq.st {α β : Type} {G : Nat → Prop} {x : Option (α × hs_S)} {f : α → hs_S → Option β} {E : hs_S} {P : β → Prop} (h : Pq x (Os G E)) (k : ∀ r g', PO G E g' → Pq (f r g') P) : Pq (hs_bd x f) P := by
  cases e : x with
  | none => exact Pq.n
  | some q => exact k q.1 q.2 (h q e)
theorem Pq.sv {β : Type} {G : Nat → Prop} {x : Option hs_S} {f : hs_S → Option β} {E : hs_S} {P : β → Prop} (h : Pq x (PO G E)) (k : ∀ g', PO G E g' → Pq (f g') P) : Pq (hs_bv x f) P := by
  cases e : x with
  | none => exact Pq.n
  | some q => exact k q (h q e)
theorem Pq.s3 {α0 α1 β : Type} {G : Nat → Prop} {x : Option (α0 × α1 × hs_S)} {f : α0 → α1 → hs_S → Option β} {E : hs_S} {P : β → Prop} (h : Pq x (Os3 G E)) (k : ∀ r0 r1 g', PO G E g' → Pq (f r0 r1 g') P) : Pq (hs_b3 x f) P := by
  cases e : x with
  | none => exact Pq.n
  | some q => exact k q.1 q.2.1 q.2.2 (h q e)
theorem Pq.s4 {α0 α1 α2 β : Type} {G : Nat → Prop} {x : Option (α0 × α1 × α2 × hs_S)} {f : α0 → α1 → α2 → hs_S → Option β} {E : hs_S} {P : β → Prop} (h : Pq x (Os4 G E)) (k : ∀ r0 r1 r2 g', PO G E g' → Pq (f r0 r1 r2 g') P) : Pq (hs_b4 x f) P := by
  cases e : x with
  | none => exact Pq.n
  | some q => exact k q.1 q.2.1 q.2.2.1 q.2.2.2 (h q e)
theorem Pq.to {α : Type} {G : Nat → Prop} {g E : hs_S} {x : Option (α × hs_S)} (o : PO G g E) (h : Pq x (Os G E)) : Pq x (Os G g) := fun q e => o.trans (h q e)
theorem Pq.tv {G : Nat → Prop} {g E : hs_S} {x : Option hs_S} (o : PO G g E) (h : Pq x (PO G E)) : Pq x (PO G g) := fun q e => o.trans (h q e)
theorem Pq.t3 {α β : Type} {G : Nat → Prop} {g E : hs_S} {x : Option (α × β × hs_S)} (o : PO G g E) (h : Pq x (Os3 G E)) : Pq x (Os3 G g) := fun q e => o.trans (h q e)
theorem Pq.t4 {α β γ : Type} {G : Nat → Prop} {g E : hs_S} {x : Option (α × β × γ × hs_S)} (o : PO G g E) (h : Pq x (Os4 G E)) : Pq x (Os4 G g) := fun q e => o.trans (h q e)
/-! by hand -/
theorem RO.L0 {g : hs_S} (c : RO g) {a : Nat} (k : gm_k a = 0) : rL (hs_R g) a 1 102 8 6 := ((c.1 a).1 k).2.1
theorem RO.L5 {g : hs_S} (c : RO g) {a : Nat} (k : gm_k a = 5) : rL (hs_R g) a 1 103 60 3 := ((c.1 a).2.2.2.2.2.1 k).2.1
theorem hs_in_lt {v : Int32} {n : Nat} (hi : hs_in v n = true) : v.toNatClampNeg < n := by
  simp only [hs_in, Bool.and_eq_true, decide_eq_true_eq] at hi
  exact hi.2
theorem plJ7_fill_53178_5 {G : Nat → Prop} : ∀ (n : Nat) (v0 : Nat) (v1 : Int32) (v2 : Int32) (v3 : Int32) (g : hs_S), RO g → G (ow v0) → Pq (lJ7_fill_53178_5 n v0 v1 v2 v3 g) (PO G g)
  | 0, v0, v1, v2, v3, g, _, _ => Pq.n
  | n + 1, v0, v1, v2, v3, g, c, g_v0 => by
    rw [lJ7_fill_53178_5]
    refine Pq.br ?_ ?_
    · exact Pq.s (PO.rf c)
    · refine Pq.ck ?_
      refine Pq.ck ?_
      exact Pq.tv ((PO.rf c).w g_v0) (plJ7_fill_53178_5 (G := G) n _ _ _ _ _ c g_v0)
theorem pfJ7_fill_53178 {G : Nat → Prop} {g : hs_S} {v0 : Nat} {v1 : Int32} (c : RO g) (g_v0 : G (ow v0)) : Pq (fJ7_fill_53178 v0 v1 g) (PO G g) := by
  unfold fJ7_fill_53178
  refine Pq.ck ?_
  refine Pq.sv (plJ7_fill_53178_5 (G := G) hs_N _ _ _ _ _ c g_v0) fun  g1 o2 => ?_
  exact Pq.s ((PO.rf c).trans o2)
theorem pfX9_put {G : Nat → Prop} {g : hs_S} {v0 : Nat} {v1 : Int32} {v2 : Int32} (c : RO g) (g_v0 : G (ow v0)) : Pq (fX9_put v0 v1 v2 g) (PO G g) := by
  unfold fX9_put
  refine Pq.br ?_ ?_
  · exact Pq.s (PO.rf c)
  · refine Pq.ck ?_
    refine Pq.br ?_ ?_
    · exact Pq.s (PO.rf c)
    · refine Pq.ck ?_
      exact Pq.s ((PO.rf c).w g_v0)
theorem pfX0_method {g : hs_S} {v0 : Nat} {v1 : Int32} (c : RO g) (k0 : gm_k v0 = 0) : Pq (fX0_method v0 v1 g) (Or' g (fun r => gm_k r = 6 ∧ ow r = ow v0)) := by
  obtain ⟨h1, h2, h3, h4⟩ := c.L0 k0
  have f2 : rK (hs_R g) v0 2 6 := ((c.1 v0).1 k0).2.2
  have k2 : ow (hs_R g v0 2 - 1) = ow v0 := c.2 v0 2 (by rw [k0]; decide)
  unfold fX0_method
  by_cases c1 : v1 < 0
  · rw [if_pos c1]
    exact Pq.ck (Pq.ck (Pq.s ⟨rfl, f2.2, k2⟩))
  · rw [if_neg c1]
    by_cases c2 : (8 : Int32) ≤ v1
    · rw [if_pos c2]
      exact Pq.ck (Pq.ck (Pq.s ⟨rfl, f2.2, k2⟩))
    · rw [if_neg c2]
      have hj := hs_in_lt (in_lit (n := 8) (by decide) c1 c2)
      have e1 : ow (hs_R g (hs_R g v0 1 - 1) v1.toNatClampNeg - 1) = ow (hs_R g v0 1 - 1) := c.2 _ _ (by rw [h2]; simp [coS, hj])
      exact Pq.ck (Pq.ck (Pq.ck (Pq.ck (Pq.ck (Pq.s ⟨rfl, (h4 _ hj).2, e1.trans (c.2 v0 1 (by rw [k0]; decide))⟩)))))
theorem pfX0_method0 {g : hs_S} {v0 : Nat} {v1 : Int32} : Pq (fX0_method v0 v1 g) (Or' g tt) := by
  unfold fX0_method
  exact Pq.br (Pq.ck (Pq.ck (Pq.s ⟨rfl, trivial⟩))) (Pq.br (Pq.ck (Pq.ck (Pq.s ⟨rfl, trivial⟩))) (Pq.ck (Pq.ck (Pq.ck (Pq.ck (Pq.ck (Pq.s ⟨rfl, trivial⟩)))))))
theorem pfX0_append {G : Nat → Prop} {g : hs_S} {v0 : Nat} {v1 : Int32} (c : RO g) (k_v0 : gm_k v0 = 0) (g_v0 : G (ow v0)) : Pq (fX0_append v0 v1 g) (PO G g) := by
  unfold fX0_append
  refine Pq.ck ?_
  refine Pq.ck ?_
  refine Pq.ck ?_
  refine Pq.br ?_ ?_
  · exact Pq.s (PO.rf c)
  · refine Pq.sv (pfX9_put (G := G) c (c.2.o k_v0 (by decide) g_v0)) fun  g1 o2 => ?_
    refine Pq.ck ?_
    exact Pq.s (((PO.rf c).trans o2).w g_v0)
theorem pfX9_at {g : hs_S} {v0 : Nat} {v1 : Int32}  : Pq (fX9_at v0 v1 g) (Or' g tt) := by
  unfold fX9_at
  refine Pq.br ?_ ?_
  · exact Pq.s ⟨rfl, trivial⟩
  · refine Pq.ck ?_
    refine Pq.br ?_ ?_
    · exact Pq.s ⟨rfl, trivial⟩
    · refine Pq.ck ?_
      exact Pq.s ⟨rfl, trivial⟩
theorem pfX0_valueAt {g : hs_S} {v0 : Nat} {v1 : Int32}  : Pq (fX0_valueAt v0 v1 g) (Or' g tt) := by
  unfold fX0_valueAt
  refine Pq.ck ?_
  refine Pq.br ?_ ?_
  · exact Pq.s ⟨rfl, trivial⟩
  · refine Pq.ck ?_
    refine Pq.ro (pfX9_at) fun y1 f3 => ?_
    exact Pq.s ⟨rfl, trivial⟩
theorem pfX7_empty {G : Nat → Prop} {g : hs_S} {v0 : Nat} (c : RO g) (g_v0 : G (ow v0)) : Pq (fX7_empty v0 g) (PO G g) := by
  unfold fX7_empty
  refine Pq.ck ?_
  refine Pq.sm ?_
  refine Pq.sm ?_
  exact Pq.s ((((((((((PO.rf c).w g_v0).w g_v0).w g_v0).w g_v0).w g_v0).w g_v0).w g_v0).w g_v0).w g_v0)
theorem pfX0_pairAt {g : hs_S} {v0 : Nat} {v1 : Int32}  : Pq (fX0_pairAt v0 v1 g) (Or' g tt) := by
  unfold fX0_pairAt
  refine Pq.ck ?_
  refine Pq.ro (pfX0_valueAt) fun y1 f5 => ?_
  refine Pq.ck ?_
  refine Pq.ro (pfX0_valueAt) fun y3 f6 => ?_
  exact Pq.s ⟨rfl, trivial⟩
theorem pfX2_handlerPlace {g : hs_S} {v0 : Nat} {v1 : Nat} {v2 : Int32}  : Pq (fX2_handlerPlace v0 v1 v2 g) (Or' g tt) := by
  unfold fX2_handlerPlace
  refine Pq.ck ?_
  exact Pq.s ⟨rfl, trivial⟩
theorem pfX2_endOf {g : hs_S} {v0 : Nat} {v1 : Nat}  : Pq (fX2_endOf v0 v1 g) (Or' g tt) := by
  unfold fX2_endOf
  refine Pq.ck ?_
  refine Pq.ck ?_
  refine Pq.ro (pfX2_handlerPlace) fun y1 f3 => ?_
  exact Pq.s ⟨rfl, trivial⟩
theorem pfX2_wrongHandlerCount {G : Nat → Prop} {g : hs_S} {v0 : Nat} {v1 : Nat} {v2 : Nat} (c : RO g) (g_v2 : G (ow v2)) : Pq (fX2_wrongHandlerCount v0 v1 v2 g) (Os G g) := by
  unfold fX2_wrongHandlerCount
  refine Pq.ck ?_
  refine Pq.ck ?_
  refine Pq.br ?_ ?_
  · refine Pq.ro (pfX0_valueAt) fun y1 f5 => ?_
    refine Pq.ck ?_
    refine Pq.br ?_ ?_
    · refine Pq.ck ?_
      refine Pq.ro (pfX2_endOf) fun y3 f6 => ?_
      refine Pq.ck ?_
      refine Pq.br ?_ ?_
      · exact Pq.s ((PO.rf c).w g_v2)
      · exact Pq.s ((PO.rf c).w g_v2)
    · exact Pq.s ((PO.rf c).w g_v2)
  · exact Pq.s (PO.rf c)
theorem pfX2_wrongNumber {G : Nat → Prop} {g : hs_S} {v0 : Nat} {v1 : Nat} {v2 : Nat} {v3 : Int32} (c : RO g) (g_v2 : G (ow v2)) : Pq (fX2_wrongNumber v0 v1 v2 v3 g) (Os G g) := by
  unfold fX2_wrongNumber
  refine Pq.ck ?_
  refine Pq.ro (pfX0_valueAt) fun y1 f9 => ?_
  refine Pq.ck ?_
  refine Pq.br ?_ ?_
  · exact Pq.s ((PO.rf c).w g_v2)
  · refine Pq.br ?_ ?_
    · refine Pq.ck ?_
      refine Pq.ro (pfX0_valueAt) fun y3 f10 => ?_
      refine Pq.ck ?_
      refine Pq.br ?_ ?_
      · refine Pq.br ?_ ?_
        · exact Pq.s (((PO.rf c).w g_v2).w g_v2)
        · refine Pq.br ?_ ?_
          · refine Pq.ck ?_
            refine Pq.ro (pfX0_pairAt) fun y5 f11 => ?_
            refine Pq.ck ?_
            refine Pq.br ?_ ?_
            · refine Pq.br ?_ ?_
              · exact Pq.s (((((PO.rf c).w g_v2).w g_v2).w g_v2).w g_v2)
              · refine Pq.br ?_ ?_
                · refine Pq.ck ?_
                  refine Pq.st (pfX2_wrongHandlerCount (G := G) c g_v2) fun y7 g8 o12 => ?_
                  exact Pq.s ((((((PO.rf c).w g_v2).w g_v2).w g_v2).w g_v2).trans o12)
                · exact Pq.s (((((PO.rf c).w g_v2).w g_v2).w g_v2).w g_v2)
            · exact Pq.s (((((PO.rf c).w g_v2).w g_v2).w g_v2).w g_v2)
          · exact Pq.s (((PO.rf c).w g_v2).w g_v2)
      · exact Pq.s (((PO.rf c).w g_v2).w g_v2)
    · exact Pq.s ((PO.rf c).w g_v2)
theorem pfX7_hasPlace {g : hs_S} {v0 : Nat} {v1 : Int32}  : Pq (fX7_hasPlace v0 v1 g) (Or' g tt) := by
  unfold fX7_hasPlace
  refine Pq.br ?_ ?_
  · exact Pq.s ⟨rfl, trivial⟩
  · refine Pq.ck ?_
    refine Pq.br ?_ ?_
    · exact Pq.s ⟨rfl, trivial⟩
    · refine Pq.br ?_ ?_
      · exact Pq.s ⟨rfl, trivial⟩
      · refine Pq.ck ?_
        refine Pq.ck ?_
        refine Pq.br ?_ ?_
        · exact Pq.s ⟨rfl, trivial⟩
        · exact Pq.s ⟨rfl, trivial⟩
theorem pfX7_valueAt {g : hs_S} {v0 : Nat} {v1 : Int32}  : Pq (fX7_valueAt v0 v1 g) (Or' g tt) := by
  unfold fX7_valueAt
  refine Pq.ck ?_
  refine Pq.ro (pfX7_hasPlace) fun y1 f3 => ?_
  refine Pq.br ?_ ?_
  · exact Pq.s ⟨rfl, trivial⟩
  · refine Pq.ck ?_
    refine Pq.ck ?_
    refine Pq.ck ?_
    refine Pq.ck ?_
    exact Pq.s ⟨rfl, trivial⟩
theorem pfX4_isOfTwo {g : hs_S} {v0 : Int32}  : Pq (fX4_isOfTwo v0 g) (Or' g tt) := by
  unfold fX4_isOfTwo
  refine Pq.br ?_ ?_
  · exact Pq.s ⟨rfl, trivial⟩
  · refine Pq.br ?_ ?_
    · exact Pq.s ⟨rfl, trivial⟩
    · refine Pq.br ?_ ?_
      · exact Pq.s ⟨rfl, trivial⟩
      · refine Pq.br ?_ ?_
        · exact Pq.s ⟨rfl, trivial⟩
        · refine Pq.br ?_ ?_
          · exact Pq.s ⟨rfl, trivial⟩
          · refine Pq.br ?_ ?_
            · exact Pq.s ⟨rfl, trivial⟩
            · refine Pq.br ?_ ?_
              · exact Pq.s ⟨rfl, trivial⟩
              · refine Pq.br ?_ ?_
                · exact Pq.s ⟨rfl, trivial⟩
                · exact Pq.s ⟨rfl, trivial⟩
theorem pfX4_isBranch {g : hs_S} {v0 : Int32}  : Pq (fX4_isBranch v0 g) (Or' g tt) := by
  unfold fX4_isBranch
  refine Pq.br ?_ ?_
  · exact Pq.s ⟨rfl, trivial⟩
  · refine Pq.br ?_ ?_
    · exact Pq.s ⟨rfl, trivial⟩
    · exact Pq.s ⟨rfl, trivial⟩
theorem pfX4_isOfArray {g : hs_S} {v0 : Int32}  : Pq (fX4_isOfArray v0 g) (Or' g tt) := by
  unfold fX4_isOfArray jX4_isOfArray_26
  refine Pq.br ?_ ?_
  · exact Pq.s ⟨rfl, trivial⟩
  · refine Pq.br ?_ ?_
    · exact Pq.s ⟨rfl, trivial⟩
    · refine Pq.br ?_ ?_
      · exact Pq.s ⟨rfl, trivial⟩
      · refine Pq.br ?_ ?_
        · exact Pq.s ⟨rfl, trivial⟩
        · exact Pq.s ⟨rfl, trivial⟩
theorem pfX4_sizeOf {g : hs_S} {v0 : Int32}  : Pq (fX4_sizeOf v0 g) (Or' g tt) := by
  unfold fX4_sizeOf jX4_sizeOf_147
  refine Pq.br ?_ ?_
  · exact Pq.s ⟨rfl, trivial⟩
  · refine Pq.br ?_ ?_
    · exact Pq.s ⟨rfl, trivial⟩
    · refine Pq.br ?_ ?_
      · exact Pq.s ⟨rfl, trivial⟩
      · refine Pq.br ?_ ?_
        · exact Pq.s ⟨rfl, trivial⟩
        · refine Pq.br ?_ ?_
          · exact Pq.s ⟨rfl, trivial⟩
          · refine Pq.br ?_ ?_
            · exact Pq.s ⟨rfl, trivial⟩
            · refine Pq.br ?_ ?_
              · exact Pq.s ⟨rfl, trivial⟩
              · refine Pq.br ?_ ?_
                · exact Pq.s ⟨rfl, trivial⟩
                · refine Pq.br ?_ ?_
                  · exact Pq.s ⟨rfl, trivial⟩
                  · refine Pq.br ?_ ?_
                    · exact Pq.s ⟨rfl, trivial⟩
                    · refine Pq.br ?_ ?_
                      · exact Pq.s ⟨rfl, trivial⟩
                      · refine Pq.br ?_ ?_
                        · exact Pq.s ⟨rfl, trivial⟩
                        · refine Pq.br ?_ ?_
                          · exact Pq.s ⟨rfl, trivial⟩
                          · refine Pq.ro (pfX4_isOfTwo) fun y1 f7 => ?_
                            refine Pq.br ?_ ?_
                            · refine Pq.ro (pfX4_isBranch) fun y3 f8 => ?_
                              refine Pq.br ?_ ?_
                              · refine Pq.ro (pfX4_isOfArray) fun y5 f9 => ?_
                                refine Pq.br ?_ ?_
                                · exact Pq.s ⟨rfl, trivial⟩
                                · exact Pq.s ⟨rfl, trivial⟩
                              · exact Pq.s ⟨rfl, trivial⟩
                            · exact Pq.s ⟨rfl, trivial⟩
theorem pfX7_sizeAt {g : hs_S} {v0 : Nat} {v1 : Int32}  : Pq (fX7_sizeAt v0 v1 g) (Or' g tt) := by
  unfold fX7_sizeAt
  refine Pq.ck ?_
  refine Pq.ro (pfX7_valueAt) fun y1 f5 => ?_
  refine Pq.ro (pfX4_sizeOf) fun y3 f6 => ?_
  exact Pq.s ⟨rfl, trivial⟩
theorem pfX0_has {g : hs_S} {v0 : Nat} {v1 : Int32}  : Pq (fX0_has v0 v1 g) (Or' g tt) := by
  unfold fX0_has
  refine Pq.br ?_ ?_
  · exact Pq.s ⟨rfl, trivial⟩
  · refine Pq.ck ?_
    refine Pq.br ?_ ?_
    · exact Pq.s ⟨rfl, trivial⟩
    · exact Pq.s ⟨rfl, trivial⟩
theorem pfX2_hasOperand {g : hs_S} {v0 : Nat} {v1 : Nat} {v2 : Nat} {v3 : Int32}  : Pq (fX2_hasOperand v0 v1 v2 v3 g) (Or' g tt) := by
  unfold fX2_hasOperand jX2_hasOperand_74 jX2_hasOperand_30
  refine Pq.ck ?_
  refine Pq.ro (pfX7_valueAt) fun y1 f9 => ?_
  refine Pq.ck ?_
  refine Pq.ro (pfX7_valueAt) fun y3 f10 => ?_
  refine Pq.br ?_ ?_
  · refine Pq.ck ?_
    refine Pq.br ?_ ?_
    · exact Pq.s ⟨rfl, trivial⟩
    · exact Pq.s ⟨rfl, trivial⟩
  · refine Pq.br ?_ ?_
    · refine Pq.ck ?_
      refine Pq.br ?_ ?_
      · exact Pq.s ⟨rfl, trivial⟩
      · exact Pq.s ⟨rfl, trivial⟩
    · refine Pq.br ?_ ?_
      · refine Pq.ck ?_
        refine Pq.ro (pfX0_has) fun y5 f11 => ?_
        refine Pq.ck ?_
        exact Pq.s ⟨rfl, trivial⟩
      · refine Pq.ro (pfX4_isOfArray) fun y7 f12 => ?_
        refine Pq.br ?_ ?_
        · exact Pq.s ⟨rfl, trivial⟩
        · refine Pq.br ?_ ?_
          · exact Pq.s ⟨rfl, trivial⟩
          · exact Pq.s ⟨rfl, trivial⟩
theorem pfX7_mark {G : Nat → Prop} {g : hs_S} {v0 : Nat} {v1 : Int32} {v2 : Int32} (c : RO g) (k_v0 : gm_k v0 = 6) (g_v0 : G (ow v0)) : Pq (fX7_mark v0 v1 v2 g) (PO G g) := by
  unfold fX7_mark
  refine Pq.ck ?_
  refine Pq.ro (pfX7_hasPlace) fun y1 f3 => ?_
  refine Pq.br ?_ ?_
  · exact Pq.s (PO.rf c)
  · refine Pq.ck ?_
    refine Pq.ck ?_
    refine Pq.ck ?_
    refine Pq.ck ?_
    exact Pq.s ((PO.rf c).w (c.2.o k_v0 (by decide) g_v0))
theorem plX2_wrongInstruction_2 {G : Nat → Prop} : ∀ (n : Nat) (v0 : Nat) (v1 : Nat) (v2 : Nat) (v3 : Int32) (g : hs_S), RO g → gm_k v2 = 6 → G (ow v2) → Pq (lX2_wrongInstruction_2 n v0 v1 v2 v3 g) (Os3 G g)
  | 0, v0, v1, v2, v3, g, _, _, _ => Pq.n
  | n + 1, v0, v1, v2, v3, g, c, k_v2, g_v2 => by
    rw [lX2_wrongInstruction_2]
    unfold jX2_wrongInstruction_37 jX2_wrongInstruction_38 jX2_wrongInstruction_91
    refine Pq.ck ?_
    refine Pq.br ?_ ?_
    · exact Pq.s (PO.rf c)
    · refine Pq.ro (pfX7_sizeAt) fun y1 f18 => ?_
      refine Pq.br ?_ ?_
      · refine Pq.br ?_ ?_
        · exact Pq.s (PO.rf c)
        · refine Pq.ck ?_
          refine Pq.ro (pfX2_hasOperand) fun y3 f19 => ?_
          refine Pq.br ?_ ?_
          · exact Pq.s (PO.rf c)
          · refine Pq.ck ?_
            refine Pq.sv (pfX7_mark (G := G) c k_v2 g_v2) fun  g5 o20 => ?_
            refine Pq.ck ?_
            refine Pq.ro (pfX7_valueAt) fun y6 f21 => ?_
            refine Pq.br ?_ ?_
            · refine Pq.ck ?_
              exact Pq.t3 (((PO.rf c).trans o20).w g_v2) (plX2_wrongInstruction_2 (G := G) n _ _ _ _ _ ((PO.rf c).trans o20).2 k_v2 g_v2)
            · exact Pq.t3 ((PO.rf c).trans o20) (plX2_wrongInstruction_2 (G := G) n _ _ _ _ _ ((PO.rf c).trans o20).2 k_v2 g_v2)
      · refine Pq.ck ?_
        refine Pq.br ?_ ?_
        · refine Pq.br ?_ ?_
          · exact Pq.s (PO.rf c)
          · refine Pq.ck ?_
            refine Pq.ro (pfX2_hasOperand) fun y8 f22 => ?_
            refine Pq.br ?_ ?_
            · exact Pq.s (PO.rf c)
            · refine Pq.ck ?_
              refine Pq.sv (pfX7_mark (G := G) c k_v2 g_v2) fun  g10 o23 => ?_
              refine Pq.ck ?_
              refine Pq.ro (pfX7_valueAt) fun y11 f24 => ?_
              refine Pq.br ?_ ?_
              · refine Pq.ck ?_
                exact Pq.t3 (((PO.rf c).trans o23).w g_v2) (plX2_wrongInstruction_2 (G := G) n _ _ _ _ _ ((PO.rf c).trans o23).2 k_v2 g_v2)
              · exact Pq.t3 ((PO.rf c).trans o23) (plX2_wrongInstruction_2 (G := G) n _ _ _ _ _ ((PO.rf c).trans o23).2 k_v2 g_v2)
        · refine Pq.br ?_ ?_
          · exact Pq.s (PO.rf c)
          · refine Pq.ck ?_
            refine Pq.ro (pfX2_hasOperand) fun y13 f25 => ?_
            refine Pq.br ?_ ?_
            · exact Pq.s (PO.rf c)
            · refine Pq.ck ?_
              refine Pq.sv (pfX7_mark (G := G) c k_v2 g_v2) fun  g15 o26 => ?_
              refine Pq.ck ?_
              refine Pq.ro (pfX7_valueAt) fun y16 f27 => ?_
              refine Pq.br ?_ ?_
              · refine Pq.ck ?_
                exact Pq.t3 (((PO.rf c).trans o26).w g_v2) (plX2_wrongInstruction_2 (G := G) n _ _ _ _ _ ((PO.rf c).trans o26).2 k_v2 g_v2)
              · exact Pq.t3 ((PO.rf c).trans o26) (plX2_wrongInstruction_2 (G := G) n _ _ _ _ _ ((PO.rf c).trans o26).2 k_v2 g_v2)
theorem pfX2_wrongInstruction {G : Nat → Prop} {g : hs_S} {v0 : Nat} {v1 : Nat} {v2 : Nat} (c : RO g) (k_v2 : gm_k v2 = 6) (g_v2 : G (ow v2)) : Pq (fX2_wrongInstruction v0 v1 v2 g) (Os G g) := by
  unfold fX2_wrongInstruction jX2_wrongInstruction_55
  refine Pq.s3 (plX2_wrongInstruction_2 (G := G) hs_N _ _ _ _ _ c k_v2 g_v2) fun y1 y2 g3 o4 => ?_
  refine Pq.br ?_ ?_
  · exact Pq.s ((PO.rf c).trans o4)
  · refine Pq.ck ?_
    exact Pq.s ((PO.rf c).trans o4)
theorem pfX7_begins {g : hs_S} {v0 : Nat} {v1 : Int32}  : Pq (fX7_begins v0 v1 g) (Or' g tt) := by
  unfold fX7_begins
  refine Pq.ck ?_
  refine Pq.ro (pfX7_hasPlace) fun y1 f3 => ?_
  refine Pq.br ?_ ?_
  · exact Pq.s ⟨rfl, trivial⟩
  · refine Pq.ck ?_
    refine Pq.ck ?_
    refine Pq.ck ?_
    refine Pq.ck ?_
    refine Pq.br ?_ ?_
    · exact Pq.s ⟨rfl, trivial⟩
    · exact Pq.s ⟨rfl, trivial⟩
theorem pfX7_setHandlerNumber {G : Nat → Prop} {g : hs_S} {v0 : Nat} {v1 : Int32} {v2 : Int32} {v3 : Int32} (c : RO g) (k_v0 : gm_k v0 = 6) (g_v0 : G (ow v0)) : Pq (fX7_setHandlerNumber v0 v1 v2 v3 g) (PO G g) := by
  unfold fX7_setHandlerNumber
  refine Pq.ck ?_
  refine Pq.ck ?_
  refine Pq.sv (pfX9_put (G := G) c (c.2.o k_v0 (by decide) g_v0)) fun  g1 o2 => ?_
  exact Pq.s ((PO.rf c).trans o2)
theorem plX2_wrongHandler_2 {G : Nat → Prop} : ∀ (n : Nat) (v0 : Nat) (v1 : Nat) (v2 : Nat) (v3 : Int32) (g : hs_S), RO g → gm_k v2 = 6 → G (ow v2) → Pq (lX2_wrongHandler_2 n v0 v1 v2 v3 g) (Os3 G g)
  | 0, v0, v1, v2, v3, g, _, _, _ => Pq.n
  | n + 1, v0, v1, v2, v3, g, c, k_v2, g_v2 => by
    rw [lX2_wrongHandler_2]
    unfold jX2_wrongHandler_82 jX2_wrongHandler_86 jX2_wrongHandler_87
    refine Pq.ck ?_
    refine Pq.br ?_ ?_
    · exact Pq.s (PO.rf c)
    · refine Pq.ck ?_
      refine Pq.ro (pfX2_handlerPlace) fun y1 f45 => ?_
      refine Pq.ck ?_
      refine Pq.ro (pfX0_pairAt) fun y3 f46 => ?_
      refine Pq.ck ?_
      refine Pq.ro (pfX0_pairAt) fun y5 f47 => ?_
      refine Pq.ck ?_
      refine Pq.ro (pfX0_pairAt) fun y7 f48 => ?_
      refine Pq.ck ?_
      refine Pq.ro (pfX0_valueAt) fun y9 f49 => ?_
      refine Pq.br ?_ ?_
      · refine Pq.ck ?_
        refine Pq.ro (pfX7_begins) fun y13 f50 => ?_
        refine Pq.br ?_ ?_
        · exact Pq.s (PO.rf c)
        · refine Pq.ck ?_
          refine Pq.ro (pfX7_begins) fun y15 f51 => ?_
          refine Pq.br ?_ ?_
          · exact Pq.s (PO.rf c)
          · refine Pq.br ?_ ?_
            · exact Pq.s (PO.rf c)
            · refine Pq.br ?_ ?_
              · refine Pq.ck ?_
                refine Pq.sv (pfX7_setHandlerNumber (G := G) c k_v2 g_v2) fun  g17 o52 => ?_
                refine Pq.ck ?_
                refine Pq.sv (pfX7_setHandlerNumber (G := G) ((PO.rf c).trans o52).2 k_v2 g_v2) fun  g18 o53 => ?_
                refine Pq.ck ?_
                refine Pq.sv (pfX7_setHandlerNumber (G := G) (((PO.rf c).trans o52).trans o53).2 k_v2 g_v2) fun  g19 o54 => ?_
                refine Pq.ck ?_
                refine Pq.sv (pfX7_setHandlerNumber (G := G) ((((PO.rf c).trans o52).trans o53).trans o54).2 k_v2 g_v2) fun  g20 o55 => ?_
                exact Pq.t3 (((((PO.rf c).trans o52).trans o53).trans o54).trans o55) (plX2_wrongHandler_2 (G := G) n _ _ _ _ _ (((((PO.rf c).trans o52).trans o53).trans o54).trans o55).2 k_v2 g_v2)
              · exact Pq.s (PO.rf c)
      · refine Pq.ck ?_
        refine Pq.ro (pfX7_begins) fun y11 f56 => ?_
        refine Pq.br ?_ ?_
        · refine Pq.ck ?_
          refine Pq.br ?_ ?_
          · refine Pq.ck ?_
            refine Pq.ro (pfX7_begins) fun y21 f57 => ?_
            refine Pq.br ?_ ?_
            · exact Pq.s (PO.rf c)
            · refine Pq.ck ?_
              refine Pq.ro (pfX7_begins) fun y23 f58 => ?_
              refine Pq.br ?_ ?_
              · exact Pq.s (PO.rf c)
              · refine Pq.br ?_ ?_
                · exact Pq.s (PO.rf c)
                · refine Pq.br ?_ ?_
                  · refine Pq.ck ?_
                    refine Pq.sv (pfX7_setHandlerNumber (G := G) c k_v2 g_v2) fun  g25 o59 => ?_
                    refine Pq.ck ?_
                    refine Pq.sv (pfX7_setHandlerNumber (G := G) ((PO.rf c).trans o59).2 k_v2 g_v2) fun  g26 o60 => ?_
                    refine Pq.ck ?_
                    refine Pq.sv (pfX7_setHandlerNumber (G := G) (((PO.rf c).trans o59).trans o60).2 k_v2 g_v2) fun  g27 o61 => ?_
                    refine Pq.ck ?_
                    refine Pq.sv (pfX7_setHandlerNumber (G := G) ((((PO.rf c).trans o59).trans o60).trans o61).2 k_v2 g_v2) fun  g28 o62 => ?_
                    exact Pq.t3 (((((PO.rf c).trans o59).trans o60).trans o61).trans o62) (plX2_wrongHandler_2 (G := G) n _ _ _ _ _ (((((PO.rf c).trans o59).trans o60).trans o61).trans o62).2 k_v2 g_v2)
                  · exact Pq.s (PO.rf c)
          · refine Pq.ck ?_
            refine Pq.ro (pfX7_begins) fun y29 f63 => ?_
            refine Pq.br ?_ ?_
            · exact Pq.s (PO.rf c)
            · refine Pq.ck ?_
              refine Pq.ro (pfX7_begins) fun y31 f64 => ?_
              refine Pq.br ?_ ?_
              · exact Pq.s (PO.rf c)
              · refine Pq.br ?_ ?_
                · exact Pq.s (PO.rf c)
                · refine Pq.br ?_ ?_
                  · refine Pq.ck ?_
                    refine Pq.sv (pfX7_setHandlerNumber (G := G) c k_v2 g_v2) fun  g33 o65 => ?_
                    refine Pq.ck ?_
                    refine Pq.sv (pfX7_setHandlerNumber (G := G) ((PO.rf c).trans o65).2 k_v2 g_v2) fun  g34 o66 => ?_
                    refine Pq.ck ?_
                    refine Pq.sv (pfX7_setHandlerNumber (G := G) (((PO.rf c).trans o65).trans o66).2 k_v2 g_v2) fun  g35 o67 => ?_
                    refine Pq.ck ?_
                    refine Pq.sv (pfX7_setHandlerNumber (G := G) ((((PO.rf c).trans o65).trans o66).trans o67).2 k_v2 g_v2) fun  g36 o68 => ?_
                    exact Pq.t3 (((((PO.rf c).trans o65).trans o66).trans o67).trans o68) (plX2_wrongHandler_2 (G := G) n _ _ _ _ _ (((((PO.rf c).trans o65).trans o66).trans o67).trans o68).2 k_v2 g_v2)
                  · exact Pq.s (PO.rf c)
        · refine Pq.ck ?_
          refine Pq.ro (pfX7_begins) fun y37 f69 => ?_
          refine Pq.br ?_ ?_
          · exact Pq.s (PO.rf c)
          · refine Pq.ck ?_
            refine Pq.ro (pfX7_begins) fun y39 f70 => ?_
            refine Pq.br ?_ ?_
            · exact Pq.s (PO.rf c)
            · refine Pq.br ?_ ?_
              · exact Pq.s (PO.rf c)
              · refine Pq.br ?_ ?_
                · refine Pq.ck ?_
                  refine Pq.sv (pfX7_setHandlerNumber (G := G) c k_v2 g_v2) fun  g41 o71 => ?_
                  refine Pq.ck ?_
                  refine Pq.sv (pfX7_setHandlerNumber (G := G) ((PO.rf c).trans o71).2 k_v2 g_v2) fun  g42 o72 => ?_
                  refine Pq.ck ?_
                  refine Pq.sv (pfX7_setHandlerNumber (G := G) (((PO.rf c).trans o71).trans o72).2 k_v2 g_v2) fun  g43 o73 => ?_
                  refine Pq.ck ?_
                  refine Pq.sv (pfX7_setHandlerNumber (G := G) ((((PO.rf c).trans o71).trans o72).trans o73).2 k_v2 g_v2) fun  g44 o74 => ?_
                  exact Pq.t3 (((((PO.rf c).trans o71).trans o72).trans o73).trans o74) (plX2_wrongHandler_2 (G := G) n _ _ _ _ _ (((((PO.rf c).trans o71).trans o72).trans o73).trans o74).2 k_v2 g_v2)
                · exact Pq.s (PO.rf c)
theorem pfX2_wrongHandler {G : Nat → Prop} {g : hs_S} {v0 : Nat} {v1 : Nat} {v2 : Nat} (c : RO g) (k_v2 : gm_k v2 = 6) (g_v2 : G (ow v2)) : Pq (fX2_wrongHandler v0 v1 v2 g) (Os G g) := by
  unfold fX2_wrongHandler
  refine Pq.s3 (plX2_wrongHandler_2 (G := G) hs_N _ _ _ _ _ c k_v2 g_v2) fun y1 y2 g3 o4 => ?_
  refine Pq.br ?_ ?_
  · exact Pq.s ((PO.rf c).trans o4)
  · exact Pq.s ((PO.rf c).trans o4)
theorem pfX4_isJump {g : hs_S} {v0 : Int32}  : Pq (fX4_isJump v0 g) (Or' g tt) := by
  unfold fX4_isJump jX4_isJump_21
  refine Pq.ro (pfX4_isBranch) fun y1 f3 => ?_
  refine Pq.br ?_ ?_
  · refine Pq.br ?_ ?_
    · exact Pq.s ⟨rfl, trivial⟩
    · refine Pq.br ?_ ?_
      · exact Pq.s ⟨rfl, trivial⟩
      · exact Pq.s ⟨rfl, trivial⟩
  · exact Pq.s ⟨rfl, trivial⟩
theorem pfX7_jumpsAt {g : hs_S} {v0 : Nat} {v1 : Int32}  : Pq (fX7_jumpsAt v0 v1 g) (Or' g tt) := by
  unfold fX7_jumpsAt
  refine Pq.ck ?_
  refine Pq.ro (pfX7_begins) fun y1 f7 => ?_
  refine Pq.br ?_ ?_
  · exact Pq.s ⟨rfl, trivial⟩
  · refine Pq.ck ?_
    refine Pq.ro (pfX7_valueAt) fun y3 f8 => ?_
    refine Pq.ro (pfX4_isJump) fun y5 f9 => ?_
    refine Pq.br ?_ ?_
    · exact Pq.s ⟨rfl, trivial⟩
    · exact Pq.s ⟨rfl, trivial⟩
theorem pfX7_targetOf {g : hs_S} {v0 : Nat} {v1 : Int32}  : Pq (fX7_targetOf v0 v1 g) (Or' g tt) := by
  unfold fX7_targetOf
  refine Pq.ck ?_
  refine Pq.ro (pfX7_valueAt) fun y1 f7 => ?_
  refine Pq.ck ?_
  refine Pq.ro (pfX7_valueAt) fun y3 f8 => ?_
  refine Pq.br ?_ ?_
  · refine Pq.ck ?_
    refine Pq.ro (pfX7_valueAt) fun y5 f9 => ?_
    exact Pq.s ⟨rfl, trivial⟩
  · exact Pq.s ⟨rfl, trivial⟩
theorem plX2_wrongJump_2 : ∀ (n : Nat) (v1 : Nat) (v2 : Int32) (g : hs_S), Pq (lX2_wrongJump_2 n v1 v2 g) (Or3 g)
  | 0, v1, v2, g => Pq.n
  | n + 1, v1, v2, g => by
    rw [lX2_wrongJump_2]
    unfold jX2_wrongJump_37
    refine Pq.ck ?_
    refine Pq.br ?_ ?_
    · exact Pq.s rfl
    · refine Pq.ro (pfX7_jumpsAt) fun y1 f7 => ?_
      refine Pq.br ?_ ?_
      · exact (plX2_wrongJump_2 n _ _ _)
      · refine Pq.ck ?_
        refine Pq.ro (pfX7_targetOf) fun y3 f8 => ?_
        refine Pq.ck ?_
        refine Pq.ro (pfX7_begins) fun y5 f9 => ?_
        refine Pq.br ?_ ?_
        · exact Pq.s rfl
        · exact (plX2_wrongJump_2 n _ _ _)
theorem pfX2_wrongJump {g : hs_S} {v0 : Nat} {v1 : Nat}  : Pq (fX2_wrongJump v0 v1 g) (Or' g tt) := by
  unfold fX2_wrongJump
  refine Pq.r3 (plX2_wrongJump_2 hs_N _ _ _) fun y1 y2 => ?_
  refine Pq.br ?_ ?_
  · exact Pq.s ⟨rfl, trivial⟩
  · refine Pq.ck ?_
    exact Pq.s ⟨rfl, trivial⟩
theorem pfX4_endsWay {g : hs_S} {v0 : Int32}  : Pq (fX4_endsWay v0 g) (Or' g tt) := by
  unfold fX4_endsWay jX4_endsWay_28
  refine Pq.br ?_ ?_
  · exact Pq.s ⟨rfl, trivial⟩
  · refine Pq.br ?_ ?_
    · exact Pq.s ⟨rfl, trivial⟩
    · refine Pq.br ?_ ?_
      · exact Pq.s ⟨rfl, trivial⟩
      · refine Pq.br ?_ ?_
        · exact Pq.s ⟨rfl, trivial⟩
        · exact Pq.s ⟨rfl, trivial⟩
theorem pfX7_handlerNumber {g : hs_S} {v0 : Nat} {v1 : Int32} {v2 : Int32}  : Pq (fX7_handlerNumber v0 v1 v2 g) (Or' g tt) := by
  unfold fX7_handlerNumber
  refine Pq.ck ?_
  refine Pq.ck ?_
  refine Pq.ro (pfX9_at) fun y1 f3 => ?_
  exact Pq.s ⟨rfl, trivial⟩
theorem pfX7_beginsBlock {g : hs_S} {v0 : Nat} {v1 : Int32}  : Pq (fX7_beginsBlock v0 v1 g) (Or' g tt) := by
  unfold fX7_beginsBlock
  refine Pq.ck ?_
  refine Pq.ro (pfX7_hasPlace) fun y1 f3 => ?_
  refine Pq.br ?_ ?_
  · exact Pq.s ⟨rfl, trivial⟩
  · refine Pq.ck ?_
    refine Pq.ck ?_
    refine Pq.ck ?_
    refine Pq.ck ?_
    refine Pq.br ?_ ?_
    · exact Pq.s ⟨rfl, trivial⟩
    · exact Pq.s ⟨rfl, trivial⟩
theorem plX2_markBlocks_10 {G : Nat → Prop} : ∀ (n : Nat) (v1 : Nat) (v2 : Int32) (g : hs_S), RO g → gm_k v1 = 6 → G (ow v1) → Pq (lX2_markBlocks_10 n v1 v2 g) (PO G g)
  | 0, v1, v2, g, _, _, _ => Pq.n
  | n + 1, v1, v2, g, c, k_v1, g_v1 => by
    rw [lX2_markBlocks_10]
    unfold jX2_markBlocks_38 jX2_markBlocks_61 jX2_markBlocks_62 jX2_markBlocks_75 jX2_markBlocks_89
    refine Pq.ck ?_
    refine Pq.br ?_ ?_
    · exact Pq.s (PO.rf c)
    · refine Pq.ro (pfX7_jumpsAt) fun y1 f66 => ?_
      refine Pq.br ?_ ?_
      · refine Pq.ck ?_
        refine Pq.ro (pfX7_begins) fun y6 f67 => ?_
        refine Pq.br ?_ ?_
        · refine Pq.br ?_ ?_
          · refine Pq.ck ?_
            refine Pq.ro (pfX7_jumpsAt) fun y12 f68 => ?_
            refine Pq.br ?_ ?_
            · exact Pq.tv (PO.rf c) (plX2_markBlocks_10 (G := G) n _ _ _ c k_v1 g_v1)
            · refine Pq.ck ?_
              refine Pq.ro (pfX7_sizeAt) fun y14 f69 => ?_
              refine Pq.ck ?_
              refine Pq.sv (pfX7_mark (G := G) c k_v1 g_v1) fun  g16 o70 => ?_
              exact Pq.tv ((PO.rf c).trans o70) (plX2_markBlocks_10 (G := G) n _ _ _ ((PO.rf c).trans o70).2 k_v1 g_v1)
          · refine Pq.ck ?_
            refine Pq.ro (pfX7_sizeAt) fun y17 f71 => ?_
            refine Pq.ck ?_
            refine Pq.sv (pfX7_mark (G := G) c k_v1 g_v1) fun  g19 o72 => ?_
            exact Pq.tv ((PO.rf c).trans o72) (plX2_markBlocks_10 (G := G) n _ _ _ ((PO.rf c).trans o72).2 k_v1 g_v1)
        · refine Pq.ck ?_
          refine Pq.ro (pfX7_valueAt) fun y8 f73 => ?_
          refine Pq.ro (pfX4_endsWay) fun y10 f74 => ?_
          refine Pq.br ?_ ?_
          · refine Pq.br ?_ ?_
            · refine Pq.ck ?_
              refine Pq.ro (pfX7_jumpsAt) fun y20 f75 => ?_
              refine Pq.br ?_ ?_
              · exact Pq.tv (PO.rf c) (plX2_markBlocks_10 (G := G) n _ _ _ c k_v1 g_v1)
              · refine Pq.ck ?_
                refine Pq.ro (pfX7_sizeAt) fun y22 f76 => ?_
                refine Pq.ck ?_
                refine Pq.sv (pfX7_mark (G := G) c k_v1 g_v1) fun  g24 o77 => ?_
                exact Pq.tv ((PO.rf c).trans o77) (plX2_markBlocks_10 (G := G) n _ _ _ ((PO.rf c).trans o77).2 k_v1 g_v1)
            · refine Pq.ck ?_
              refine Pq.ro (pfX7_sizeAt) fun y25 f78 => ?_
              refine Pq.ck ?_
              refine Pq.sv (pfX7_mark (G := G) c k_v1 g_v1) fun  g27 o79 => ?_
              exact Pq.tv ((PO.rf c).trans o79) (plX2_markBlocks_10 (G := G) n _ _ _ ((PO.rf c).trans o79).2 k_v1 g_v1)
          · refine Pq.br ?_ ?_
            · refine Pq.ck ?_
              refine Pq.ro (pfX7_jumpsAt) fun y28 f80 => ?_
              refine Pq.br ?_ ?_
              · exact Pq.tv (PO.rf c) (plX2_markBlocks_10 (G := G) n _ _ _ c k_v1 g_v1)
              · refine Pq.ck ?_
                refine Pq.ro (pfX7_sizeAt) fun y30 f81 => ?_
                refine Pq.ck ?_
                refine Pq.sv (pfX7_mark (G := G) c k_v1 g_v1) fun  g32 o82 => ?_
                exact Pq.tv ((PO.rf c).trans o82) (plX2_markBlocks_10 (G := G) n _ _ _ ((PO.rf c).trans o82).2 k_v1 g_v1)
            · refine Pq.ck ?_
              refine Pq.ro (pfX7_sizeAt) fun y33 f83 => ?_
              refine Pq.ck ?_
              refine Pq.sv (pfX7_mark (G := G) c k_v1 g_v1) fun  g35 o84 => ?_
              exact Pq.tv ((PO.rf c).trans o84) (plX2_markBlocks_10 (G := G) n _ _ _ ((PO.rf c).trans o84).2 k_v1 g_v1)
      · refine Pq.ck ?_
        refine Pq.ro (pfX7_targetOf) fun y3 f85 => ?_
        refine Pq.ck ?_
        refine Pq.sv (pfX7_mark (G := G) c k_v1 g_v1) fun  g5 o86 => ?_
        refine Pq.ck ?_
        refine Pq.ro (pfX7_begins) fun y36 f87 => ?_
        refine Pq.br ?_ ?_
        · refine Pq.br ?_ ?_
          · refine Pq.ck ?_
            refine Pq.ro (pfX7_jumpsAt) fun y42 f88 => ?_
            refine Pq.br ?_ ?_
            · exact Pq.tv ((PO.rf c).trans o86) (plX2_markBlocks_10 (G := G) n _ _ _ ((PO.rf c).trans o86).2 k_v1 g_v1)
            · refine Pq.ck ?_
              refine Pq.ro (pfX7_sizeAt) fun y44 f89 => ?_
              refine Pq.ck ?_
              refine Pq.sv (pfX7_mark (G := G) ((PO.rf c).trans o86).2 k_v1 g_v1) fun  g46 o90 => ?_
              exact Pq.tv (((PO.rf c).trans o86).trans o90) (plX2_markBlocks_10 (G := G) n _ _ _ (((PO.rf c).trans o86).trans o90).2 k_v1 g_v1)
          · refine Pq.ck ?_
            refine Pq.ro (pfX7_sizeAt) fun y47 f91 => ?_
            refine Pq.ck ?_
            refine Pq.sv (pfX7_mark (G := G) ((PO.rf c).trans o86).2 k_v1 g_v1) fun  g49 o92 => ?_
            exact Pq.tv (((PO.rf c).trans o86).trans o92) (plX2_markBlocks_10 (G := G) n _ _ _ (((PO.rf c).trans o86).trans o92).2 k_v1 g_v1)
        · refine Pq.ck ?_
          refine Pq.ro (pfX7_valueAt) fun y38 f93 => ?_
          refine Pq.ro (pfX4_endsWay) fun y40 f94 => ?_
          refine Pq.br ?_ ?_
          · refine Pq.br ?_ ?_
            · refine Pq.ck ?_
              refine Pq.ro (pfX7_jumpsAt) fun y50 f95 => ?_
              refine Pq.br ?_ ?_
              · exact Pq.tv ((PO.rf c).trans o86) (plX2_markBlocks_10 (G := G) n _ _ _ ((PO.rf c).trans o86).2 k_v1 g_v1)
              · refine Pq.ck ?_
                refine Pq.ro (pfX7_sizeAt) fun y52 f96 => ?_
                refine Pq.ck ?_
                refine Pq.sv (pfX7_mark (G := G) ((PO.rf c).trans o86).2 k_v1 g_v1) fun  g54 o97 => ?_
                exact Pq.tv (((PO.rf c).trans o86).trans o97) (plX2_markBlocks_10 (G := G) n _ _ _ (((PO.rf c).trans o86).trans o97).2 k_v1 g_v1)
            · refine Pq.ck ?_
              refine Pq.ro (pfX7_sizeAt) fun y55 f98 => ?_
              refine Pq.ck ?_
              refine Pq.sv (pfX7_mark (G := G) ((PO.rf c).trans o86).2 k_v1 g_v1) fun  g57 o99 => ?_
              exact Pq.tv (((PO.rf c).trans o86).trans o99) (plX2_markBlocks_10 (G := G) n _ _ _ (((PO.rf c).trans o86).trans o99).2 k_v1 g_v1)
          · refine Pq.br ?_ ?_
            · refine Pq.ck ?_
              refine Pq.ro (pfX7_jumpsAt) fun y58 f100 => ?_
              refine Pq.br ?_ ?_
              · exact Pq.tv ((PO.rf c).trans o86) (plX2_markBlocks_10 (G := G) n _ _ _ ((PO.rf c).trans o86).2 k_v1 g_v1)
              · refine Pq.ck ?_
                refine Pq.ro (pfX7_sizeAt) fun y60 f101 => ?_
                refine Pq.ck ?_
                refine Pq.sv (pfX7_mark (G := G) ((PO.rf c).trans o86).2 k_v1 g_v1) fun  g62 o102 => ?_
                exact Pq.tv (((PO.rf c).trans o86).trans o102) (plX2_markBlocks_10 (G := G) n _ _ _ (((PO.rf c).trans o86).trans o102).2 k_v1 g_v1)
            · refine Pq.ck ?_
              refine Pq.ro (pfX7_sizeAt) fun y63 f103 => ?_
              refine Pq.ck ?_
              refine Pq.sv (pfX7_mark (G := G) ((PO.rf c).trans o86).2 k_v1 g_v1) fun  g65 o104 => ?_
              exact Pq.tv (((PO.rf c).trans o86).trans o104) (plX2_markBlocks_10 (G := G) n _ _ _ (((PO.rf c).trans o86).trans o104).2 k_v1 g_v1)
theorem plX2_markBlocks_97 {G : Nat → Prop} : ∀ (n : Nat) (v1 : Nat) (v2 : Int32) (g : hs_S), RO g → gm_k v1 = 6 → G (ow v1) → Pq (lX2_markBlocks_97 n v1 v2 g) (PO G g)
  | 0, v1, v2, g, _, _, _ => Pq.n
  | n + 1, v1, v2, g, c, k_v1, g_v1 => by
    rw [lX2_markBlocks_97]
    refine Pq.ck ?_
    refine Pq.br ?_ ?_
    · exact Pq.s (PO.rf c)
    · refine Pq.ro (pfX7_handlerNumber) fun y1 f4 => ?_
      refine Pq.ck ?_
      refine Pq.sv (pfX7_mark (G := G) c k_v1 g_v1) fun  g3 o5 => ?_
      exact Pq.tv ((PO.rf c).trans o5) (plX2_markBlocks_97 (G := G) n _ _ _ ((PO.rf c).trans o5).2 k_v1 g_v1)
theorem plX2_markBlocks_126 {G : Nat → Prop} : ∀ (n : Nat) (v1 : Nat) (v2 : Int32) (g : hs_S), RO g → G (ow v1) → Pq (lX2_markBlocks_126 n v1 v2 g) (PO G g)
  | 0, v1, v2, g, _, _ => Pq.n
  | n + 1, v1, v2, g, c, g_v1 => by
    rw [lX2_markBlocks_126]
    unfold jX2_markBlocks_152
    refine Pq.ck ?_
    refine Pq.br ?_ ?_
    · exact Pq.s (PO.rf c)
    · refine Pq.ro (pfX7_beginsBlock) fun y1 f3 => ?_
      refine Pq.br ?_ ?_
      · refine Pq.ck ?_
        exact Pq.tv ((PO.rf c).w g_v1) (plX2_markBlocks_126 (G := G) n _ _ _ c g_v1)
      · refine Pq.ck ?_
        exact Pq.tv ((PO.rf c).w g_v1) (plX2_markBlocks_126 (G := G) n _ _ _ c g_v1)
theorem pfX2_markBlocks {G : Nat → Prop} {g : hs_S} {v0 : Nat} {v1 : Nat} (c : RO g) (k_v1 : gm_k v1 = 6) (g_v1 : G (ow v1)) : Pq (fX2_markBlocks v0 v1 g) (PO G g) := by
  unfold fX2_markBlocks
  refine Pq.ck ?_
  refine Pq.sv (pfX7_mark (G := G) c k_v1 g_v1) fun  g1 o5 => ?_
  refine Pq.sv (plX2_markBlocks_10 (G := G) hs_N _ _ _ ((PO.rf c).trans o5).2 k_v1 g_v1) fun  g2 o6 => ?_
  refine Pq.sv (plX2_markBlocks_97 (G := G) hs_N _ _ _ (((PO.rf c).trans o5).trans o6).2 k_v1 g_v1) fun  g3 o7 => ?_
  refine Pq.sv (plX2_markBlocks_126 (G := G) hs_N _ _ _ ((((PO.rf c).trans o5).trans o6).trans o7).2 g_v1) fun  g4 o8 => ?_
  exact Pq.s (((((PO.rf c).trans o5).trans o6).trans o7).trans o8)
theorem pfX2_wrongInMethod {G : Nat → Prop} {g : hs_S} {v0 : Nat} {v1 : Nat} {v2 : Nat} {v3 : Int32} (c : RO g) (k_v2 : gm_k v2 = 6) (g_v2 : G (ow v2)) : Pq (fX2_wrongInMethod v0 v1 v2 v3 g) (Os G g) := by
  unfold fX2_wrongInMethod jX2_wrongInMethod_30 jX2_wrongInMethod_49 jX2_wrongInMethod_67
  refine Pq.ck ?_
  refine Pq.sv (pfX7_empty (G := G) c g_v2) fun  g1 o26 => ?_
  refine Pq.ck ?_
  refine Pq.st (pfX2_wrongNumber (G := G) ((PO.rf c).trans o26).2 g_v2) fun y2 g3 o27 => ?_
  refine Pq.br ?_ ?_
  · refine Pq.ck ?_
    refine Pq.st (pfX2_wrongInstruction (G := G) (((PO.rf c).trans o26).trans o27).2 k_v2 g_v2) fun y4 g5 o28 => ?_
    refine Pq.br ?_ ?_
    · refine Pq.ck ?_
      refine Pq.st (pfX2_wrongHandler (G := G) ((((PO.rf c).trans o26).trans o27).trans o28).2 k_v2 g_v2) fun y6 g7 o29 => ?_
      refine Pq.br ?_ ?_
      · refine Pq.ck ?_
        refine Pq.ro (pfX2_wrongJump) fun y8 f30 => ?_
        refine Pq.br ?_ ?_
        · refine Pq.ck ?_
          refine Pq.sv (pfX2_markBlocks (G := G) (((((PO.rf c).trans o26).trans o27).trans o28).trans o29).2 k_v2 g_v2) fun  g10 o31 => ?_
          exact Pq.s ((((((PO.rf c).trans o26).trans o27).trans o28).trans o29).trans o31)
        · exact Pq.s (((((PO.rf c).trans o26).trans o27).trans o28).trans o29)
      · refine Pq.br ?_ ?_
        · refine Pq.ck ?_
          refine Pq.sv (pfX2_markBlocks (G := G) (((((PO.rf c).trans o26).trans o27).trans o28).trans o29).2 k_v2 g_v2) fun  g11 o32 => ?_
          exact Pq.s ((((((PO.rf c).trans o26).trans o27).trans o28).trans o29).trans o32)
        · exact Pq.s (((((PO.rf c).trans o26).trans o27).trans o28).trans o29)
    · refine Pq.br ?_ ?_
      · refine Pq.ck ?_
        refine Pq.ro (pfX2_wrongJump) fun y12 f33 => ?_
        refine Pq.br ?_ ?_
        · refine Pq.ck ?_
          refine Pq.sv (pfX2_markBlocks (G := G) ((((PO.rf c).trans o26).trans o27).trans o28).2 k_v2 g_v2) fun  g14 o34 => ?_
          exact Pq.s (((((PO.rf c).trans o26).trans o27).trans o28).trans o34)
        · exact Pq.s ((((PO.rf c).trans o26).trans o27).trans o28)
      · refine Pq.br ?_ ?_
        · refine Pq.ck ?_
          refine Pq.sv (pfX2_markBlocks (G := G) ((((PO.rf c).trans o26).trans o27).trans o28).2 k_v2 g_v2) fun  g15 o35 => ?_
          exact Pq.s (((((PO.rf c).trans o26).trans o27).trans o28).trans o35)
        · exact Pq.s ((((PO.rf c).trans o26).trans o27).trans o28)
  · refine Pq.br ?_ ?_
    · refine Pq.ck ?_
      refine Pq.st (pfX2_wrongHandler (G := G) (((PO.rf c).trans o26).trans o27).2 k_v2 g_v2) fun y16 g17 o36 => ?_
      refine Pq.br ?_ ?_
      · refine Pq.ck ?_
        refine Pq.ro (pfX2_wrongJump) fun y18 f37 => ?_
        refine Pq.br ?_ ?_
        · refine Pq.ck ?_
          refine Pq.sv (pfX2_markBlocks (G := G) ((((PO.rf c).trans o26).trans o27).trans o36).2 k_v2 g_v2) fun  g20 o38 => ?_
          exact Pq.s (((((PO.rf c).trans o26).trans o27).trans o36).trans o38)
        · exact Pq.s ((((PO.rf c).trans o26).trans o27).trans o36)
      · refine Pq.br ?_ ?_
        · refine Pq.ck ?_
          refine Pq.sv (pfX2_markBlocks (G := G) ((((PO.rf c).trans o26).trans o27).trans o36).2 k_v2 g_v2) fun  g21 o39 => ?_
          exact Pq.s (((((PO.rf c).trans o26).trans o27).trans o36).trans o39)
        · exact Pq.s ((((PO.rf c).trans o26).trans o27).trans o36)
    · refine Pq.br ?_ ?_
      · refine Pq.ck ?_
        refine Pq.ro (pfX2_wrongJump) fun y22 f40 => ?_
        refine Pq.br ?_ ?_
        · refine Pq.ck ?_
          refine Pq.sv (pfX2_markBlocks (G := G) (((PO.rf c).trans o26).trans o27).2 k_v2 g_v2) fun  g24 o41 => ?_
          exact Pq.s ((((PO.rf c).trans o26).trans o27).trans o41)
        · exact Pq.s (((PO.rf c).trans o26).trans o27)
      · refine Pq.br ?_ ?_
        · refine Pq.ck ?_
          refine Pq.sv (pfX2_markBlocks (G := G) (((PO.rf c).trans o26).trans o27).2 k_v2 g_v2) fun  g25 o42 => ?_
          exact Pq.s ((((PO.rf c).trans o26).trans o27).trans o42)
        · exact Pq.s (((PO.rf c).trans o26).trans o27)
theorem plX1_findLowest_0 {G : Nat → Prop} : ∀ (n : Nat) (v0 : Nat) (v1 : Int32) (g : hs_S), RO g → G (ow v0) → Pq (lX1_findLowest_0 n v0 v1 g) (Os G g)
  | 0, v0, v1, g, _, _ => Pq.n
  | n + 1, v0, v1, g, c, g_v0 => by
    rw [lX1_findLowest_0]
    unfold jX1_findLowest_39
    refine Pq.ck ?_
    refine Pq.br ?_ ?_
    · exact Pq.s (PO.rf c)
    · refine Pq.ck ?_
      refine Pq.ro (pfX9_at) fun y1 f5 => ?_
      refine Pq.br ?_ ?_
      · refine Pq.ck ?_
        exact Pq.to ((PO.rf c).w g_v0) (plX1_findLowest_0 (G := G) n _ _ _ c g_v0)
      · refine Pq.ck ?_
        refine Pq.ck ?_
        refine Pq.ro (pfX9_at) fun y3 f6 => ?_
        refine Pq.br ?_ ?_
        · exact Pq.s (PO.rf c)
        · refine Pq.ck ?_
          exact Pq.to ((PO.rf c).w g_v0) (plX1_findLowest_0 (G := G) n _ _ _ c g_v0)
theorem pfX1_findLowest {G : Nat → Prop} {g : hs_S} {v0 : Nat} {v1 : Int32} (c : RO g) (g_v0 : G (ow v0)) : Pq (fX1_findLowest v0 v1 g) (Os G g) := by
  unfold fX1_findLowest
  refine Pq.st (plX1_findLowest_0 (G := G) hs_N _ _ _ c g_v0) fun y1 g2 o3 => ?_
  refine Pq.br ?_ ?_
  · exact Pq.s ((PO.rf c).trans o3)
  · exact Pq.s ((PO.rf c).trans o3)
theorem pfX4_takes {g : hs_S} {v0 : Int32}  : Pq (fX4_takes v0 g) (Or' g tt) := by
  unfold fX4_takes
  refine Pq.br ?_ ?_
  · exact Pq.s ⟨rfl, trivial⟩
  · refine Pq.br ?_ ?_
    · exact Pq.s ⟨rfl, trivial⟩
    · refine Pq.br ?_ ?_
      · exact Pq.s ⟨rfl, trivial⟩
      · refine Pq.br ?_ ?_
        · exact Pq.s ⟨rfl, trivial⟩
        · refine Pq.br ?_ ?_
          · exact Pq.s ⟨rfl, trivial⟩
          · refine Pq.br ?_ ?_
            · exact Pq.s ⟨rfl, trivial⟩
            · refine Pq.br ?_ ?_
              · exact Pq.s ⟨rfl, trivial⟩
              · refine Pq.br ?_ ?_
                · exact Pq.s ⟨rfl, trivial⟩
                · refine Pq.ro (pfX4_isOfTwo) fun y1 f5 => ?_
                  refine Pq.br ?_ ?_
                  · refine Pq.ro (pfX4_isBranch) fun y3 f6 => ?_
                    refine Pq.br ?_ ?_
                    · exact Pq.s ⟨rfl, trivial⟩
                    · exact Pq.s ⟨rfl, trivial⟩
                  · exact Pq.s ⟨rfl, trivial⟩
theorem pfX4_gives {g : hs_S} {v0 : Int32}  : Pq (fX4_gives v0 g) (Or' g tt) := by
  unfold fX4_gives
  refine Pq.br ?_ ?_
  · exact Pq.s ⟨rfl, trivial⟩
  · refine Pq.br ?_ ?_
    · exact Pq.s ⟨rfl, trivial⟩
    · refine Pq.br ?_ ?_
      · exact Pq.s ⟨rfl, trivial⟩
      · refine Pq.br ?_ ?_
        · exact Pq.s ⟨rfl, trivial⟩
        · refine Pq.br ?_ ?_
          · exact Pq.s ⟨rfl, trivial⟩
          · refine Pq.br ?_ ?_
            · exact Pq.s ⟨rfl, trivial⟩
            · refine Pq.br ?_ ?_
              · exact Pq.s ⟨rfl, trivial⟩
              · refine Pq.br ?_ ?_
                · exact Pq.s ⟨rfl, trivial⟩
                · refine Pq.ro (pfX4_isOfTwo) fun y1 f3 => ?_
                  refine Pq.br ?_ ?_
                  · exact Pq.s ⟨rfl, trivial⟩
                  · exact Pq.s ⟨rfl, trivial⟩
theorem pfX1_reach {G : Nat → Prop} {g : hs_S} {v0 : Nat} {v1 : Int32} {v2 : Int32} (c : RO g) (k_v0 : gm_k v0 = 1) (g_v0 : G (ow v0)) : Pq (fX1_reach v0 v1 v2 g) (Os G g) := by
  unfold fX1_reach
  refine Pq.ck ?_
  refine Pq.ck ?_
  refine Pq.ro (pfX9_at) fun y1 f4 => ?_
  refine Pq.br ?_ ?_
  · refine Pq.ck ?_
    refine Pq.ck ?_
    refine Pq.sv (pfX9_put (G := G) c (c.2.o k_v0 (by decide) g_v0)) fun  g3 o5 => ?_
    refine Pq.ck ?_
    exact Pq.s (((PO.rf c).trans o5).w g_v0)
  · refine Pq.br ?_ ?_
    · exact Pq.s (PO.rf c)
    · exact Pq.s (PO.rf c)
