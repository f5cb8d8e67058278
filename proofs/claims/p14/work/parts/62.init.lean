/-! THE CONSTRUCTORS: beyond the cells that were made there is none (wip/gen/aq.py) -/
def PW (s : hs_S) : Prop := ∀ a, s.1 ≤ a → s.2.1 a = 999 ∧ s.2.2.1 a = 0
theorem PW.wI {s : hs_S} (h : PW s) {a j : Nat} {v : Int32} : PW (hs_wI s a j v) := h
theorem PW.wR {s : hs_S} (h : PW s) {a j : Nat} {v : Nat} : PW (hs_wR s a j v) := h
theorem PW.new {s : hs_S} (h : PW s) {k n : Nat} : PW (hs_new s k n) := by
  intro a ha
  have ha' : s.1 + 1 ≤ a := ha
  show (if a = s.1 then k else s.2.1 a) = 999 ∧ (if a = s.1 then n else s.2.2.1 a) = 0
  rw [if_neg (by omega), if_neg (by omega)]
  exact h a (by omega)
def Aq (x : Option hs_S) : Prop := ∀ q, x = some q → PW q
def Ad {α : Type} (x : Option (α × hs_S)) : Prop := ∀ q, x = some q → PW q.2
theorem Aq.s {s : hs_S} (h : PW s) : Aq (Option.some s) := fun q e => by cases e; exact h
theorem Ad.s {α : Type} {r : α} {s : hs_S} (h : PW s) : Ad (Option.some (r, s)) := fun q e => by cases e; exact h
theorem Aq.ck {c : Prop} {i : Decidable c} {x : Option hs_S} (h : Aq x) : Aq (@ite _ c i x none) := by
  by_cases k : c
  · rw [if_pos k]; exact h
  · rw [if_neg k]; intro q e; cases e
theorem Ad.ck {α : Type} {c : Prop} {i : Decidable c} {x : Option (α × hs_S)} (h : Ad x) : Ad (@ite _ c i x none) := by
  by_cases k : c
  · rw [if_pos k]; exact h
  · rw [if_neg k]; intro q e; cases e
theorem Aq.br {c : Prop} {i : Decidable c} {x y : Option hs_S} (h : Aq x) (h' : Aq y) : Aq (@ite _ c i x y) := by
  by_cases k : c
  · rw [if_pos k]; exact h
  · rw [if_neg k]; exact h'
theorem Ad.br {α : Type} {c : Prop} {i : Decidable c} {x y : Option (α × hs_S)} (h : Ad x) (h' : Ad y) : Ad (@ite _ c i x y) := by
  by_cases k : c
  · rw [if_pos k]; exact h
  · rw [if_neg k]; exact h'
theorem Aq.sm {E : hs_S} {f : hs_S → Option hs_S} (h : PW E) (k : ∀ g, PW g → Aq (f g)) : Aq (hs_bv (Option.some E) f) := k E h
theorem Aq.bv {x : Option hs_S} {f : hs_S → Option hs_S} (h : Aq x) (k : ∀ g, PW g → Aq (f g)) : Aq (hs_bv x f) := by
  cases e : x with
  | none => intro q e2; cases e2
  | some s => exact k s (h s e)
theorem Aq.bd {α : Type} {x : Option (α × hs_S)} {f : α → hs_S → Option hs_S} (h : Ad x) (k : ∀ r g, PW g → Aq (f r g)) : Aq (hs_bd x f) := by
  cases e : x with
  | none => intro q e2; cases e2
  | some s => exact k s.1 s.2 (h s e)
theorem afX7_init {g : hs_S} {v0 : Nat} {v1 : Nat} (h : PW g) : Aq (fX7_init v0 v1 g) := by
  unfold fX7_init
  refine Aq.ck ?_
  exact Aq.s (PW.wR (PW.wR (PW.new h)))
theorem alX0_init_36 : ∀ (n : Nat) (v0 : Nat) (v2 : Int32) (g : hs_S), PW g → Aq (lX0_init_36 n v0 v2 g)
  | 0, v0, v2, g, _ => fun q e => by cases e
  | n + 1, v0, v2, g, h => by
    rw [lX0_init_36]
    refine Aq.br ?_ ?_
    · exact Aq.s h
    · refine Aq.ck ?_
      refine Aq.ck ?_
      refine Aq.ck ?_
      refine Aq.ck ?_
      refine Aq.bv (afX7_init (PW.new h)) fun g1 hg1 => ?_
      refine Aq.ck ?_
      refine Aq.ck ?_
      refine Aq.ck ?_
      exact (alX0_init_36 n _ _ _ (PW.wR hg1))
theorem afX0_init {g : hs_S} {v0 : Nat} {v1 : Int32} (h : PW g) : Aq (fX0_init v0 v1 g) := by
  unfold fX0_init
  refine Aq.ck ?_
  refine Aq.sm (PW.wR (PW.new h)) fun g1 hg1 => ?_
  refine Aq.sm (PW.new hg1) fun g2 hg2 => ?_
  refine Aq.bv (afX7_init (PW.new hg2)) fun g3 hg3 => ?_
  refine Aq.ck ?_
  refine Aq.sm (PW.wR hg3) fun g4 hg4 => ?_
  refine Aq.ck ?_
  refine Aq.ck ?_
  refine Aq.ck ?_
  refine Aq.bv (alX0_init_36 hs_N _ _ _ (PW.wR (PW.new hg4))) fun g5 hg5 => ?_
  exact Aq.s hg5
theorem alJ7_fill_53178_5 : ∀ (n : Nat) (v0 : Nat) (v1 : Int32) (v2 : Int32) (v3 : Int32) (g : hs_S), PW g → Aq (lJ7_fill_53178_5 n v0 v1 v2 v3 g)
  | 0, v0, v1, v2, v3, g, _ => fun q e => by cases e
  | n + 1, v0, v1, v2, v3, g, h => by
    rw [lJ7_fill_53178_5]
    refine Aq.br ?_ ?_
    · exact Aq.s h
    · refine Aq.ck ?_
      refine Aq.ck ?_
      exact (alJ7_fill_53178_5 n _ _ _ _ _ (PW.wI h))
theorem afJ7_fill_53178 {g : hs_S} {v0 : Nat} {v1 : Int32} (h : PW g) : Aq (fJ7_fill_53178 v0 v1 g) := by
  unfold fJ7_fill_53178
  refine Aq.ck ?_
  refine Aq.bv (alJ7_fill_53178_5 hs_N _ _ _ _ _ h) fun g1 hg1 => ?_
  exact Aq.s hg1
theorem afX9_put {g : hs_S} {v0 : Nat} {v1 : Int32} {v2 : Int32} (h : PW g) : Aq (fX9_put v0 v1 v2 g) := by
  unfold fX9_put
  refine Aq.br ?_ ?_
  · exact Aq.s h
  · refine Aq.ck ?_
    refine Aq.br ?_ ?_
    · exact Aq.s h
    · refine Aq.ck ?_
      exact Aq.s (PW.wI h)
theorem afX8_becomeFirst {g : hs_S} {v0 : Nat} (h : PW g) : Aq (fX8_becomeFirst v0 g) := by
  unfold fX8_becomeFirst
  refine Aq.ck ?_
  refine Aq.ck ?_
  refine Aq.bv (afJ7_fill_53178 h) fun g1 hg1 => ?_
  refine Aq.ck ?_
  refine Aq.ck ?_
  refine Aq.bv (afX9_put hg1) fun g2 hg2 => ?_
  exact Aq.s hg2
theorem afX8_init {g : hs_S} {v0 : Nat} (h : PW g) : Aq (fX8_init v0 g) := by
  unfold fX8_init
  refine Aq.ck ?_
  refine Aq.bv (afX8_becomeFirst (PW.wR (PW.new h))) fun g1 hg1 => ?_
  exact Aq.s hg1
theorem afX1_init {g : hs_S} {v0 : Nat} (h : PW g) : Aq (fX1_init v0 g) := by
  unfold fX1_init
  refine Aq.ck ?_
  refine Aq.sm (PW.wR (PW.new h)) fun g1 hg1 => ?_
  refine Aq.ck ?_
  exact Aq.s (PW.wR (PW.new hg1))
theorem afX2_init {g : hs_S} {v0 : Nat} (h : PW g) : Aq (fX2_init v0 g) := by
  unfold fX2_init
  refine Aq.bv (afX1_init (PW.new h)) fun g1 hg1 => ?_
  refine Aq.ck ?_
  exact Aq.s (PW.wR hg1)
theorem afX5_init {g : hs_S} {v0 : Nat} (h : PW g) : Aq (fX5_init v0 g) := by
  unfold fX5_init
  refine Aq.ck ?_
  refine Aq.sm (PW.wR (PW.new h)) fun g1 hg1 => ?_
  refine Aq.ck ?_
  refine Aq.sm (PW.wR (PW.new hg1)) fun g2 hg2 => ?_
  refine Aq.ck ?_
  refine Aq.sm (PW.wR (PW.new hg2)) fun g3 hg3 => ?_
  refine Aq.ck ?_
  exact Aq.s (PW.wR (PW.new hg3))
theorem afX10_init {g : hs_S} {v0 : Nat} (h : PW g) : Aq (fX10_init v0 g) := by
  unfold fX10_init
  refine Aq.ck ?_
  refine Aq.sm (PW.wR (PW.new h)) fun g1 hg1 => ?_
  refine Aq.ck ?_
  exact Aq.s (PW.wR (PW.new hg1))
theorem afX0_method {g : hs_S} {v0 : Nat} {v1 : Int32} (h : PW g) : Ad (fX0_method v0 v1 g) := by
  unfold fX0_method
  refine Ad.br ?_ ?_
  · refine Ad.ck ?_
    refine Ad.ck ?_
    exact Ad.s h
  · refine Ad.br ?_ ?_
    · refine Ad.ck ?_
      refine Ad.ck ?_
      exact Ad.s h
    · refine Ad.ck ?_
      refine Ad.ck ?_
      refine Ad.ck ?_
      refine Ad.ck ?_
      refine Ad.ck ?_
      exact Ad.s h
theorem afX3_init {g : hs_S} {v0 : Nat} {v1 : Nat} (h : PW g) : Aq (fX3_init v0 v1 g) := by
  unfold fX3_init
  refine Aq.ck ?_
  refine Aq.sm (PW.wR (PW.new h)) fun g1 hg1 => ?_
  refine Aq.ck ?_
  exact Aq.s (PW.wR (PW.wR (PW.new hg1)))
theorem alX6_init_31 : ∀ (n : Nat) (v0 : Nat) (v1 : Nat) (v2 : Int32) (g : hs_S), PW g → Aq (lX6_init_31 n v0 v1 v2 g)
  | 0, v0, v1, v2, g, _ => fun q e => by cases e
  | n + 1, v0, v1, v2, g, h => by
    rw [lX6_init_31]
    refine Aq.br ?_ ?_
    · exact Aq.s h
    · refine Aq.ck ?_
      refine Aq.ck ?_
      refine Aq.ck ?_
      refine Aq.bd (afX0_method (PW.new h)) fun y1 g2 hg2 => ?_
      refine Aq.bv (afX3_init hg2) fun g3 hg3 => ?_
      refine Aq.ck ?_
      refine Aq.ck ?_
      refine Aq.ck ?_
      exact (alX6_init_31 n _ _ _ _ (PW.wR hg3))
theorem afX6_init {g : hs_S} {v0 : Nat} {v1 : Nat} (h : PW g) : Aq (fX6_init v0 v1 g) := by
  unfold fX6_init
  refine Aq.ck ?_
  refine Aq.sm (PW.wR (PW.new h)) fun g1 hg1 => ?_
  refine Aq.bv (afX10_init (PW.new hg1)) fun g2 hg2 => ?_
  refine Aq.ck ?_
  refine Aq.bv (alX6_init_31 hs_N _ _ _ _ (PW.wR (PW.wR hg2))) fun g3 hg3 => ?_
  exact Aq.s hg3
theorem afX11_init {g : hs_S} {v0 : Nat} (h : PW g) : Aq (fX11_init v0 g) := by
  unfold fX11_init
  refine Aq.bv (afX0_init (PW.new h)) fun g1 hg1 => ?_
  refine Aq.ck ?_
  refine Aq.sm (PW.wR hg1) fun g2 hg2 => ?_
  refine Aq.bv (afX0_init (PW.new hg2)) fun g3 hg3 => ?_
  refine Aq.ck ?_
  refine Aq.sm (PW.wR hg3) fun g4 hg4 => ?_
  refine Aq.bv (afX0_init (PW.new hg4)) fun g5 hg5 => ?_
  refine Aq.ck ?_
  refine Aq.sm (PW.wR hg5) fun g6 hg6 => ?_
  refine Aq.bv (afX0_init (PW.new hg6)) fun g7 hg7 => ?_
  refine Aq.ck ?_
  refine Aq.sm (PW.wR hg7) fun g8 hg8 => ?_
  refine Aq.bv (afX8_init (PW.new hg8)) fun g9 hg9 => ?_
  refine Aq.ck ?_
  refine Aq.sm (PW.wR hg9) fun g10 hg10 => ?_
  refine Aq.bv (afX2_init (PW.new hg10)) fun g11 hg11 => ?_
  refine Aq.ck ?_
  refine Aq.sm (PW.wR hg11) fun g12 hg12 => ?_
  refine Aq.bv (afX5_init (PW.new hg12)) fun g13 hg13 => ?_
  refine Aq.ck ?_
  refine Aq.sm (PW.wR hg13) fun g14 hg14 => ?_
  refine Aq.ck ?_
  refine Aq.ck ?_
  refine Aq.bv (afX6_init (PW.new hg14)) fun g15 hg15 => ?_
  refine Aq.ck ?_
  exact Aq.s (PW.wR hg15)
theorem alX12_begin_2 : ∀ (n : Nat) (v0 : Nat) (v1 : Int32) (g : hs_S), PW g → Aq (lX12_begin_2 n v0 v1 g)
  | 0, v0, v1, g, _ => fun q e => by cases e
  | n + 1, v0, v1, g, h => by
    rw [lX12_begin_2]
    unfold jX12_begin_26
    refine Aq.br ?_ ?_
    · exact Aq.s h
    · refine Aq.ck ?_
      refine Aq.ck ?_
      refine Aq.br ?_ ?_
      · refine Aq.ck ?_
        refine Aq.ck ?_
        exact (alX12_begin_2 n _ _ _ (PW.wI h))
      · refine Aq.ck ?_
        refine Aq.ck ?_
        exact (alX12_begin_2 n _ _ _ (PW.wI h))
theorem afX12_begin {g : hs_S} {v0 : Nat} (h : PW g) : Aq (fX12_begin v0 g) := by
  unfold fX12_begin
  refine Aq.bv (alX12_begin_2 hs_N _ _ _ h) fun g1 hg1 => ?_
  exact Aq.s hg1
theorem afX12_init {g : hs_S} {v0 : Nat} (h : PW g) : Aq (fX12_init v0 g) := by
  unfold fX12_init
  refine Aq.ck ?_
  refine Aq.sm (PW.wR (PW.new h)) fun g1 hg1 => ?_
  refine Aq.ck ?_
  refine Aq.sm (PW.wR (PW.new hg1)) fun g2 hg2 => ?_
  refine Aq.ck ?_
  refine Aq.sm (PW.wR (PW.new hg2)) fun g3 hg3 => ?_
  refine Aq.ck ?_
  refine Aq.sm (PW.wR (PW.new hg3)) fun g4 hg4 => ?_
  refine Aq.ck ?_
  refine Aq.sm (PW.wR (PW.new hg4)) fun g5 hg5 => ?_
  refine Aq.ck ?_
  refine Aq.sm (PW.wR (PW.new hg5)) fun g6 hg6 => ?_
  refine Aq.ck ?_
  refine Aq.sm (PW.wR (PW.new hg6)) fun g7 hg7 => ?_
  refine Aq.ck ?_
  refine Aq.sm (PW.wR (PW.new hg7)) fun g8 hg8 => ?_
  refine Aq.ck ?_
  refine Aq.sm (PW.wR (PW.new hg8)) fun g9 hg9 => ?_
  refine Aq.ck ?_
  refine Aq.sm (PW.wR (PW.new hg9)) fun g10 hg10 => ?_
  refine Aq.ck ?_
  refine Aq.sm (PW.wR (PW.new hg10)) fun g11 hg11 => ?_
  refine Aq.ck ?_
  refine Aq.sm (PW.wR (PW.new hg11)) fun g12 hg12 => ?_
  refine Aq.ck ?_
  refine Aq.sm (PW.wR (PW.new hg12)) fun g13 hg13 => ?_
  refine Aq.ck ?_
  refine Aq.sm (PW.wR (PW.new hg13)) fun g14 hg14 => ?_
  refine Aq.ck ?_
  refine Aq.sm (PW.wR (PW.new hg14)) fun g15 hg15 => ?_
  refine Aq.ck ?_
  refine Aq.sm (PW.wR (PW.new hg15)) fun g16 hg16 => ?_
  refine Aq.ck ?_
  refine Aq.sm (PW.wR (PW.new hg16)) fun g17 hg17 => ?_
  refine Aq.ck ?_
  refine Aq.sm (PW.wR (PW.new hg17)) fun g18 hg18 => ?_
  refine Aq.ck ?_
  refine Aq.sm (PW.wR (PW.new hg18)) fun g19 hg19 => ?_
  refine Aq.ck ?_
  refine Aq.sm (PW.wR (PW.new hg19)) fun g20 hg20 => ?_
  refine Aq.ck ?_
  refine Aq.sm (PW.wR (PW.new hg20)) fun g21 hg21 => ?_
  refine Aq.ck ?_
  refine Aq.sm (PW.wR (PW.new hg21)) fun g22 hg22 => ?_
  refine Aq.ck ?_
  refine Aq.sm (PW.wR (PW.new hg22)) fun g23 hg23 => ?_
  refine Aq.ck ?_
  refine Aq.sm (PW.wR (PW.new hg23)) fun g24 hg24 => ?_
  refine Aq.ck ?_
  refine Aq.sm (PW.wR (PW.new hg24)) fun g25 hg25 => ?_
  refine Aq.ck ?_
  refine Aq.sm (PW.wR (PW.new hg25)) fun g26 hg26 => ?_
  refine Aq.ck ?_
  refine Aq.sm (PW.wR (PW.new hg26)) fun g27 hg27 => ?_
  refine Aq.ck ?_
  refine Aq.sm (PW.wR (PW.new hg27)) fun g28 hg28 => ?_
  refine Aq.ck ?_
  refine Aq.sm (PW.wR (PW.new hg28)) fun g29 hg29 => ?_
  refine Aq.ck ?_
  refine Aq.sm (PW.wR (PW.new hg29)) fun g30 hg30 => ?_
  refine Aq.ck ?_
  refine Aq.sm (PW.wR (PW.new hg30)) fun g31 hg31 => ?_
  refine Aq.ck ?_
  refine Aq.sm (PW.wR (PW.new hg31)) fun g32 hg32 => ?_
  refine Aq.ck ?_
  refine Aq.sm (PW.wR (PW.new hg32)) fun g33 hg33 => ?_
  refine Aq.ck ?_
  refine Aq.bv (afX12_begin (PW.wR (PW.new hg33))) fun g34 hg34 => ?_
  exact Aq.s hg34
