/-! the reference's object has 48 slots -/
def PR (s : hs_S) : Prop := ∀ j, 48 ≤ j → hs_R s 285 j = 0
theorem PR.wI {s : hs_S} (h : PR s) {a j : Nat} {v : Int32} : PR (hs_wI s a j v) := h
theorem PR.wR {s : hs_S} {a j : Nat} {v : Nat} (hj : j < 48) (h : PR s) : PR (hs_wR s a j v) := by
  intro i hi
  show (if 285 = a then (if i = j then v + 1 else hs_R s 285 i) else hs_R s 285 i) = 0
  rw [if_neg (show ¬ i = j by omega)]
  split <;> exact h i hi
theorem PR.new {s : hs_S} (h : PR s) {k n : Nat} : PR (hs_new s k n) := by
  intro i hi
  show (if 285 = s.1 then 0 else hs_R s 285 i) = 0
  split
  · rfl
  · exact h i hi
def Bq (x : Option hs_S) : Prop := ∀ q, x = some q → PR q
theorem Bq.s {s : hs_S} (h : PR s) : Bq (Option.some s) := fun q e => by cases e; exact h
theorem Bq.ck {c : Prop} {i : Decidable c} {x : Option hs_S} (h : Bq x) : Bq (@ite _ c i x none) := by
  by_cases k : c
  · rw [if_pos k]; exact h
  · rw [if_neg k]; intro q e; cases e
theorem Bq.br {c : Prop} {i : Decidable c} {x y : Option hs_S} (h : Bq x) (h' : Bq y) : Bq (@ite _ c i x y) := by
  by_cases k : c
  · rw [if_pos k]; exact h
  · rw [if_neg k]; exact h'
theorem Bq.sm {E : hs_S} {f : hs_S → Option hs_S} (h : PR E) (k : ∀ g, PR g → Bq (f g)) : Bq (hs_bv (Option.some E) f) := k E h
theorem Bq.bv {x : Option hs_S} {f : hs_S → Option hs_S} (h : Bq x) (k : ∀ g, PR g → Bq (f g)) : Bq (hs_bv x f) := by
  cases e : x with
  | none => intro q e2; cases e2
  | some s => exact k s (h s e)
theorem blX12_begin_2 : ∀ (n : Nat) (v0 : Nat) (v1 : Int32) (g : hs_S), PR g → Bq (lX12_begin_2 n v0 v1 g)
  | 0, v0, v1, g, _ => fun q e => by cases e
  | n + 1, v0, v1, g, h => by
    rw [lX12_begin_2]
    unfold jX12_begin_26
    refine Bq.br ?_ ?_
    · exact Bq.s h
    · refine Bq.ck ?_
      refine Bq.ck ?_
      refine Bq.br ?_ ?_
      · refine Bq.ck ?_
        refine Bq.ck ?_
        exact (blX12_begin_2 n _ _ _ (PR.wI h))
      · refine Bq.ck ?_
        refine Bq.ck ?_
        exact (blX12_begin_2 n _ _ _ (PR.wI h))
theorem bfX12_begin {g : hs_S} {v0 : Nat} (h : PR g) : Bq (fX12_begin v0 g) := by
  unfold fX12_begin
  refine Bq.bv (blX12_begin_2 hs_N _ _ _ h) fun g1 hg1 => ?_
  exact Bq.s hg1
theorem bfX12_init {g : hs_S} {v0 : Nat} (h : PR g) : Bq (fX12_init v0 g) := by
  unfold fX12_init
  refine Bq.ck ?_
  refine Bq.sm (PR.wR (by decide) (PR.new h)) fun g1 hg1 => ?_
  refine Bq.ck ?_
  refine Bq.sm (PR.wR (by decide) (PR.new hg1)) fun g2 hg2 => ?_
  refine Bq.ck ?_
  refine Bq.sm (PR.wR (by decide) (PR.new hg2)) fun g3 hg3 => ?_
  refine Bq.ck ?_
  refine Bq.sm (PR.wR (by decide) (PR.new hg3)) fun g4 hg4 => ?_
  refine Bq.ck ?_
  refine Bq.sm (PR.wR (by decide) (PR.new hg4)) fun g5 hg5 => ?_
  refine Bq.ck ?_
  refine Bq.sm (PR.wR (by decide) (PR.new hg5)) fun g6 hg6 => ?_
  refine Bq.ck ?_
  refine Bq.sm (PR.wR (by decide) (PR.new hg6)) fun g7 hg7 => ?_
  refine Bq.ck ?_
  refine Bq.sm (PR.wR (by decide) (PR.new hg7)) fun g8 hg8 => ?_
  refine Bq.ck ?_
  refine Bq.sm (PR.wR (by decide) (PR.new hg8)) fun g9 hg9 => ?_
  refine Bq.ck ?_
  refine Bq.sm (PR.wR (by decide) (PR.new hg9)) fun g10 hg10 => ?_
  refine Bq.ck ?_
  refine Bq.sm (PR.wR (by decide) (PR.new hg10)) fun g11 hg11 => ?_
  refine Bq.ck ?_
  refine Bq.sm (PR.wR (by decide) (PR.new hg11)) fun g12 hg12 => ?_
  refine Bq.ck ?_
  refine Bq.sm (PR.wR (by decide) (PR.new hg12)) fun g13 hg13 => ?_
  refine Bq.ck ?_
  refine Bq.sm (PR.wR (by decide) (PR.new hg13)) fun g14 hg14 => ?_
  refine Bq.ck ?_
  refine Bq.sm (PR.wR (by decide) (PR.new hg14)) fun g15 hg15 => ?_
  refine Bq.ck ?_
  refine Bq.sm (PR.wR (by decide) (PR.new hg15)) fun g16 hg16 => ?_
  refine Bq.ck ?_
  refine Bq.sm (PR.wR (by decide) (PR.new hg16)) fun g17 hg17 => ?_
  refine Bq.ck ?_
  refine Bq.sm (PR.wR (by decide) (PR.new hg17)) fun g18 hg18 => ?_
  refine Bq.ck ?_
  refine Bq.sm (PR.wR (by decide) (PR.new hg18)) fun g19 hg19 => ?_
  refine Bq.ck ?_
  refine Bq.sm (PR.wR (by decide) (PR.new hg19)) fun g20 hg20 => ?_
  refine Bq.ck ?_
  refine Bq.sm (PR.wR (by decide) (PR.new hg20)) fun g21 hg21 => ?_
  refine Bq.ck ?_
  refine Bq.sm (PR.wR (by decide) (PR.new hg21)) fun g22 hg22 => ?_
  refine Bq.ck ?_
  refine Bq.sm (PR.wR (by decide) (PR.new hg22)) fun g23 hg23 => ?_
  refine Bq.ck ?_
  refine Bq.sm (PR.wR (by decide) (PR.new hg23)) fun g24 hg24 => ?_
  refine Bq.ck ?_
  refine Bq.sm (PR.wR (by decide) (PR.new hg24)) fun g25 hg25 => ?_
  refine Bq.ck ?_
  refine Bq.sm (PR.wR (by decide) (PR.new hg25)) fun g26 hg26 => ?_
  refine Bq.ck ?_
  refine Bq.sm (PR.wR (by decide) (PR.new hg26)) fun g27 hg27 => ?_
  refine Bq.ck ?_
  refine Bq.sm (PR.wR (by decide) (PR.new hg27)) fun g28 hg28 => ?_
  refine Bq.ck ?_
  refine Bq.sm (PR.wR (by decide) (PR.new hg28)) fun g29 hg29 => ?_
  refine Bq.ck ?_
  refine Bq.sm (PR.wR (by decide) (PR.new hg29)) fun g30 hg30 => ?_
  refine Bq.ck ?_
  refine Bq.sm (PR.wR (by decide) (PR.new hg30)) fun g31 hg31 => ?_
  refine Bq.ck ?_
  refine Bq.sm (PR.wR (by decide) (PR.new hg31)) fun g32 hg32 => ?_
  refine Bq.ck ?_
  refine Bq.sm (PR.wR (by decide) (PR.new hg32)) fun g33 hg33 => ?_
  refine Bq.ck ?_
  refine Bq.bv (bfX12_begin (PR.wR (by decide) (PR.new hg33))) fun g34 hg34 => ?_
  exact Bq.s hg34
