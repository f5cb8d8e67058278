/-! THE TWO MACHINES -/
theorem mk_all : (List.range 60).all (fun f => decide (gm_k (105 + 3 * f) = 3) && (decide (gm_k (106 + 3 * f) = 100) && (decide (gm_n (106 + 3 * f) = 20) && (decide (gm_k (107 + 3 * f) = 100) && decide (gm_n (107 + 3 * f) = 20))))) = true := by decide +kernel
theorem mk {f : Nat} (h : f < 60) : gm_k (105 + 3 * f) = 3 ∧ gm_k (106 + 3 * f) = 100 ∧ gm_n (106 + 3 * f) = 20 ∧ gm_k (107 + 3 * f) = 100 ∧ gm_n (107 + 3 * f) = 20 := by
  have := all_r mk_all h
  simp only [Bool.and_eq_true, decide_eq_true_eq] at this
  exact this
theorem mk0 : gm_k 100 = 5 ∧ gm_k 101 = 103 ∧ gm_n 101 = 60 ∧ gm_k 102 = 8 ∧ gm_k 103 = 100 ∧ gm_n 103 = 4 ∧ gm_k 104 = 100 ∧ gm_n 104 = 4000 := by decide +kernel
theorem oV_m {a j : Nat} {v : Int32} (h : 100 ≤ a) : oV a j v := by
  have k : gm_k a ≠ 6 ∧ gm_k a ≠ 0 := by
    by_cases c : a < 285
    · have q : (List.range 285).all (fun i => decide (i < 100) || (!decide (gm_k i = 6) && !decide (gm_k i = 0))) = true := by decide +kernel
      have := all_r q c
      simp only [Bool.or_eq_true, Bool.and_eq_true, decide_eq_true_eq, Bool.not_eq_true', decide_eq_false_iff_not] at this
      omega
    · have := gm_k_ge (a := a) (by omega)
      omega
  exact ⟨fun q => absurd q k.1, fun q => absurd q k.2⟩
theorem WT.wm {s : hs_S} (w : WT s) {a j : Nat} {v : Int32} (h : 100 ≤ a) : WT (hs_wI s a j v) := w.wv (oV_m h)
/-- how the machine lies -/
def MX (R : Nat → Nat → Nat) : Prop := R 0 7 = 101 ∧ R 100 0 = 68 ∧ R 100 1 = 102 ∧ R 100 2 = 103 ∧ R 102 0 = 104 ∧ R 102 1 = 105 ∧ ∀ f, f < 60 → R 101 f = 106 + 3 * f ∧ R (105 + 3 * f) 0 = 107 + 3 * f ∧ R (105 + 3 * f) 1 = 108 + 3 * f
theorem x_push {s : hs_S} {f d : Nat} (w : WT s) (X : MX (hs_R s)) (hf : f < 60) (h2 : hs_I s (105 + 3 * f) 2 = nI d) (hd : d < 20) (v : Int32) : fX3_push (105 + 3 * f) v s = some (hs_wI (hs_wI s (107 + 3 * f) d v) (105 + 3 * f) 2 (nI (d + 1))) := by
  obtain ⟨k1, k2, k3, k4, k5⟩ := mk hf
  have r1 := (X.2.2.2.2.2.2 f hf).2.2
  have u : ¬ (20 : Int32) ≤ nI d := fun z => absurd ((lei (a := 20) (by decide) (by omega)).mp z) (by omega)
  unfold fX3_push
  rw [if_pos (w.k k1), h2, if_neg u, r1, if_pos (show ¬ 108 + 3 * f = 0 by omega), show 108 + 3 * f - 1 = 107 + 3 * f by omega, yf_put w k4 (by rw [k5]; exact hd)]
  show (if hs_kd (hs_wI s (107 + 3 * f) d v) (105 + 3 * f) = 3 then _ else none) = _
  rw [if_pos (show hs_kd (hs_wI s (107 + 3 * f) d v) (105 + 3 * f) = 3 from w.k k1), hs_I_w, if_neg (show ¬ 105 + 3 * f = 107 + 3 * f by omega), h2, nI_1]
theorem x_pop {s : hs_S} {f d : Nat} (w : WT s) (X : MX (hs_R s)) (hf : f < 60) (h2 : hs_I s (105 + 3 * f) 2 = nI (d + 1)) (hd : d < 20) : fX3_pop (105 + 3 * f) s = some (hs_I s (107 + 3 * f) d, hs_wI s (105 + 3 * f) 2 (nI d)) := by
  obtain ⟨k1, k2, k3, k4, k5⟩ := mk hf
  have r1 := (X.2.2.2.2.2.2 f hf).2.2
  have u : ¬ nI (d + 1) ≤ 0 := fun z => absurd ((lei (b := 0) (by omega) (by decide)).mp z) (by omega)
  have e3 : nI (d + 1) - (1 : Int32) = nI d := nI_pred d
  have w' : WT (hs_wI s (105 + 3 * f) 2 (nI d)) := w.wm (by omega)
  have r1' : hs_R (hs_wI s (105 + 3 * f) 2 (nI d)) (105 + 3 * f) 1 = 108 + 3 * f := r1
  unfold fX3_pop jX3_pop_17
  rw [if_pos (w.k k1), h2, if_neg u, e3, if_pos (w'.k k1), r1', if_pos (show ¬ 108 + 3 * f = 0 by omega), show 108 + 3 * f - 1 = 107 + 3 * f by omega, hs_I_w, if_pos rfl, if_pos rfl, yf_at w' k4 (by rw [k5]; exact hd), hs_bd_s, hs_I_w, if_neg (show ¬ 107 + 3 * f = 105 + 3 * f by omega)]
theorem x_peek {s : hs_S} {f d : Nat} (w : WT s) (X : MX (hs_R s)) (hf : f < 60) (h2 : hs_I s (105 + 3 * f) 2 = nI (d + 1)) (hd : d < 20) : fX3_peek (105 + 3 * f) s = some (hs_I s (107 + 3 * f) d, s) := by
  obtain ⟨k1, k2, k3, k4, k5⟩ := mk hf
  have r1 := (X.2.2.2.2.2.2 f hf).2.2
  have e3 : nI (d + 1) - (1 : Int32) = nI d := nI_pred d
  unfold fX3_peek
  rw [if_pos (w.k k1), r1, if_pos (show ¬ 108 + 3 * f = 0 by omega), show 108 + 3 * f - 1 = 107 + 3 * f by omega, h2, e3, yf_at w k4 (by rw [k5]; exact hd), hs_bd_s]
theorem x_local {s : hs_S} {f a : Nat} (w : WT s) (X : MX (hs_R s)) (hf : f < 60) (ha : a < 20) : fX3_local (105 + 3 * f) (nI a) s = some (hs_I s (106 + 3 * f) a, s) := by
  obtain ⟨k1, k2, k3, k4, k5⟩ := mk hf
  have r1 := (X.2.2.2.2.2.2 f hf).2.1
  unfold fX3_local
  rw [if_pos (w.k k1), r1, if_pos (show ¬ 107 + 3 * f = 0 by omega), show 107 + 3 * f - 1 = 106 + 3 * f by omega, yf_at w k2 (by rw [k3]; exact ha), hs_bd_s]
theorem x_setLocal {s : hs_S} {f a : Nat} (w : WT s) (X : MX (hs_R s)) (hf : f < 60) (ha : a < 20) (v : Int32) : fX3_setLocal (105 + 3 * f) (nI a) v s = some (hs_wI s (106 + 3 * f) a v) := by
  obtain ⟨k1, k2, k3, k4, k5⟩ := mk hf
  have r1 := (X.2.2.2.2.2.2 f hf).2.1
  unfold fX3_setLocal
  rw [if_pos (w.k k1), r1, if_pos (show ¬ 107 + 3 * f = 0 by omega), show 107 + 3 * f - 1 = 106 + 3 * f by omega, yf_put w k2 (by rw [k3]; exact ha)]
  rfl
theorem x_frame {s : hs_S} {f : Nat} (w : WT s) (X : MX (hs_R s)) (hf : f < 60) : fX6_frame 100 (nI f) s = some (105 + 3 * f, s) := by
  obtain ⟨k1, k2, k3, -⟩ := mk0
  have r1 : hs_R s 100 1 = 102 := X.2.2.1
  have r2 := (X.2.2.2.2.2.2 f hf).1
  have u : ¬ (60 : Int32) ≤ nI f := fun z => absurd ((lei (a := 60) (by decide) (by omega)).mp z) (by omega)
  unfold fX6_frame
  rw [if_neg (nI_pos (by omega)), if_neg u, if_pos (w.k k1), r1, if_pos (show ¬ 102 = 0 by decide)]
  show (if hs_kd s 101 = 103 then if hs_in (nI f) (hs_ln s 101) = true then if ¬ hs_R s 101 (nI f).toNatClampNeg = 0 then some (hs_R s 101 (nI f).toNatClampNeg - 1, s) else none else none else none) = _
  rw [if_pos (w.k k2), w.ln, k3, if_pos (hin hf (by decide)), cl (show f < 2147483648 by omega), r2, if_pos (show ¬ 106 + 3 * f = 0 by omega), show 106 + 3 * f - 1 = 105 + 3 * f by omega]
/-! what agrees -/
def Fe (s : hs_S) (g : hm) (f : Nat) : Prop := (∃ m, m < 8 ∧ g 315 f = nI m ∧ hs_R s (105 + 3 * f) 3 = 74 + 2 * m) ∧ hs_I s (105 + 3 * f) 4 = g 316 f ∧ ∀ i, i < 20 → hs_I s (106 + 3 * f) i = g 319 (20 * f + i)
def Se (s : hs_S) (g : hm) (f : Nat) : Prop := ∃ d, d ≤ 20 ∧ g 317 f = nI d ∧ hs_I s (105 + 3 * f) 2 = nI d ∧ ∀ i, i < d → hs_I s (107 + 3 * f) i = g 318 (24 * f + i)
/-- the arrays, what is counted and paid -/
def Ba (s0 s : hs_S) (g : hm) : Prop := WT s ∧ MX (hs_R s) ∧ (∀ b, b < 100 → hs_I s b = hs_I s0 b) ∧ (∀ b, 285 ≤ b → hs_I s b = hs_I s0 b) ∧ (∀ a, gm_k a ≠ 3 → hs_R s a = hs_R s0 a) ∧ (∀ a, 286 ≤ a → a < 313 → g a = hs_I s0 a) ∧ hs_I s 100 6 = g 285 37 ∧ hs_I s 100 7 = g 285 38 ∧ (hs_I s 100 4 - hs_I s 100 6 = g 285 39 ∧ (0 : Int32) ≤ g 285 39) ∧ hs_I s 100 5 = 0 ∧ g 285 36 = 0 ∧ (∀ a, a < 4 → hs_I s 103 a = g 313 a) ∧ ∀ a z, a < 4 → z ≤ 1000 → g 313 a = nI z → ∀ i, i < z → hs_I s 104 (1000 * a + i) = g 314 (1001 * a + i)
/-- the frame on top, F, stands at x of method m with depth d -/
def TR (s0 s : hs_S) (g : hm) (F m x d : Nat) : Prop := Ba s0 s g ∧ F < 60 ∧ hs_I s 100 3 = nI (F + 1) ∧ g 285 40 = nI (F + 1) ∧ (∀ f, f < F → Fe s g f ∧ Se s g f) ∧ m < 8 ∧ g 315 F = nI m ∧ hs_R s (105 + 3 * F) 3 = 74 + 2 * m ∧ g 316 F = nI x ∧ hs_I s (105 + 3 * F) 4 = nI x ∧ (∀ i, i < 20 → hs_I s (106 + 3 * F) i = g 319 (20 * F + i)) ∧ d ≤ 20 ∧ g 317 F = nI d ∧ hs_I s (105 + 3 * F) 2 = nI d ∧ (∀ i, i < d → hs_I s (107 + 3 * F) i = g 318 (24 * F + i)) ∧ g 285 47 = 0 ∧ g 285 46 = 0
theorem Fe.to {s s' : hs_S} {g g' : hm} {f : Nat} (h : Fe s g f) (r : hs_R s' (105 + 3 * f) 3 = hs_R s (105 + 3 * f) 3) (h1 : hs_I s' (105 + 3 * f) 4 = hs_I s (105 + 3 * f) 4) (h2 : hs_I s' (106 + 3 * f) = hs_I s (106 + 3 * f)) (g1 : g' 315 f = g 315 f) (g2 : g' 316 f = g 316 f) (g3 : ∀ i, i < 20 → g' 319 (20 * f + i) = g 319 (20 * f + i)) : Fe s' g' f := by
  obtain ⟨⟨m, m1, m2, m3⟩, m4, m5⟩ := h
  exact ⟨⟨m, m1, g1.trans m2, r.trans m3⟩, by rw [h1, g2]; exact m4, fun i hi => by rw [h2, g3 i hi]; exact m5 i hi⟩
theorem Se.to {s s' : hs_S} {g g' : hm} {f : Nat} (h : Se s g f) (h1 : hs_I s' (105 + 3 * f) 2 = hs_I s (105 + 3 * f) 2) (h2 : hs_I s' (107 + 3 * f) = hs_I s (107 + 3 * f)) (g1 : g' 317 f = g 317 f) (g2 : ∀ i, i < 20 → g' 318 (24 * f + i) = g 318 (24 * f + i)) : Se s' g' f := by
  obtain ⟨d, d1, d2, d3, d4⟩ := h
  exact ⟨d, d1, g1.trans d2, h1.trans d3, fun i hi => by rw [h2, g2 i (by omega)]; exact d4 i hi⟩
theorem Ba.to {s0 s s' : hs_S} {g g' : hm} (h : Ba s0 s g) (w : WT s') (hR : hs_R s' = hs_R s) (hb : ∀ b, (b < 105 ∨ 285 ≤ b) → hs_I s' b = hs_I s b) (gr : ∀ a, 286 ≤ a → a < 313 → g' a = g a) (g285 : ∀ j, j = 36 ∨ j = 37 ∨ j = 38 ∨ j = 39 → g' 285 j = g 285 j) (g313 : g' 313 = g 313) (g314 : g' 314 = g 314) : Ba s0 s' g' := by
  obtain ⟨b1, b2, b3, b4, b5, bg, b6, b7, b8, b9, b10, b11, b12⟩ := h
  have e100 := hb 100 (by omega)
  have e103 := hb 103 (by omega)
  have e104 := hb 104 (by omega)
  refine ⟨w, by rw [hR]; exact b2, fun b hb2 => (hb b (by omega)).trans (b3 b hb2), fun b hb2 => (hb b (by omega)).trans (b4 b hb2), fun a ha => by rw [hR]; exact b5 a ha, fun a h1 h2 => (gr a h1 h2).trans (bg a h1 h2), ?_, ?_, ?_, ?_, ?_, fun a ha => ?_, fun a z ha hz hg i hi => ?_⟩
  · rw [e100, g285 37 (by omega)]; exact b6
  · rw [e100, g285 38 (by omega)]; exact b7
  · rw [e100, g285 39 (by omega)]; exact b8
  · rw [e100]; exact b9
  · rw [g285 36 (by omega)]; exact b10
  · rw [e103, g313]; exact b11 a ha
  · rw [e104, g314]
    rw [g313] at hg
    exact b12 a z ha hz hg i hi
/-- only the frame on top is changed -/
theorem TR.up {s0 s s' : hs_S} {g g' : hm} {F m x d x' d' : Nat} (T : TR s0 s g F m x d) (w : WT s') (hR : hs_R s' = hs_R s) (hb : ∀ b, b ≠ 105 + 3 * F → b ≠ 106 + 3 * F → b ≠ 107 + 3 * F → hs_I s' b = hs_I s b) (gr : ∀ a, a < 316 → g' a = g a) (g16 : ∀ f, f < F → g' 316 f = g 316 f) (g17 : ∀ f, f < F → g' 317 f = g 317 f) (g18 : ∀ i, i < 24 * F → g' 318 i = g 318 i) (g19 : ∀ i, i < 20 * F → g' 319 i = g 319 i)
    (t1 : g' 316 F = nI x') (t2 : hs_I s' (105 + 3 * F) 4 = nI x') (t3 : ∀ i, i < 20 → hs_I s' (106 + 3 * F) i = g' 319 (20 * F + i)) (t4 : d' ≤ 20) (t5 : g' 317 F = nI d') (t6 : hs_I s' (105 + 3 * F) 2 = nI d') (t7 : ∀ i, i < d' → hs_I s' (107 + 3 * F) i = g' 318 (24 * F + i)) : TR s0 s' g' F m x' d' := by
  obtain ⟨a1, a2, a3, a4, a5, a6, a7, a8, a9, a10, a11, a12, a13, a14, a15, a16, a17⟩ := T
  have g285 := gr 285 (by decide)
  have g315 := gr 315 (by decide)
  refine ⟨a1.to w hR (fun b hb2 => hb b (by omega) (by omega) (by omega)) (fun a _ h => gr a (by omega)) (fun j _ => by rw [g285]) (gr 313 (by decide)) (gr 314 (by decide)), a2, by rw [hb 100 (by omega) (by omega) (by omega)]; exact a3, by rw [g285]; exact a4, fun f hf => ?_, a6, by rw [g315]; exact a7, by rw [hR]; exact a8, t1, t2, t3, t4, t5, t6, t7, by rw [g285]; exact a16, by rw [g285]; exact a17⟩
  obtain ⟨f1, f2⟩ := a5 f hf
  have c1 := hb (105 + 3 * f) (by omega) (by omega) (by omega)
  have c2 := hb (106 + 3 * f) (by omega) (by omega) (by omega)
  have c3 := hb (107 + 3 * f) (by omega) (by omega) (by omega)
  exact ⟨f1.to (by rw [hR]) (by rw [c1]) c2 (by rw [g315]) (g16 f hf) (fun i hi => g19 _ (by omega)), f2.to (by rw [c1]) c3 (g17 f hf) (fun i hi => g18 _ (by omega))⟩
theorem TR.push {s0 s : hs_S} {g : hm} {F m x d : Nat} (T : TR s0 s g F m x d) (hd : d < 20) (v : Int32) : ∃ s' g', fX3_push (105 + 3 * F) v s = some s' ∧ nX12_push v g = some g' ∧ TR s0 s' g' F m x (d + 1) := by
  have T0 := T
  obtain ⟨a1, a2, a3, a4, a5, a6, a7, a8, a9, a10, a11, a12, a13, a14, a15, a16, a17⟩ := T
  refine ⟨_, _, x_push a1.1 a1.2.1 a2 a14 hd v, q_push a2 a4 a13 (by omega) v, T0.up ((a1.1.wm (by omega)).wm (by omega)) rfl (fun b h1 h2 h3 => ?_) (fun a ha => ?_) (fun f hf => ?_) (fun f hf => ?_) (fun i hi => ?_) (fun i hi => ?_) ?_ ?_ (fun i hi => ?_) (by omega) ?_ ?_ (fun i hi => ?_)⟩
  · funext i
    rw [hs_I_w, if_neg h1, hs_I_w, if_neg h3]
  · rw [hm_w_ne (by omega), hm_w_ne (by omega)]
  · rw [hm_w_ne (by decide), hm_w_ne (by decide)]
  · rw [hm_w_o (by omega), hm_w_ne (by decide)]
  · rw [hm_w_ne (by decide), hm_w_o (by omega)]
  · rw [hm_w_ne (by decide), hm_w_ne (by decide)]
  · rw [hm_w_ne (by decide), hm_w_ne (by decide)]; exact a9
  · rw [hs_I_w, if_pos rfl, if_neg (by decide), hs_I_w, if_neg (by omega)]; exact a10
  · rw [hs_I_w, if_neg (by omega), hs_I_w, if_neg (by omega), hm_w_ne (by decide), hm_w_ne (by decide)]; exact a11 i hi
  · rw [hm_w_eq]
  · rw [hs_I_w, if_pos rfl, if_pos rfl]
  · rw [hs_I_w, if_neg (by omega), hs_I_w, if_pos rfl, hm_w_ne (by decide), hm_w_at]
    by_cases c : i = d
    · rw [if_pos c, if_pos (by omega)]
    · rw [if_neg c, if_neg (by omega)]; exact a15 i (by omega)
theorem TR.pop {s0 s : hs_S} {g : hm} {F m x d : Nat} (T : TR s0 s g F m x (d + 1)) : ∃ v s' g', fX3_pop (105 + 3 * F) s = some (v, s') ∧ nX12_pop g = some (v, g') ∧ TR s0 s' g' F m x d := by
  have T0 := T
  obtain ⟨a1, a2, a3, a4, a5, a6, a7, a8, a9, a10, a11, a12, a13, a14, a15, a16, a17⟩ := T
  refine ⟨hs_I s (107 + 3 * F) d, _, _, x_pop a1.1 a1.2.1 a2 a14 (by omega), by rw [q_pop a2 a4 a13 (by omega), a15 d (by omega)], T0.up (a1.1.wm (by omega)) rfl (fun b h1 h2 h3 => ?_) (fun a ha => ?_) (fun f hf => ?_) (fun f hf => ?_) (fun i hi => ?_) (fun i hi => ?_) ?_ ?_ (fun i hi => ?_) (by omega) ?_ ?_ (fun i hi => ?_)⟩
  · funext i
    rw [hs_I_w, if_neg h1]
  · rw [hm_w_ne (by omega)]
  · rw [hm_w_ne (by decide)]
  · rw [hm_w_o (by omega)]
  · rw [hm_w_ne (by decide)]
  · rw [hm_w_ne (by decide)]
  · rw [hm_w_ne (by decide)]; exact a9
  · rw [hs_I_w, if_pos rfl, if_neg (by decide)]; exact a10
  · rw [hs_I_w, if_neg (by omega), hm_w_ne (by decide)]; exact a11 i hi
  · rw [hm_w_eq]
  · rw [hs_I_w, if_pos rfl, if_pos rfl]
  · rw [hs_I_w, if_neg (by omega), hm_w_ne (by decide)]; exact a15 i (by omega)
theorem TR.top {s0 s : hs_S} {g : hm} {F m x d : Nat} (T : TR s0 s g F m x (d + 1)) : ∃ v, fX3_peek (105 + 3 * F) s = some (v, s) ∧ nX12_top g = some (v, g) := by
  obtain ⟨a1, a2, a3, a4, a5, a6, a7, a8, a9, a10, a11, a12, a13, a14, a15, a16, a17⟩ := T
  exact ⟨hs_I s (107 + 3 * F) d, x_peek a1.1 a1.2.1 a2 a14 (by omega), by rw [q_top a2 a4 a13 (by omega), a15 d (by omega)]⟩
/-- the place -/
theorem TR.at {s0 s : hs_S} {g : hm} {F m x d : Nat} (T : TR s0 s g F m x d) (y : Nat) : TR s0 (hs_wI s (105 + 3 * F) 4 (nI y)) (hm_w g 316 F (nI y)) F m y d := by
  have T0 := T
  obtain ⟨a1, a2, a3, a4, a5, a6, a7, a8, a9, a10, a11, a12, a13, a14, a15, a16, a17⟩ := T
  refine T0.up (a1.1.wm (by omega)) rfl (fun b h1 h2 h3 => ?_) (fun a ha => ?_) (fun f hf => ?_) (fun f hf => ?_) (fun i hi => ?_) (fun i hi => ?_) ?_ ?_ (fun i hi => ?_) a12 ?_ ?_ (fun i hi => ?_)
  · funext i
    rw [hs_I_w, if_neg h1]
  · rw [hm_w_ne (by omega)]
  · rw [hm_w_o (by omega)]
  · rw [hm_w_ne (by decide)]
  · rw [hm_w_ne (by decide)]
  · rw [hm_w_ne (by decide)]
  · rw [hm_w_eq]
  · rw [hs_I_w, if_pos rfl, if_pos rfl]
  · rw [hs_I_w, if_neg (by omega), hm_w_ne (by decide)]; exact a11 i hi
  · rw [hm_w_ne (by decide)]; exact a13
  · rw [hs_I_w, if_pos rfl, if_neg (by decide)]; exact a14
  · rw [hs_I_w, if_neg (by omega), hm_w_ne (by decide)]; exact a15 i hi
/-- a local -/
theorem TR.setl {s0 s : hs_S} {g : hm} {F m x d a : Nat} (T : TR s0 s g F m x d) (ha : a < 20) (v : Int32) : fX3_setLocal (105 + 3 * F) (nI a) v s = some (hs_wI s (106 + 3 * F) a v) ∧ TR s0 (hs_wI s (106 + 3 * F) a v) (hm_w g 319 (20 * F + a) v) F m x d := by
  have T0 := T
  obtain ⟨a1, a2, a3, a4, a5, a6, a7, a8, a9, a10, a11, a12, a13, a14, a15, a16, a17⟩ := T
  refine ⟨x_setLocal a1.1 a1.2.1 a2 ha v, T0.up (a1.1.wm (by omega)) rfl (fun b h1 h2 h3 => ?_) (fun a ha => ?_) (fun f hf => ?_) (fun f hf => ?_) (fun i hi => ?_) (fun i hi => ?_) ?_ ?_ (fun i hi => ?_) a12 ?_ ?_ (fun i hi => ?_)⟩
  · funext i
    rw [hs_I_w, if_neg h2]
  · rw [hm_w_ne (by omega)]
  · rw [hm_w_ne (by decide)]
  · rw [hm_w_ne (by decide)]
  · rw [hm_w_ne (by decide)]
  · rw [hm_w_o (by omega)]
  · rw [hm_w_ne (by decide)]; exact a9
  · rw [hs_I_w, if_neg (by omega)]; exact a10
  · rw [hs_I_w, if_pos rfl, hm_w_at]
    by_cases c : i = a
    · rw [if_pos c, if_pos (by omega)]
    · rw [if_neg c, if_neg (by omega)]; exact a11 i hi
  · rw [hm_w_ne (by decide)]; exact a13
  · rw [hs_I_w, if_neg (by omega)]; exact a14
  · rw [hs_I_w, if_neg (by omega), hm_w_ne (by decide)]; exact a15 i hi
theorem TR.loc {s0 s : hs_S} {g : hm} {F m x d a : Nat} (T : TR s0 s g F m x d) (ha : a < 20) : fX3_local (105 + 3 * F) (nI a) s = some (g 319 (20 * F + a), s) := by
  obtain ⟨a1, a2, a3, a4, a5, a6, a7, a8, a9, a10, a11, a12, a13, a14, a15, a16, a17⟩ := T
  rw [x_local a1.1 a1.2.1 a2 ha, a11 a ha]
