/-! THE TWO MACHINES: calls and ends -/
theorem SF.c67 {R R' : Nat → Nat → Nat} (h : SF R 67) (e : ∀ a, gm_k a ≠ 3 → R' a = R a) : SF R' 67 := by
  obtain ⟨k1, k2, k3, k4, k5, k6⟩ := sk isS_67
  obtain ⟨x1, x2, x3, x4, x5⟩ := h
  have eA := e 67 (by rw [k1]; decide)
  have eA1 := e (67 + 1) (by rw [k2]; decide)
  have eA2 := e (67 + 2) (by rw [k3]; decide)
  refine ⟨by rw [eA]; exact x1, by rw [eA]; exact x2, by rw [eA]; exact x3, by rw [eA2]; exact x4, fun j hj => ?_⟩
  have eM := e (67 + 6 + 2 * j) (by rw [(k6 j hj).1]; decide)
  rw [eA1, eM]
  exact x5 j hj
theorem x_begin {s : hs_S} {f o : Nat} (w : WT s) (X : MX (hs_R s)) (hf : f < 60) (ho : o < 8) : ∃ s', fX3_begin (105 + 3 * f) (73 + 2 * o) s = some s' ∧ WT s' ∧ (∀ b, b ≠ 105 + 3 * f → b ≠ 106 + 3 * f → hs_I s' b = hs_I s b) ∧ hs_I s' (105 + 3 * f) 4 = nI 0 ∧ hs_I s' (105 + 3 * f) 2 = nI 0 ∧ (∀ i, i < 20 → hs_I s' (106 + 3 * f) i = 0) ∧ hs_R s' (105 + 3 * f) 3 = 74 + 2 * o ∧ (∀ a, a ≠ 105 + 3 * f → hs_R s' a = hs_R s a) ∧ ∀ j, j ≠ 3 → hs_R s' (105 + 3 * f) j = hs_R s (105 + 3 * f) j := by
  obtain ⟨k1, k2, k3, k4, k5⟩ := mk hf
  have r0 := (X.2.2.2.2.2.2 f hf).2.1
  have w3 : WT (hs_wI (hs_wI (hs_wR s (105 + 3 * f) 3 (73 + 2 * o)) (105 + 3 * f) 4 (0 : Int32)) (105 + 3 * f) 2 (0 : Int32)) := ((w.wR k1 (k6_m ho).1).wm (by omega)).wm (by omega)
  have r0' : hs_R (hs_wI (hs_wI (hs_wR s (105 + 3 * f) 3 (73 + 2 * o)) (105 + 3 * f) 4 (0 : Int32)) (105 + 3 * f) 2 (0 : Int32)) (105 + 3 * f) 0 = 107 + 3 * f := by
    show hs_R (hs_wR s (105 + 3 * f) 3 (73 + 2 * o)) (105 + 3 * f) 0 = 107 + 3 * f
    rw [hs_R_w, if_pos rfl, if_neg (by decide)]; exact r0
  obtain ⟨q, e, ⟨w4, R4, f4⟩, z4⟩ := yf_fill (v1 := 0) k2 k3 w3
  refine ⟨q, ?_, w4, fun b h1 h2 => ?_, ?_, ?_, z4, ?_, fun a ha => ?_, fun j hj => ?_⟩
  · unfold fX3_begin
    rw [if_pos (w.k k1), r0', if_pos (show ¬ 107 + 3 * f = 0 by omega), show 107 + 3 * f - 1 = 106 + 3 * f by omega, e]
    rfl
  · rw [f4 b h2]
    funext i
    rw [hs_I_w, if_neg h1, hs_I_w, if_neg h1]
    rfl
  · rw [f4 _ (by omega), hs_I_w, if_pos rfl, if_neg (by decide), hs_I_w, if_pos rfl, if_pos rfl]; rfl
  · rw [f4 _ (by omega), hs_I_w, if_pos rfl, if_pos rfl]; rfl
  · rw [R4]
    show hs_R (hs_wR s (105 + 3 * f) 3 (73 + 2 * o)) (105 + 3 * f) 3 = 74 + 2 * o
    rw [hs_R_w, if_pos rfl, if_pos rfl]
    omega
  · rw [R4]
    funext i
    show hs_R (hs_wR s (105 + 3 * f) 3 (73 + 2 * o)) a i = hs_R s a i
    rw [hs_R_w, if_neg ha]
  · rw [R4]
    show hs_R (hs_wR s (105 + 3 * f) 3 (73 + 2 * o)) (105 + 3 * f) j = _
    rw [hs_R_w, if_pos rfl, if_neg hj]
theorem MX.to {R R' : Nat → Nat → Nat} {f : Nat} (h : MX R) (e1 : ∀ a, a ≠ 105 + 3 * f → R' a = R a) (e2 : ∀ j, j ≠ 3 → R' (105 + 3 * f) j = R (105 + 3 * f) j) : MX R' := by
  obtain ⟨x1, x2, x3, x4, x5, x6, x7⟩ := h
  have a0 := e1 0 (by omega)
  have a100 := e1 100 (by omega)
  have a101 := e1 101 (by omega)
  have a102 := e1 102 (by omega)
  refine ⟨by rw [a0]; exact x1, by rw [a100]; exact x2, by rw [a100]; exact x3, by rw [a100]; exact x4, by rw [a102]; exact x5, by rw [a102]; exact x6, fun f' hf' => ?_⟩
  obtain ⟨y1, y2, y3⟩ := x7 f' hf'
  refine ⟨by rw [a101]; exact y1, ?_, ?_⟩
  · by_cases c : f' = f
    · rw [c, e2 0 (by decide), ← c]; exact y2
    · rw [e1 _ (by omega)]; exact y2
  · by_cases c : f' = f
    · rw [c, e2 1 (by decide), ← c]; exact y3
    · rw [e1 _ (by omega)]; exact y3
/-- the parameters are taken from the caller -/
theorem x_c45 {F e : Nat} (hF : F + 1 < 60) : ∀ (j f : Nat) (v4 : Int32) (s : hs_S), j < f → j ≤ 4 → v4 + 1 = nI j → WT s → MX (hs_R s) → hs_I s (105 + 3 * F) 2 = nI (e + j) → e + j ≤ 20 → ∃ s', lX6_call_45 f 100 (105 + 3 * F) (105 + 3 * (F + 1)) v4 s = some s' ∧ WT s' ∧ hs_R s' = hs_R s ∧ (∀ b, b ≠ 105 + 3 * F → b ≠ 106 + 3 * (F + 1) → hs_I s' b = hs_I s b) ∧ hs_I s' (105 + 3 * F) 2 = nI e ∧ (∀ i, i ≠ 2 → hs_I s' (105 + 3 * F) i = hs_I s (105 + 3 * F) i) ∧ (∀ i, i < j → hs_I s' (106 + 3 * (F + 1)) i = hs_I s (107 + 3 * F) (e + i)) ∧ ∀ i, j ≤ i → hs_I s' (106 + 3 * (F + 1)) i = hs_I s (106 + 3 * (F + 1)) i
  | j, 0, v4, s, hf, _, _, _, _, _, _ => absurd hf (Nat.not_lt_zero _)
  | 0, f + 1, v4, s, _, _, hv, w, X, h2, _ => by
    have e0 : v4 = -1 := by
      have h1 : v4 + 1 - 1 = nI 0 - 1 := by rw [hv]
      rw [Int32.add_sub_cancel] at h1
      exact h1
    have u : v4 < 0 := by rw [e0]; decide
    rw [lX6_call_45, if_pos u]
    exact ⟨s, rfl, w, rfl, fun _ _ _ => rfl, h2, fun _ _ => rfl, fun i hi => absurd hi (Nat.not_lt_zero _), fun _ _ => rfl⟩
  | j + 1, f + 1, v4, s, hf, hj, hv, w, X, h2, h20 => by
    have e0 : v4 = nI j := by
      have h1 : v4 + 1 - 1 = nI (j + 1) - 1 := by rw [hv]
      rw [Int32.add_sub_cancel, nI_pred] at h1
      exact h1
    have u : ¬ v4 < 0 := by rw [e0]; exact nI_pos (by omega)
    have k3 := (mk (show F < 60 by omega)).1
    have k3' := (mk hF).1
    have h2' : hs_I s (105 + 3 * F) 2 = nI (e + j + 1) := h2
    have w1 : WT (hs_wI s (105 + 3 * F) 2 (nI (e + j))) := w.wm (by omega)
    have X1 : MX (hs_R (hs_wI s (105 + 3 * F) 2 (nI (e + j)))) := X
    have w2 : WT (hs_wI (hs_wI s (105 + 3 * F) 2 (nI (e + j))) (106 + 3 * (F + 1)) j (hs_I s (107 + 3 * F) (e + j))) := w1.wm (by omega)
    rw [lX6_call_45, if_neg u, if_pos (w.k k3), x_pop w X (by omega) h2' (by omega), hs_bd_s, if_pos (w1.k k3'), e0, x_setLocal w1 X1 hF (by omega)]
    obtain ⟨s', q1, q2, q3, q4, q5, q6, q7, q8⟩ := x_c45 hF j f (nI j + (-1 : Int32)) (hs_wI (hs_wI s (105 + 3 * F) 2 (nI (e + j))) (106 + 3 * (F + 1)) j (hs_I s (107 + 3 * F) (e + j))) (by omega) (by omega) (by rw [Int32.add_assoc]; show nI j + (-1 + 1) = nI j; rw [show (-1 : Int32) + 1 = 0 by decide, Int32.add_zero]) w2 X1 (by rw [hs_I_w, if_neg (by omega), hs_I_w, if_pos rfl, if_pos rfl]) (by omega)
    refine ⟨s', q1, q2, q3, fun b h1 h3 => ?_, q5, fun i hi => ?_, fun i hi => ?_, fun i hi => ?_⟩
    · rw [q4 b h1 h3]
      funext i
      rw [hs_I_w, if_neg h3, hs_I_w, if_neg h1]
    · rw [q6 i hi, hs_I_w, if_neg (by omega), hs_I_w, if_pos rfl, if_neg hi]
    · by_cases c : i = j
      · rw [c, q8 j (Nat.le_refl _), hs_I_w, if_pos rfl, if_pos rfl]
      · rw [q7 i (by omega), hs_I_w, if_neg (by omega), hs_I_w, if_neg (by omega)]
    · rw [q8 i (by omega), hs_I_w, if_pos rfl, if_neg (by omega), hs_I_w, if_neg (by omega)]
/-! the reference's -/
theorem qx_en32 {D : Nat} (hD : D < 60) : ∀ (d k f : Nat) (g : hm), k + d = 20 → d < f → g 285 40 = nI D → ∃ g', nlX12_enter_32 f (nI k) g = some g' ∧ (∀ a, a ≠ 319 → g' a = g a) ∧ (∀ i, k ≤ i → i < 20 → g' 319 (20 * D + i) = 0) ∧ ∀ i, i < 20 * D + k → g' 319 i = g 319 i
  | d, k, 0, g, _, hf, _ => absurd hf (Nat.not_lt_zero _)
  | 0, k, f + 1, g, hk, _, _ => by
    have u : (20 : Int32) ≤ nI k := (lei (a := 20) (by decide) (by omega)).mpr (by omega)
    rw [nlX12_enter_32, if_pos u]
    exact ⟨g, rfl, fun _ _ => rfl, fun i h1 h2 => absurd h1 (by omega), fun _ _ => rfl⟩
  | d + 1, k, f + 1, g, hk, hf, h40 => by
    have u : ¬ (20 : Int32) ≤ nI k := fun z => absurd ((lei (a := 20) (by decide) (by omega)).mp z) (by omega)
    have e1 : (20 : Int32) * nI D + nI k = nI (20 * D + k) := ix 20 D k
    rw [nlX12_enter_32, if_neg u, h40, e1, if_pos (hin (show 20 * D + k < 1200 by omega) (by decide)), cl (show 20 * D + k < 2147483648 by omega), nI_1]
    obtain ⟨g', q1, q2, q3, q4⟩ := qx_en32 hD d (k + 1) f (hm_w g 319 (20 * D + k) 0) (by omega) (by omega) (by rw [hm_w_ne (by decide)]; exact h40)
    refine ⟨g', q1, fun a ha => by rw [q2 a ha, hm_w_ne ha], fun i h1 h2 => ?_, fun i hi => ?_⟩
    · by_cases c : i = k
      · rw [c, q4 _ (by omega), hm_w_eq]
      · exact q3 i (by omega) h2
    · rw [q4 i (by omega), hm_w_o (by omega)]
theorem qx_enter {g : hm} {D o : Nat} (hD : D < 60) (h40 : g 285 40 = nI D) : ∃ g', nX12_enter (nI o) g = some g' ∧ (∀ a, a < 315 → a ≠ 285 → g' a = g a) ∧ g' 318 = g 318 ∧ g' 315 D = nI o ∧ g' 316 D = nI 0 ∧ g' 317 D = nI 0 ∧ (∀ f, f ≠ D → g' 315 f = g 315 f ∧ g' 316 f = g 316 f ∧ g' 317 f = g 317 f) ∧ (∀ i, i < 20 → g' 319 (20 * D + i) = 0) ∧ (∀ i, i < 20 * D → g' 319 i = g 319 i) ∧ g' 285 40 = nI (D + 1) ∧ ∀ j, j ≠ 40 → g' 285 j = g 285 j := by
  have hi : hs_in (nI D) 60 = true := hin hD (by decide)
  have a1 : hm_w g 315 D (nI o) 285 40 = nI D := by rw [hm_w_ne (by decide)]; exact h40
  have a2 : hm_w (hm_w g 315 D (nI o)) 316 D (0 : Int32) 285 40 = nI D := by rw [hm_w_ne (by decide)]; exact a1
  have a3 : hm_w (hm_w (hm_w g 315 D (nI o)) 316 D (0 : Int32)) 317 D (0 : Int32) 285 40 = nI D := by rw [hm_w_ne (by decide)]; exact a2
  obtain ⟨g3, q1, q2, q3, q4⟩ := qx_en32 hD 20 0 hs_N _ (by omega) (by unfold hs_N; omega) a3
  have q1' : nlX12_enter_32 hs_N (0 : Int32) (hm_w (hm_w (hm_w g 315 D (nI o)) 316 D (0 : Int32)) 317 D (0 : Int32)) = some g3 := q1
  have g40 : g3 285 40 = nI D := by rw [q2 285 (by decide)]; exact a3
  have g285 : ∀ j, g3 285 j = g 285 j := fun j => by rw [q2 285 (by decide), hm_w_ne (by decide), hm_w_ne (by decide), hm_w_ne (by decide)]
  refine ⟨hm_w g3 285 40 (nI (D + 1)), ?_, fun a h1 h2 => ?_, ?_, ?_, ?_, ?_, fun f hf => ⟨?_, ?_, ?_⟩, fun i hi2 => ?_, fun i hi2 => ?_, hm_w_eq _ _ _ _, fun j hj => ?_⟩
  · unfold nX12_enter
    rw [h40, if_pos hi, cl (show D < 2147483648 by omega), a1, if_pos hi, hm_bv_s, cl (show D < 2147483648 by omega), a2, if_pos hi, cl (show D < 2147483648 by omega), q1', hm_bv_s, g40, nI_1]
  · rw [hm_w_ne h2, q2 a (by omega), hm_w_ne (by omega), hm_w_ne (by omega), hm_w_ne (by omega)]
  · rw [hm_w_ne (by decide), q2 318 (by decide), hm_w_ne (by decide), hm_w_ne (by decide), hm_w_ne (by decide)]
  · rw [hm_w_ne (by decide), q2 315 (by decide), hm_w_ne (by decide), hm_w_ne (by decide), hm_w_eq]
  · rw [hm_w_ne (by decide), q2 316 (by decide), hm_w_ne (by decide), hm_w_eq]; rfl
  · rw [hm_w_ne (by decide), q2 317 (by decide), hm_w_eq]; rfl
  · rw [hm_w_ne (by decide), q2 315 (by decide), hm_w_ne (by decide), hm_w_ne (by decide), hm_w_o hf]
  · rw [hm_w_ne (by decide), q2 316 (by decide), hm_w_ne (by decide), hm_w_o hf, hm_w_ne (by decide)]
  · rw [hm_w_ne (by decide), q2 317 (by decide), hm_w_o hf, hm_w_ne (by decide), hm_w_ne (by decide)]
  · rw [hm_w_ne (by decide)]; exact q3 i (Nat.zero_le _) hi2
  · rw [hm_w_ne (by decide), q4 i (by omega), hm_w_ne (by decide), hm_w_ne (by decide), hm_w_ne (by decide)]
  · rw [hm_w_o hj]; exact g285 j
theorem qx_c50 {F o pm e : Nat} (hF : F + 1 < 60) (ho : o < 8) (hpm : pm ≤ 4) (he : e + pm ≤ 20) : ∀ (d i f : Nat) (g : hm), i + d = pm → d < f → g 287 o = nI pm → g 317 F = nI e → g 285 40 = nI (F + 2) → ∃ g', nlX12_calls_50 f (nI o) (nI F) (nI i) g = some g' ∧ (∀ a, a ≠ 319 → g' a = g a) ∧ (∀ k, i ≤ k → k < pm → g' 319 (20 * (F + 1) + k) = g 318 (24 * F + (e + k))) ∧ ∀ k, (k < 20 * (F + 1) + i ∨ 20 * (F + 1) + pm ≤ k) → g' 319 k = g 319 k
  | d, i, 0, g, _, hf, _, _, _ => absurd hf (Nat.not_lt_zero _)
  | 0, i, f + 1, g, hi, _, h1, _, _ => by
    rw [nlX12_calls_50, if_pos (hin ho (by decide)), cl (show o < 2147483648 by omega), h1, if_pos ((lei (by omega) (by omega)).mpr (by omega))]
    exact ⟨g, rfl, fun _ _ => rfl, fun k h1 h2 => absurd h1 (by omega), fun _ _ => rfl⟩
  | d + 1, i, f + 1, g, hi, hf, h1, h2, h3 => by
    have e1 : nI (F + 2) - (1 : Int32) = nI (F + 1) := nI_pred (F + 1)
    have e2 : (24 : Int32) * nI F + nI e + nI i = nI (24 * F + (e + i)) := by rw [show (24 : Int32) * nI F + nI e = nI (24 * F + e) from ix 24 F e, nI_add, Nat.add_assoc]
    have e3 : (20 : Int32) * nI (F + 1) + nI i = nI (20 * (F + 1) + i) := ix 20 (F + 1) i
    rw [nlX12_calls_50, if_pos (hin ho (by decide)), cl (show o < 2147483648 by omega), h1, if_neg (fun z => absurd ((lei (by omega) (by omega)).mp z) (by omega)), if_pos (hin (show F < 60 by omega) (by decide)), cl (show F < 2147483648 by omega), h2, e2, if_pos (hin (show 24 * F + (e + i) < 1440 by omega) (by decide)), h3, e1, e3, if_pos (hin (show 20 * (F + 1) + i < 1200 by omega) (by decide)), hm_bv_s, cl (show 20 * (F + 1) + i < 2147483648 by omega), cl (show 24 * F + (e + i) < 2147483648 by omega), nI_1]
    obtain ⟨g', q1, q2, q3, q4⟩ := qx_c50 hF ho hpm he d (i + 1) f (hm_w g 319 (20 * (F + 1) + i) (g 318 (24 * F + (e + i)))) (by omega) (by omega) (by rw [hm_w_ne (by decide)]; exact h1) (by rw [hm_w_ne (by decide)]; exact h2) (by rw [hm_w_ne (by decide)]; exact h3)
    refine ⟨g', q1, fun a ha => by rw [q2 a ha, hm_w_ne ha], fun k k1 k2 => ?_, fun k hk => ?_⟩
    · by_cases c : k = i
      · rw [c, q4 _ (by omega), hm_w_eq]
      · rw [q3 k (by omega) k2, hm_w_ne (by decide)]
    · rw [q4 k (by omega), hm_w_o (by omega)]
