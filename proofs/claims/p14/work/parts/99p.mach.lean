/-! THE TWO MACHINES: arrays -/
theorem a_ix (a i : Nat) : nI a * (1000 : Int32) + nI i = nI (1000 * a + i) := by
  rw [show (1000 : Int32) = nI 1000 from rfl, pk_mul, nI_add, Nat.mul_comm]
theorem x_asz {s : hs_S} {a : Nat} (w : WT s) (X : MX (hs_R s)) (ha : a < 4) : fX10_sizeOf 102 (nI a) s = some (hs_I s 103 a, s) := by
  obtain ⟨-, -, -, k4, k5, k6, k7, k8⟩ := mk0
  unfold fX10_sizeOf
  rw [if_pos (w.k k4), X.2.2.2.2.1, if_pos (show ¬ 104 = 0 by decide)]
  show hs_bd (fX9_at 103 (nI a) s) _ = _
  rw [yf_at w k5 (by rw [k6]; exact ha), hs_bd_s]
theorem x_aget {s : hs_S} {a i : Nat} (w : WT s) (X : MX (hs_R s)) (ha : a < 4) (hi : i < 1000) : fX10_get 102 (nI a) (nI i) s = some (hs_I s 104 (1000 * a + i), s) := by
  obtain ⟨-, -, -, k4, k5, k6, k7, k8⟩ := mk0
  unfold fX10_get
  rw [if_pos (w.k k4), X.2.2.2.2.2.1, if_pos (show ¬ 105 = 0 by decide), a_ix]
  show hs_bd (fX9_at 104 (nI (1000 * a + i)) s) _ = _
  rw [yf_at w k7 (by rw [k8]; omega), hs_bd_s]
theorem x_aput {s : hs_S} {a i : Nat} (w : WT s) (X : MX (hs_R s)) (ha : a < 4) (hi : i < 1000) (v : Int32) : fX10_put 102 (nI a) (nI i) v s = some (hs_wI s 104 (1000 * a + i) v) := by
  obtain ⟨-, -, -, k4, k5, k6, k7, k8⟩ := mk0
  unfold fX10_put
  rw [if_pos (w.k k4), X.2.2.2.2.2.1, if_pos (show ¬ 105 = 0 by decide), a_ix]
  show hs_bv (fX9_put 104 (nI (1000 * a + i)) v s) _ = _
  rw [yf_put w k7 (by rw [k8]; omega)]
  rfl
theorem x_mk26 {a z : Nat} (ha : a < 4) (hz : z ≤ 1000) : ∀ (d i f : Nat) (s : hs_S), i + d = z → d < f → WT s → MX (hs_R s) → ∃ s', lX10_make_26 f 102 (nI a) (nI z) (nI i) s = some s' ∧ WT s' ∧ hs_R s' = hs_R s ∧ (∀ b, b ≠ 104 → hs_I s' b = hs_I s b) ∧ (∀ k, i ≤ k → k < z → hs_I s' 104 (1000 * a + k) = 0) ∧ ∀ k, (k < 1000 * a + i ∨ 1000 * a + z ≤ k) → hs_I s' 104 k = hs_I s 104 k
  | d, i, 0, s, _, hf => absurd hf (Nat.not_lt_zero _)
  | 0, i, f + 1, s, hi, _ => fun w X => by
    rw [lX10_make_26, if_pos ((lei (by omega) (by omega)).mpr (by omega))]
    exact ⟨s, rfl, w, rfl, fun _ _ => rfl, fun k h1 h2 => absurd h1 (by omega), fun _ _ => rfl⟩
  | d + 1, i, f + 1, s, hi, hf => fun w X => by
    rw [lX10_make_26, if_neg (fun q => absurd ((lei (by omega) (by omega)).mp q) (by omega)), if_pos (w.k mk0.2.2.2.1), x_aput w X ha (by omega)]
    show ∃ s', lX10_make_26 f 102 (nI a) (nI z) (nI i + (1 : Int32)) (hs_wI s 104 (1000 * a + i) 0) = some s' ∧ _
    rw [nI_1]
    obtain ⟨s', e, w', r', b1, b2, b3⟩ := x_mk26 ha hz d (i + 1) f (hs_wI s 104 (1000 * a + i) 0) (by omega) (by omega) (w.wm (by decide)) X
    refine ⟨s', e, w', r', fun b hb => ?_, fun k h1 h2 => ?_, fun k hk => ?_⟩
    · rw [b1 b hb]
      funext j
      rw [hs_I_w, if_neg hb]
    · by_cases c : k = i
      · rw [c, b3 _ (by omega), hs_I_w, if_pos rfl, if_pos rfl]
      · exact b2 k (by omega) h2
    · rw [b3 k (by omega), hs_I_w, if_pos rfl, if_neg (by omega)]
theorem q_a106 {a z : Nat} (ha : a < 4) (hz : z ≤ 1000) (v3 : Int32) : ∀ (d i f : Nat) (g : hm), i + d = z → d < f → ∃ g', nlX12_ofArrays_106 f (nI a) v3 (nI z) (nI i) g = some g' ∧ (∀ b, b ≠ 314 → g' b = g b) ∧ (∀ k, i ≤ k → k < z → g' 314 (1001 * a + k) = 0) ∧ ∀ k, (k < 1001 * a + i ∨ 1001 * a + z ≤ k) → g' 314 k = g 314 k
  | d, i, 0, g, _, hf => absurd hf (Nat.not_lt_zero _)
  | 0, i, f + 1, g, hi, _ => by
    rw [nlX12_ofArrays_106, if_pos ((lei (by omega) (by omega)).mpr (by omega))]
    exact ⟨g, rfl, fun _ _ => rfl, fun k h1 h2 => absurd h1 (by omega), fun _ _ => rfl⟩
  | d + 1, i, f + 1, g, hi, hf => by
    have e1 : (1001 : Int32) * nI a + nI i = nI (1001 * a + i) := ix 1001 a i
    rw [nlX12_ofArrays_106, if_neg (fun q => absurd ((lei (by omega) (by omega)).mp q) (by omega)), e1, if_pos (hin (show 1001 * a + i < 4004 by omega) (by decide)), cl (show 1001 * a + i < 2147483648 by omega), nI_1]
    obtain ⟨g', e, b1, b2, b3⟩ := q_a106 ha hz v3 d (i + 1) f (hm_w g 314 (1001 * a + i) 0) (by omega) (by omega)
    refine ⟨g', e, fun b hb => by rw [b1 b hb, hm_w_ne hb], fun k h1 h2 => ?_, fun k hk => ?_⟩
    · by_cases c : k = i
      · rw [c, b3 _ (by omega), hm_w_eq]
      · exact b2 k (by omega) h2
    · rw [b3 k (by omega), hm_w_o (by omega)]
/-- only the arrays are changed -/
theorem TR.ar {s0 s s' : hs_S} {g g' : hm} {F m x d : Nat} (T : TR s0 s g F m x d) (w : WT s') (hR : hs_R s' = hs_R s) (hb : ∀ b, b ≠ 103 → b ≠ 104 → hs_I s' b = hs_I s b) (gr : ∀ a, a ≠ 313 → a ≠ 314 → g' a = g a) (h1 : ∀ a, a < 4 → hs_I s' 103 a = g' 313 a) (h2 : ∀ a z, a < 4 → z ≤ 1000 → g' 313 a = nI z → ∀ i, i < z → hs_I s' 104 (1000 * a + i) = g' 314 (1001 * a + i)) : TR s0 s' g' F m x d := by
  obtain ⟨a1, a2, a3, a4, a5, a6, a7, a8, a9, a10, a11, a12, a13, a14, a15, a16, a17⟩ := T
  obtain ⟨b1, b2, b3, b4, b5, bg, b6, b7, b8, b9, b10, b11, b12⟩ := a1
  have e100 := hb 100 (by decide) (by decide)
  have g285 := gr 285 (by decide) (by decide)
  have c5 : ∀ f, hs_I s' (105 + 3 * f) = hs_I s (105 + 3 * f) := fun f => hb _ (by omega) (by omega)
  have c6 : ∀ f, hs_I s' (106 + 3 * f) = hs_I s (106 + 3 * f) := fun f => hb _ (by omega) (by omega)
  have c7 : ∀ f, hs_I s' (107 + 3 * f) = hs_I s (107 + 3 * f) := fun f => hb _ (by omega) (by omega)
  have g5 := gr 315 (by decide) (by decide)
  have g6 := gr 316 (by decide) (by decide)
  have g7 := gr 317 (by decide) (by decide)
  have g8 := gr 318 (by decide) (by decide)
  have g9 := gr 319 (by decide) (by decide)
  refine ⟨⟨w, by rw [hR]; exact b2, fun b h => (hb b (by omega) (by omega)).trans (b3 b h), fun b h => (hb b (by omega) (by omega)).trans (b4 b h), fun a h => by rw [hR]; exact b5 a h, fun a x1 x2 => (gr a (by omega) (by omega)).trans (bg a x1 x2), by rw [e100, g285]; exact b6, by rw [e100, g285]; exact b7, by rw [e100, g285]; exact b8, by rw [e100]; exact b9, by rw [g285]; exact b10, h1, h2⟩, a2, by rw [e100]; exact a3, by rw [g285]; exact a4, fun f hf => ?_, a6, by rw [g5]; exact a7, by rw [hR]; exact a8, by rw [g6]; exact a9, by rw [c5]; exact a10, fun i hi => by rw [c6, g9]; exact a11 i hi, a12, by rw [g7]; exact a13, by rw [c5]; exact a14, fun i hi => by rw [c7, g8]; exact a15 i hi, by rw [g285]; exact a16, by rw [g285]; exact a17⟩
  obtain ⟨f1, f2⟩ := a5 f hf
  exact ⟨f1.to (by rw [hR]) (by rw [c5]) (c6 f) (by rw [g5]) (by rw [g6]) (fun i _ => by rw [g9]), f2.to (by rw [c5]) (c7 f) (by rw [g7]) (fun i _ => by rw [g8])⟩
/-- behind an instruction of arrays -/
theorem TR.doneA {s0 s : hs_S} {g : hm} {F m x d : Nat} (T : TR s0 s g F m x d) (y : Nat) {p : Option (Int32 × hs_S)} {q : Option hm} (hp : p = some (0, s)) (hq : q = njX12_ofArrays_241 (nI y) g) : OK1 s0 p q F m x y d := by
  have hF := T.2.1
  have e1 : nI (F + 1) - (1 : Int32) = nI F := nI_pred F
  refine ⟨s, _, hp, T.2.2.2.2.2.2.2.2.2.1, ?_, T.at y⟩
  rw [hq]
  unfold njX12_ofArrays_241
  rw [if_pos T.2.2.2.2.2.2.2.2.2.2.2.2.2.2.2.1, T.2.2.2.1, e1, if_pos (hin hF (by decide)), cl (show F < 2147483648 by omega)]
def isA (kd : Nat) : Prop := kd = 188 ∨ kd = 190 ∨ kd = 46 ∨ kd = 79
theorem act_arr {kd : Nat} (hk : isA kd) (fr : Nat) (s : hs_S) : fX6_act 100 fr (nI kd) s = if hs_kd s 100 = 5 then (hs_bd (fX6_actOnArray 100 fr (nI kd) s) fun r68 g67 => some (r68, g67)) else none := by
  unfold fX6_act isA at *
  rcases hk with e | e | e | e <;> subst e <;> rw [if_neg (by decide), if_neg (by decide), if_neg (by decide), if_neg (by decide), if_neg (by decide), if_neg (by decide), if_neg (by decide), if_neg (by decide), if_neg (by decide), (x_kinds (by decide) s).2.2.1, hs_bd_s, if_neg (by decide)]
/-- the reference's ofArrays() -/
theorem TR.arr16 {s0 s : hs_S} {g : hm} {F m x d n kd a : Nat} (T : TR s0 s g F m x d) (C : CM s0 m n) (hk : isA kd) (hx : x + 1 < n) (h1 : hs_I s0 304 (4001 * m + (x + 1)) = nI a) : nX12_ofArrays (nI kd) g = njX12_ofArrays_16 (nI kd) (nI a) g := by
  have hn : n ≤ 4000 := by obtain ⟨a, h, pm, e, v, r0, r1, c1, -⟩ := C; exact c1
  have hc : nX12_codeAt (1 : Int32) g = some (hs_I s0 304 (4001 * m + (x + 1)), g) := T.code (i := 1) (by omega)
  have u : ¬ nI kd = (191 : Int32) := nI_ne (b := 191) (by unfold isA at hk; omega) (by decide) (by unfold isA at hk; omega)
  unfold nX12_ofArrays
  rw [if_neg u, hc, hm_bd_s, h1]
theorem TR.a191 {s0 s : hs_S} {g : hm} {F m x d : Nat} (T : TR s0 s g F m x d) : TH1 s0 (fX6_act 100 (105 + 3 * F) (nI 191) s) (nX12_ofArrays (nI 191) g) F := by
  have hF := T.2.1
  have e1 : nI (F + 1) - (1 : Int32) = nI F := nI_pred F
  refine ⟨4, s, hm_w g 285 47 (nI 4), by decide, by decide, ?_, ?_, T.tt 4 T.w rfl (fun _ _ _ => rfl) rfl⟩
  · unfold fX6_act
    rw [if_neg (by decide), if_neg (by decide), if_neg (by decide), if_neg (by decide), if_neg (by decide), if_neg (by decide), if_neg (by decide), if_neg (by decide), if_pos (by decide)]
    rfl
  · unfold nX12_ofArrays njX12_ofArrays_16 njX12_ofArrays_241
    have u : ¬ hm_w g 285 47 (4 : Int32) 285 47 = 0 := by rw [hm_w_eq]; decide
    rw [if_pos (by decide), T.2.2.2.1, e1, if_pos (hin hF (by decide)), q_size (by decide), hm_bd_s, if_pos (by decide), if_neg u]
    rfl
theorem TR.a190 {s0 s : hs_S} {g : hm} {F m x d n a : Nat} (T : TR s0 s g F m x d) (C : CM s0 m n) (hd : d < 20) (hx : x + 1 < n) (ha : a < 4) (h1 : hs_I s0 304 (4001 * m + (x + 1)) = nI a) : OK1 s0 (fX6_act 100 (105 + 3 * F) (nI 190) s) (nX12_ofArrays (nI 190) g) F m x (x + 2) (d + 1) := by
  have hF := T.2.1
  have e1 : nI (F + 1) - (1 : Int32) = nI F := nI_pred F
  have X := T.1.2.1
  have eA := T.1.2.2.2.2.2.2.2.2.2.2.2.1 a ha
  obtain ⟨s1, g1, e3, e4, T1⟩ := T.push hd (g 313 a)
  refine T1.doneA (x + 2) ?_ ?_
  · rw [act_arr (Or.inr (Or.inl rfl)), if_pos T.k5]
    unfold fX6_actOnArray
    rw [if_pos T.k3, T.opd C hx, hs_bd_s, if_neg (by decide), if_pos (by decide), if_pos T.k5, X.2.2.2.1, if_pos (show ¬ 103 = 0 by decide)]
    show hs_bd (if hs_kd s 102 = 8 then hs_bd (fX10_sizeOf 102 (hs_I s0 304 (4001 * m + (x + 1))) s) _ else none) _ = _
    rw [if_pos (T.w.k mk0.2.2.2.1), h1, x_asz T.w X ha, hs_bd_s, if_pos T.k3, eA, e3]
    rfl
  · rw [T.arr16 C (Or.inr (Or.inl rfl)) hx h1]
    unfold njX12_ofArrays_16
    rw [T.2.2.2.1, e1, if_pos (hin hF (by decide)), q_size (by decide), hm_bd_s, if_neg (by decide), if_neg (by decide), if_pos (by decide), if_pos (hin ha (by decide)), cl (show a < 2147483648 by omega), e4, hm_bv_s, cl (show F < 2147483648 by omega), T.2.2.2.2.2.2.2.2.1, nI_add]
    rfl
theorem TR.a188 {s0 s : hs_S} {g : hm} {F m x d n a : Nat} (T : TR s0 s g F m x (d + 1)) (C : CM s0 m n) (hx : x + 1 < n) (ha : a < 4) (h1 : hs_I s0 304 (4001 * m + (x + 1)) = nI a) : OK1 s0 (fX6_act 100 (105 + 3 * F) (nI 188) s) (nX12_ofArrays (nI 188) g) F m x (x + 2) d ∨ TH1 s0 (fX6_act 100 (105 + 3 * F) (nI 188) s) (nX12_ofArrays (nI 188) g) F := by
  have hF := T.2.1
  have e1 : nI (F + 1) - (1 : Int32) = nI F := nI_pred F
  have X := T.1.2.1
  obtain ⟨v0, et1, et2⟩ := T.top
  obtain ⟨v, s1, g1, e3, e4, T1⟩ := T.pop
  have hv : v0 = v := by
    have q1 := q_top T.2.1 T.2.2.2.1 T.2.2.2.2.2.2.2.2.2.2.2.2.1 (by have := T.2.2.2.2.2.2.2.2.2.2.2.1; omega)
    have q2 := q_pop T.2.1 T.2.2.2.1 T.2.2.2.2.2.2.2.2.2.2.2.2.1 (by have := T.2.2.2.2.2.2.2.2.2.2.2.1; omega)
    rw [et2] at q1
    rw [e4] at q2
    have q3 := congrArg Prod.fst (Option.some.inj q1)
    have q4 := congrArg Prod.fst (Option.some.inj q2)
    exact q3.trans q4.symm
  subst hv
  have X1 := T1.1.2.1
  rw [act_arr (Or.inl rfl), if_pos T.k5, T.arr16 C (Or.inl rfl) hx h1]
  unfold fX6_actOnArray njX12_ofArrays_16
  rw [if_pos T.k3, T.opd C hx, hs_bd_s, if_pos (show nI 188 = (188 : Int32) from rfl), if_pos T.k5, X.2.2.2.1, if_pos (show ¬ 103 = 0 by decide), if_pos T.k3, e3, hs_bd_s, h1, T.2.2.2.1, e1, if_pos (hin hF (by decide)), q_size (by decide), hm_bd_s, if_neg (show ¬ nI 188 = (191 : Int32) by decide), if_pos (show nI 188 = (188 : Int32) from rfl), et2, hm_bd_s]
  show OK1 s0 (hs_bd (if hs_kd s1 102 = 8 then hs_bd (fX10_make 102 (nI a) v0 s1) _ else none) _) _ F m x (x + 2) d ∨ TH1 s0 (hs_bd (if hs_kd s1 102 = 8 then hs_bd (fX10_make 102 (nI a) v0 s1) _ else none) _) _ F
  rw [if_pos (T1.w.k mk0.2.2.2.1)]
  unfold fX10_make
  have pz : s1 = hs_wI s (105 + 3 * F) 2 (nI d) := by
    have q := x_pop T.w X hF T.2.2.2.2.2.2.2.2.2.2.2.2.2.1 (by have := T.2.2.2.2.2.2.2.2.2.2.2.1; omega)
    rw [e3] at q
    exact congrArg Prod.snd (Option.some.inj q)
  have tt : ∀ e, TT s0 s1 (hm_w g 285 47 (nI e)) (F + 1) e := fun e => by
    rw [pz]
    refine T.tt e (T.w.wm (by omega)) rfl (fun b h2 h3 => ?_) ?_
    · funext j
      rw [hs_I_w, if_neg h2]
    · rw [hs_I_w, if_pos rfl, if_neg (by decide)]
  by_cases c0 : v0 < 0
  · right
    have c0' : ¬ (0 : Int32) ≤ v0 := fun z => absurd (lt_toInt c0) (by rw [Int32.le_iff_toInt_le] at z; omega)
    refine ⟨3, s1, hm_w g 285 47 (nI 3), by decide, by decide, ?_, ?_, tt 3⟩
    · rw [if_neg c0', hs_bd_s, hs_bd_s]; rfl
    · unfold njX12_ofArrays_75
      rw [if_pos c0, if_neg c0']; rfl
  obtain ⟨z, hz0, ez⟩ := nI_of c0
  subst ez
  have c0' : (0 : Int32) ≤ nI z := (lei (a := 0) (by decide) hz0).mpr (Nat.zero_le _)
  rw [if_pos c0', if_neg c0]
  by_cases c1 : z ≤ 1000
  rotate_left
  · right
    have u : ¬ nI z ≤ (1000 : Int32) := fun q => c1 ((lei (b := 1000) hz0 (by decide)).mp q)
    refine ⟨4, s1, hm_w g 285 47 (nI 4), by decide, by decide, ?_, ?_, tt 4⟩
    · rw [if_neg u, hs_bd_s, hs_bd_s]; rfl
    · unfold njX12_ofArrays_75
      rw [if_neg u, if_pos c0']; rfl
  · left
    have u : nI z ≤ (1000 : Int32) := (lei (b := 1000) hz0 (by decide)).mpr c1
    rw [if_pos u, if_pos u, if_pos (T1.w.k mk0.2.2.2.1), X1.2.2.2.2.1, if_pos (show ¬ 104 = 0 by decide), e4, hm_bd_s, if_pos (hin ha (by decide)), cl (show a < 2147483648 by omega)]
    show OK1 s0 (hs_bd (hs_bd (hs_bv (fX9_put 103 (nI a) (nI z) s1) _) _) _) _ F m x (x + 2) d
    rw [yf_put T1.w mk0.2.2.2.2.1 (by rw [mk0.2.2.2.2.2.1]; exact ha)]
    obtain ⟨s', e5, w5, r5, b1, b2, b3⟩ := x_mk26 ha c1 z 0 hs_N (hs_wI s1 103 a (nI z)) (by omega) (by unfold hs_N; omega) (T1.w.wm (by decide)) X1
    obtain ⟨g', e6, d1, d2, d3⟩ := q_a106 ha c1 (nI x + nI (s_sz 188)) z 0 hs_N (hm_w g1 313 a (nI z)) (by omega) (by unfold hs_N; omega)
    have e5' : lX10_make_26 hs_N 102 (nI a) (nI z) (0 : Int32) (hs_wI s1 103 a (nI z)) = some s' := e5
    have e6' : nlX12_ofArrays_106 hs_N (nI a) (nI x + nI (s_sz 188)) (nI z) (0 : Int32) (hm_w g1 313 a (nI z)) = some g' := e6
    have T2 : TR s0 s' g' F m x d := by
      refine T1.ar w5 r5 (fun b h2 h3 => ?_) (fun b h2 h3 => ?_) (fun a' ha' => ?_) (fun a' z' ha' hz' hg i hi => ?_)
      · rw [b1 b h3]
        funext j
        rw [hs_I_w, if_neg h2]
      · rw [d1 b h3, hm_w_ne h2]
      · rw [b1 103 (by decide), hs_I_w, if_pos rfl, d1 313 (by decide), hm_w_at]
        by_cases c : a' = a
        · rw [if_pos c, if_pos c]
        · rw [if_neg c, if_neg c]; exact T1.1.2.2.2.2.2.2.2.2.2.2.2.1 a' ha'
      · rw [d1 313 (by decide), hm_w_at] at hg
        by_cases c : a' = a
        · rw [if_pos c] at hg
          have ez : z = z' := (eqi (by omega) (by omega)).mp hg
          rw [c, b2 i (Nat.zero_le _) (by omega), d2 i (Nat.zero_le _) (by omega)]
        · rw [if_neg c] at hg
          have q := T1.1.2.2.2.2.2.2.2.2.2.2.2.2 a' z' ha' hz' hg i hi
          rw [b3 _ (by omega), d3 _ (by omega), hs_I_w, if_neg (by decide), hm_w_ne (by decide)]
          exact q
    refine T2.doneA (x + 2) ?_ ?_
    · show hs_bd (hs_bd (hs_bv (lX10_make_26 hs_N 102 (nI a) (nI z) (0 : Int32) (hs_wI s1 103 a (nI z))) _) _) _ = _
      rw [e5']
      rfl
    · rw [cl (show F < 2147483648 by omega), T.2.2.2.2.2.2.2.2.1, e6', hm_bv_s, nI_add]
      rfl
theorem TR.a60 {s0 s : hs_S} {g : hm} {F m x d kd a z : Nat} (T : TR s0 s g F m x (d + 1)) (hk : kd = 79 ∨ kd = 46) (ha : a < 4) (hz : z ≤ 1000) (hg : g 313 a = nI z) (y : Nat) (val : Int32) : OK1 s0 (jX6_actOnArray_60 100 (105 + 3 * F) (nI kd) (nI a) val s) (njX12_ofArrays_170 (nI kd) (nI a) (nI y) val g) F m x y (if kd = 79 then d else d + 1) ∨ TH1 s0 (jX6_actOnArray_60 100 (105 + 3 * F) (nI kd) (nI a) val s) (njX12_ofArrays_170 (nI kd) (nI a) (nI y) val g) F := by
  have hF := T.2.1
  have hd := T.2.2.2.2.2.2.2.2.2.2.2.1
  obtain ⟨i0, s1, g1, e3, e4, T1⟩ := T.pop
  have X1 := T1.1.2.1
  have k8 := T1.w.k mk0.2.2.2.1
  have hg1 : g1 313 a = nI z := by
    have q := q_pop T.2.1 T.2.2.2.1 T.2.2.2.2.2.2.2.2.2.2.2.2.1 (by omega)
    rw [e4] at q
    have q2 : g1 = _ := congrArg Prod.snd (Option.some.inj q)
    rw [q2]
    show hm_w g 317 F (nI d) 313 a = nI z
    rw [hm_w_ne (by decide)]; exact hg
  have hc : hs_I s1 103 a = nI z := (T1.1.2.2.2.2.2.2.2.2.2.2.2.1 a ha).trans hg1
  have hs : fX10_sizeOf 102 (nI a) s1 = some (nI z, s1) := by rw [x_asz T1.w X1 ha, hc]
  unfold jX6_actOnArray_60 njX12_ofArrays_170 fX10_has
  rw [if_pos T.k3, e3, hs_bd_s, if_pos T1.k5, X1.2.2.2.1, if_pos (show ¬ 103 = 0 by decide), e4, hm_bd_s]
  show OK1 s0 (if hs_kd s1 102 = 8 then hs_bd (if i0 < 0 then some ((0 : Int32), s1) else if hs_kd s1 102 = 8 then hs_bd (fX10_sizeOf 102 (nI a) s1) _ else none) _ else none) _ F m x y _ ∨ TH1 s0 (if hs_kd s1 102 = 8 then hs_bd (if i0 < 0 then some ((0 : Int32), s1) else if hs_kd s1 102 = 8 then hs_bd (fX10_sizeOf 102 (nI a) s1) _ else none) _ else none) _ F
  rw [if_pos k8, if_pos k8, hs, hs_bd_s, if_pos (hin ha (by decide)), cl (show a < 2147483648 by omega), hg1]
  by_cases c0 : i0 < 0
  · right
    refine ⟨2, s1, hm_w g1 285 47 (nI 2), by decide, by decide, ?_, ?_, T1.tt 2 T1.w rfl (fun _ _ _ => rfl) rfl⟩
    · rw [if_pos c0, hs_bd_s, if_pos (show (0 : Int32) = 0 from rfl)]; rfl
    · rw [if_pos c0]; rfl
  obtain ⟨i, hi0, ei⟩ := nI_of c0
  subst ei
  rw [if_neg c0, if_neg c0]
  by_cases c1 : i < z
  rotate_left
  · right
    refine ⟨2, s1, hm_w g1 285 47 (nI 2), by decide, by decide, ?_, ?_, T1.tt 2 T1.w rfl (fun _ _ _ => rfl) rfl⟩
    · rw [if_pos ((lei (by omega) hi0).mpr (by omega)), hs_bd_s, if_pos (show (0 : Int32) = 0 from rfl)]; rfl
    · rw [if_neg (fun q => absurd ((lti hi0 (by omega)).mp q) (by omega))]; rfl
  left
  have e1 : (1001 : Int32) * nI a + nI i = nI (1001 * a + i) := ix 1001 a i
  rw [if_neg (fun q => absurd ((lei (by omega) hi0).mp q) (by omega)), hs_bd_s, if_neg i1_ne, if_pos ((lti hi0 (by omega)).mpr c1), e1, if_pos (hin (show 1001 * a + i < 4004 by omega) (by decide)), cl (show 1001 * a + i < 2147483648 by omega), if_pos T1.k5, X1.2.2.2.1, if_pos (show ¬ 103 = 0 by decide)]
  have hel := T1.1.2.2.2.2.2.2.2.2.2.2.2.2 a z ha hz hg1 i c1
  rcases hk with e | e <;> subst e
  · have T2 : TR s0 (hs_wI s1 104 (1000 * a + i) val) (hm_w g1 314 (1001 * a + i) val) F m x d := by
      refine T1.ar (T1.w.wm (by decide)) rfl (fun b h2 h3 => ?_) (fun b h2 h3 => hm_w_ne h3) (fun a' ha' => ?_) (fun a' z' ha' hz' hg' j hj => ?_)
      · funext j
        rw [hs_I_w, if_neg h3]
      · rw [hs_I_w, if_neg (by decide), hm_w_ne (by decide)]; exact T1.1.2.2.2.2.2.2.2.2.2.2.2.1 a' ha'
      · rw [hm_w_ne (by decide)] at hg'
        have q := T1.1.2.2.2.2.2.2.2.2.2.2.2.2 a' z' ha' hz' hg' j hj
        rw [hs_I_w, if_pos rfl, hm_w_at]
        by_cases c : 1000 * a' + j = 1000 * a + i
        · rw [if_pos c, if_pos (by omega)]
        · rw [if_neg c, if_neg (by omega)]; exact q
    rw [if_pos (show nI 79 = (79 : Int32) from rfl), if_pos (show nI 79 = (79 : Int32) from rfl)]
    refine T2.doneA y ?_ rfl
    show (if hs_kd s1 102 = 8 then hs_bv (fX10_put 102 (nI a) (nI i) val s1) _ else none) = _
    rw [if_pos k8, x_aput T1.w X1 ha (by omega)]
    rfl
  · obtain ⟨s2, g2, e5, e6, T2⟩ := T1.push (by omega) (g1 314 (1001 * a + i))
    rw [if_neg (show ¬ nI 46 = (79 : Int32) by decide), if_neg (show ¬ nI 46 = (79 : Int32) by decide)]
    refine T2.doneA y ?_ ?_
    · rw [if_pos T1.k5, if_pos (show ¬ 103 = 0 by decide)]
      show (if hs_kd s1 102 = 8 then hs_bd (fX10_get 102 (nI a) (nI i) s1) _ else none) = _
      rw [if_pos k8, x_aget T1.w X1 ha (by omega), hs_bd_s, if_pos T1.k3, hel, e5]
      rfl
    · rw [if_pos (hin (show 1001 * a + i < 4004 by omega) (by decide)), e6, hm_bv_s]
theorem TR.a46 {s0 s : hs_S} {g : hm} {F m x d n a z : Nat} (T : TR s0 s g F m x (d + 1)) (C : CM s0 m n) (hx : x + 1 < n) (ha : a < 4) (h1 : hs_I s0 304 (4001 * m + (x + 1)) = nI a) (hz : z ≤ 1000) (hg : g 313 a = nI z) : OK1 s0 (fX6_act 100 (105 + 3 * F) (nI 46) s) (nX12_ofArrays (nI 46) g) F m x (x + 2) (d + 1) ∨ TH1 s0 (fX6_act 100 (105 + 3 * F) (nI 46) s) (nX12_ofArrays (nI 46) g) F := by
  have hF := T.2.1
  have e1 : nI (F + 1) - (1 : Int32) = nI F := nI_pred F
  have q := T.a60 (Or.inr rfl) ha hz hg (x + 2) 0
  rw [if_neg (show ¬ 46 = 79 by decide)] at q
  have hp : fX6_act 100 (105 + 3 * F) (nI 46) s = jX6_actOnArray_60 100 (105 + 3 * F) (nI 46) (nI a) 0 s := by
    rw [act_arr (Or.inr (Or.inr (Or.inl rfl))), if_pos T.k5]
    unfold fX6_actOnArray
    rw [if_pos T.k3, T.opd C hx, hs_bd_s, if_neg (by decide), if_neg (by decide), if_neg (by decide), h1]
    cases jX6_actOnArray_60 100 (105 + 3 * F) (nI 46) (nI a) 0 s <;> rfl
  have hq : nX12_ofArrays (nI 46) g = njX12_ofArrays_170 (nI 46) (nI a) (nI (x + 2)) 0 g := by
    rw [T.arr16 C (Or.inr (Or.inr (Or.inl rfl))) hx h1]
    unfold njX12_ofArrays_16
    rw [T.2.2.2.1, e1, if_pos (hin hF (by decide)), q_size (by decide), hm_bd_s, if_neg (by decide), if_neg (by decide), if_neg (by decide), if_neg (by decide), cl (show F < 2147483648 by omega), T.2.2.2.2.2.2.2.2.1, nI_add]
    rfl
  rw [hp, hq]
  exact q
theorem TR.a79 {s0 s : hs_S} {g : hm} {F m x d n a z : Nat} (T : TR s0 s g F m x (d + 1 + 1)) (C : CM s0 m n) (hx : x + 1 < n) (ha : a < 4) (h1 : hs_I s0 304 (4001 * m + (x + 1)) = nI a) (hz : z ≤ 1000) (hg : g 313 a = nI z) : OK1 s0 (fX6_act 100 (105 + 3 * F) (nI 79) s) (nX12_ofArrays (nI 79) g) F m x (x + 2) d ∨ TH1 s0 (fX6_act 100 (105 + 3 * F) (nI 79) s) (nX12_ofArrays (nI 79) g) F := by
  have hF := T.2.1
  have hd := T.2.2.2.2.2.2.2.2.2.2.2.1
  have e1 : nI (F + 1) - (1 : Int32) = nI F := nI_pred F
  obtain ⟨v, s1, g1, e3, e4, T1⟩ := T.pop
  have hg1 : g1 313 a = nI z := by
    have q := q_pop T.2.1 T.2.2.2.1 T.2.2.2.2.2.2.2.2.2.2.2.2.1 (by omega)
    rw [e4] at q
    have q2 : g1 = _ := congrArg Prod.snd (Option.some.inj q)
    rw [q2]
    show hm_w g 317 F (nI (d + 1)) 313 a = nI z
    rw [hm_w_ne (by decide)]; exact hg
  have q := T1.a60 (Or.inl rfl) ha hz hg1 (x + 2) v
  rw [if_pos (show 79 = 79 from rfl)] at q
  have hp : fX6_act 100 (105 + 3 * F) (nI 79) s = jX6_actOnArray_60 100 (105 + 3 * F) (nI 79) (nI a) v s1 := by
    rw [act_arr (Or.inr (Or.inr (Or.inr rfl))), if_pos T.k5]
    unfold fX6_actOnArray
    rw [if_pos T.k3, T.opd C hx, hs_bd_s, if_neg (by decide), if_neg (by decide), if_pos (by decide), if_pos T.k3, e3, hs_bd_s, h1]
    cases jX6_actOnArray_60 100 (105 + 3 * F) (nI 79) (nI a) v s1 <;> rfl
  have hq : nX12_ofArrays (nI 79) g = njX12_ofArrays_170 (nI 79) (nI a) (nI (x + 2)) v g1 := by
    rw [T.arr16 C (Or.inr (Or.inr (Or.inr rfl))) hx h1]
    unfold njX12_ofArrays_16
    rw [T.2.2.2.1, e1, if_pos (hin hF (by decide)), q_size (by decide), hm_bd_s, if_neg (by decide), if_neg (by decide), if_neg (by decide), if_pos (by decide), e4, hm_bd_s, cl (show F < 2147483648 by omega), T.2.2.2.2.2.2.2.2.1, nI_add]
    rfl
  rw [hp, hq]
  exact q
