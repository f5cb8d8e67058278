theorem TR.call {s0 s : hs_S} {g : hm} {F m x d n o no pm : Nat} (T : TR s0 s g F m x d) (hS : SF (hs_R s0) 67) (C : CM s0 m n) (Co : CM s0 o no) (ho : o < 8) (hx : x + 1 < n) (h1 : hs_I s0 304 (4001 * m + (x + 1)) = nI o) (hpm : hs_I s0 287 o = nI pm) (hd : pm ≤ d) : (F + 1 = 60 ∧ fX6_call 100 (105 + 3 * F) s = some (1, s) ∧ nX12_calls g = some (hm_w g 285 46 (1 : Int32))) ∨ ∃ s' g', fX6_call 100 (105 + 3 * F) s = some (3, s') ∧ nX12_calls g = some g' ∧ TR s0 s' g' (F + 1) o 0 0 := by
  have T0 := T
  obtain ⟨a1, a2, a3, a4, a5, a6, a7, a8, a9, a10, a11, a12, a13, a14, a15, a16, a17⟩ := T
  have hn : n ≤ 4000 := by obtain ⟨a, h, pm, e, v, r0, r1, c1, -⟩ := C; exact c1
  obtain ⟨p4, c3⟩ : pm ≤ 4 ∧ hs_I s0 (73 + 2 * o) 4 = nI pm := by
    obtain ⟨a, h, pm', e, v, r0, r1, c1, c2, c3, c4, c5, -⟩ := Co
    have e : pm = pm' := (eqi (by omega) (by omega)).mp (hpm.symm.trans c5)
    rw [e]
    exact ⟨c4, c3⟩
  have w := a1.1
  have X := a1.2.1
  have hS1 : SF (hs_R s) 67 := hS.c67 a1.2.2.2.2.1
  have e1 : nI (F + 1) - (1 : Int32) = nI F := nI_pred F
  have hcode : nX12_codeAt (1 : Int32) g = some (hs_I s0 304 (4001 * m + (x + 1)), g) := T0.code (i := 1) (by omega)
  have k3 := T0.k3
  unfold fX6_call nX12_calls
  rw [if_pos T0.k5, a3]
  by_cases c1 : F + 1 = 60
  · left
    have u : ¬ nI (F + 1) < (60 : Int32) := fun z => absurd ((lti (b := 60) (by omega) (by decide)).mp z) (by omega)
    have u2 : g 285 40 = (60 : Int32) := by rw [a4, c1]; rfl
    exact ⟨c1, by rw [if_neg u], by rw [if_pos u2]⟩
  right
  have hF1 : F + 1 < 60 := by omega
  have u : nI (F + 1) < (60 : Int32) := (lti (b := 60) (by omega) (by decide)).mpr (by omega)
  have u2 : ¬ g 285 40 = (60 : Int32) := fun q => c1 ((eqi (b := 60) (by omega) (by decide)).mp (a4.symm.trans q))
  have k3' := w.k (mk hF1).1
  -- the class
  obtain ⟨s1, b1, b2, b3, b4, b5, b6, b7, b8, b9⟩ := x_begin w X hF1 ho
  have X1 : MX (hs_R s1) := X.to b8 b9
  have b1' : fX3_begin (105 + 3 * (F + 1)) (67 + 6 + 2 * o) s = some s1 := b1
  have k6 : hs_kd s1 (67 + 6 + 2 * o) = 6 := b2.k (k6_m ho).1
  have i4 : hs_I s1 (67 + 6 + 2 * o) 4 = nI pm := by
    show hs_I s1 (73 + 2 * o) 4 = nI pm
    rw [b3 (73 + 2 * o) (by omega) (by omega), a1.2.2.1 _ (by omega)]; exact c3
  have t1 : hs_I s1 (105 + 3 * F) 2 = nI (d - pm + pm) := by rw [b3 (105 + 3 * F) (by omega) (by omega), a14, show d - pm + pm = d by omega]
  obtain ⟨s2, c1', c2, c3', c4, c5, c6, c7, c8⟩ := x_c45 (F := F) (e := d - pm) hF1 pm hs_N (nI pm - (1 : Int32)) s1 (by unfold hs_N; omega) p4 (by rw [Int32.sub_add_cancel]) b2 X1 t1 (by omega)
  have i3 : hs_I s2 100 3 = nI (F + 1) := by rw [c4 100 (by omega) (by omega), b3 100 (by omega) (by omega)]; exact a3
  -- the reference
  have e2 : nI d - nI pm = nI (d - pm) := pk_sub hd
  have a287 : g 287 o = nI pm := by rw [a1.2.2.2.2.2.1 287 (by decide) (by decide)]; exact hpm
  obtain ⟨g3, d1, d2, d3, d4, d5, d6, d7, d8, d9, d10, d11⟩ := qx_enter (g := hm_w g 317 F (nI (d - pm))) (o := o) hF1 (by rw [hm_w_ne (by decide)]; exact a4)
  have g317 : g3 317 F = nI (d - pm) := by rw [(d7 F (by omega)).2.2, hm_w_eq]
  have g287 : g3 287 o = nI pm := by rw [d2 287 (by decide) (by decide), hm_w_ne (by decide)]; exact a287
  obtain ⟨g4, q1, q2, q3, q4⟩ := qx_c50 (e := d - pm) hF1 ho p4 (by omega) pm 0 hs_N g3 (by omega) (by unfold hs_N; omega) g287 g317 d10
  have q1' : nlX12_calls_50 hs_N (nI o) (nI F) (0 : Int32) g3 = some g4 := q1
  refine ⟨hs_wI s2 100 3 (nI (F + 2)), g4, ?_, ?_, ?_⟩
  · rw [if_pos u, X.2.1, if_pos (show ¬ 68 = 0 by decide), if_pos k3, T0.opd C hx, hs_bd_s, h1]
    show (if hs_kd s 67 = 0 then hs_bd (fX0_method 67 (nI o) s) _ else none) = _
    rw [if_pos (w.k (sk isS_67).1), x_mth w isS_67 hS1 ho, hs_bd_s, if_pos T0.k5, a3, x_frame w X hF1, hs_bd_s, if_pos k3', b1']
    show (if hs_kd s1 (67 + 6 + 2 * o) = 6 then hs_bv (lX6_call_45 hs_N 100 (105 + 3 * F) (105 + 3 * (F + 1)) (hs_I s1 (67 + 6 + 2 * o) 4 - (1 : Int32)) s1) _ else none) = _
    rw [if_pos k6, i4, c1']
    show (if hs_kd s2 100 = 5 then some ((3 : Int32), hs_wI s2 100 3 (hs_I s2 100 3 + (1 : Int32))) else none) = _
    rw [if_pos (c2.k mk0.1), i3, nI_1]
  · rw [if_neg u2, hcode, hm_bd_s, a4, e1, if_pos (hin a2 (by decide)), h1, if_pos (hin ho (by decide)), hm_bv_s, cl (show F < 2147483648 by omega), cl (show o < 2147483648 by omega), a13, a287, e2, d1, hm_bv_s, q1', hm_bv_s]
  · -- what agrees
    have I : ∀ b, b ≠ 100 → b ≠ 105 + 3 * F → b ≠ 105 + 3 * (F + 1) → b ≠ 106 + 3 * (F + 1) → hs_I (hs_wI s2 100 3 (nI (F + 2))) b = hs_I s b := fun b x1 x2 x3 x4 => by
      have : hs_I (hs_wI s2 100 3 (nI (F + 2))) b = hs_I s2 b := by
        funext i
        rw [hs_I_w, if_neg x1]
      rw [this, c4 b x2 x4, b3 b x3 x4]
    have I100 : ∀ i, i ≠ 3 → hs_I (hs_wI s2 100 3 (nI (F + 2))) 100 i = hs_I s 100 i := fun i hi => by
      rw [hs_I_w, if_pos rfl, if_neg hi, c4 100 (by omega) (by omega), b3 100 (by omega) (by omega)]
    have IF : ∀ i, i ≠ 2 → hs_I (hs_wI s2 100 3 (nI (F + 2))) (105 + 3 * F) i = hs_I s (105 + 3 * F) i := fun i hi => by
      rw [hs_I_w, if_neg (by omega), c6 i hi, b3 (105 + 3 * F) (by omega) (by omega)]
    have RR : ∀ a, a ≠ 105 + 3 * (F + 1) → hs_R (hs_wI s2 100 3 (nI (F + 2))) a = hs_R s a := fun a ha => by
      show hs_R s2 a = hs_R s a
      rw [c3', b8 a ha]
    have G : ∀ a, a < 315 → a ≠ 285 → g4 a = g a := fun a h1 h2 => by
      rw [q2 a (by omega), d2 a h1 h2, hm_w_ne (by omega)]
    have G285 : ∀ j, j ≠ 40 → g4 285 j = g 285 j := fun j hj => by
      rw [q2 285 (by decide), d11 j hj, hm_w_ne (by decide)]
    have G5 : ∀ f, f ≠ F + 1 → g4 315 f = g 315 f := fun f hf => by rw [q2 315 (by decide), (d7 f hf).1, hm_w_ne (by decide)]
    have G6 : ∀ f, f ≠ F + 1 → g4 316 f = g 316 f := fun f hf => by rw [q2 316 (by decide), (d7 f hf).2.1, hm_w_ne (by decide)]
    have G7 : ∀ f, f < F → g4 317 f = g 317 f := fun f hf => by rw [q2 317 (by decide), (d7 f (by omega)).2.2, hm_w_o (by omega)]
    have G8 : g4 318 = g 318 := by rw [q2 318 (by decide), d3, hm_w_ne (by decide)]
    have G9 : ∀ i, i < 20 * (F + 1) → g4 319 i = g 319 i := fun i hi => by rw [q4 i (by omega), d9 i hi, hm_w_ne (by decide)]
    obtain ⟨z1, z2, z3, z4, z5, zg, z6, z7, z8, z9, z10, z11, z12⟩ := a1
    have w' : WT (hs_wI s2 100 3 (nI (F + 2))) := c2.wm (by decide)
    have X' : MX (hs_R (hs_wI s2 100 3 (nI (F + 2)))) := by
      show MX (hs_R s2)
      rw [c3']; exact X1
    refine ⟨⟨w', X', fun b hb => (I b (by omega) (by omega) (by omega) (by omega)).trans (z3 b hb), fun b hb => (I b (by omega) (by omega) (by omega) (by omega)).trans (z4 b hb), fun a ha => ?_, fun a x1 x2 => (G a (by omega) (by omega)).trans (zg a x1 x2), ?_, ?_, ?_, ?_, ?_, fun a ha => ?_, fun a z ha hz hg i hi => ?_⟩, hF1, ?_, ?_, fun f hf => ?_, ho, ?_, ?_, ?_, ?_, fun i hi => ?_, by omega, ?_, ?_, fun i hi => absurd hi (Nat.not_lt_zero _), ?_, ?_⟩
    · rw [RR a (fun q => ha (by rw [q]; exact (mk hF1).1))]; exact z5 a ha
    · rw [I100 6 (by decide), G285 37 (by decide)]; exact z6
    · rw [I100 7 (by decide), G285 38 (by decide)]; exact z7
    · rw [I100 4 (by decide), I100 6 (by decide), G285 39 (by decide)]; exact z8
    · rw [I100 5 (by decide)]; exact z9
    · rw [G285 36 (by decide)]; exact z10
    · rw [I 103 (by omega) (by omega) (by omega) (by omega), G 313 (by decide) (by decide)]; exact z11 a ha
    · rw [G 313 (by decide) (by decide)] at hg
      rw [I 104 (by omega) (by omega) (by omega) (by omega), G 314 (by decide) (by decide)]
      exact z12 a z ha hz hg i hi
    · rw [hs_I_w, if_pos rfl, if_pos rfl]
    · rw [q2 285 (by decide)]; exact d10
    · by_cases cf : f = F
      · subst cf
        refine ⟨⟨⟨m, a6, by rw [G5 f (by omega)]; exact a7, by rw [RR _ (by omega)]; exact a8⟩, by rw [IF 4 (by decide), G6 f (by omega), a10, a9], fun i hi => by rw [I (106 + 3 * f) (by omega) (by omega) (by omega) (by omega), G9 _ (by omega)]; exact a11 i hi⟩, d - pm, by omega, ?_, ?_, fun i hi => ?_⟩
        · rw [q2 317 (by decide)]; exact g317
        · rw [hs_I_w, if_neg (by omega)]; exact c5
        · rw [I (107 + 3 * f) (by omega) (by omega) (by omega) (by omega), G8]; exact a15 i (by omega)
      · obtain ⟨f1, f2⟩ := a5 f (by omega)
        exact ⟨f1.to (by rw [RR _ (by omega)]) (by rw [I _ (by omega) (by omega) (by omega) (by omega)]) (I _ (by omega) (by omega) (by omega) (by omega)) (G5 f (by omega)) (G6 f (by omega)) (fun i hi => G9 _ (by omega)), f2.to (by rw [I _ (by omega) (by omega) (by omega) (by omega)]) (I _ (by omega) (by omega) (by omega) (by omega)) (G7 f (by omega)) (fun i hi => by rw [G8])⟩
    · rw [q2 315 (by decide)]; exact d4
    · show hs_R s2 (105 + 3 * (F + 1)) 3 = 74 + 2 * o
      rw [c3']; exact b7
    · rw [q2 316 (by decide)]; exact d5
    · rw [hs_I_w, if_neg (by omega), c4 _ (by omega) (by omega)]; exact b4
    · rw [hs_I_w, if_neg (by omega)]
      by_cases ci : i < pm
      · rw [c7 i ci, q3 i (Nat.zero_le _) ci, d3, hm_w_ne (by decide), b3 (107 + 3 * F) (by omega) (by omega)]
        exact a15 _ (by omega)
      · rw [c8 i (by omega), q4 _ (by omega), b6 i hi, d8 i hi]
    · rw [q2 317 (by decide)]; exact d6
    · rw [hs_I_w, if_neg (by omega), c4 _ (by omega) (by omega)]; exact b5
    · rw [G285 47 (by decide)]; exact a16
    · rw [G285 46 (by decide)]; exact a17
/-- a run is over: what the calls show of it -/
def EN (s0 s : hs_S) (g : hm) : Prop := WT s ∧ MX (hs_R s) ∧ (∀ b, b < 100 → hs_I s b = hs_I s0 b) ∧ (∀ b, 285 ≤ b → hs_I s b = hs_I s0 b) ∧ (∀ a, gm_k a ≠ 3 → hs_R s a = hs_R s0 a) ∧ (∀ a, 286 ≤ a → a < 313 → g a = hs_I s0 a) ∧ hs_I s 100 5 = g 285 36 ∧ hs_I s 100 6 = g 285 37 ∧ hs_I s 100 7 = g 285 38 ∧ (∀ a, a < 4 → hs_I s 103 a = g 313 a) ∧ ∀ a z, a < 4 → z ≤ 1000 → g 313 a = nI z → ∀ i, i < z → hs_I s 104 (1000 * a + i) = g 314 (1001 * a + i)
theorem Ba.en {s0 s s' : hs_S} {g g' : hm} (h : Ba s0 s g) (v : Int32) (w : WT s') (hR : hs_R s' = hs_R s) (hb : ∀ b, b ≠ 100 → hs_I s' b = hs_I s b) (h5 : hs_I s' 100 5 = v) (h6 : hs_I s' 100 6 = hs_I s 100 6) (h7 : hs_I s' 100 7 = hs_I s 100 7) (gr : ∀ a, a ≠ 285 → g' a = g a) (g36 : g' 285 36 = v) (g37 : g' 285 37 = g 285 37) (g38 : g' 285 38 = g 285 38) : EN s0 s' g' := by
  obtain ⟨b1, b2, b3, b4, b5, bg, b6, b7, b8, b9, b10, b11, b12⟩ := h
  refine ⟨w, by rw [hR]; exact b2, fun b h => (hb b (by omega)).trans (b3 b h), fun b h => (hb b (by omega)).trans (b4 b h), fun a h => by rw [hR]; exact b5 a h, fun a x1 x2 => (gr a (by omega)).trans (bg a x1 x2), by rw [h5, g36], by rw [h6, g37]; exact b6, by rw [h7, g38]; exact b7, fun a ha => by rw [hb 103 (by decide), gr 313 (by decide)]; exact b11 a ha, fun a z ha hz hg i hi => ?_⟩
  rw [gr 313 (by decide)] at hg
  rw [hb 104 (by decide), gr 314 (by decide)]
  exact b12 a z ha hz hg i hi
theorem hm_w_c {g : hm} {a i b j : Nat} {v w : Int32} (h : a ≠ b) : hm_w (hm_w g a i v) b j w = hm_w (hm_w g b j w) a i v := by
  funext c k
  unfold hm_w
  by_cases c1 : c = a
  · rw [if_neg (fun q => h (c1.symm.trans q)), if_pos c1, if_pos c1, if_neg (fun q => h (c1.symm.trans q))]
  · by_cases c2 : c = b
    · rw [if_pos c2, if_neg c1, if_pos c2]
      by_cases c3 : k = j
      · rw [if_pos c3, if_neg c1]
      · rw [if_neg c3, if_neg c1]
    · rw [if_neg c2, if_neg c1, if_neg c1, if_neg c2]
/-- the frame on top is left -/
theorem TR.low {s0 s : hs_S} {g : hm} {G m x d m' x' d' : Nat} (T : TR s0 s g (G + 1) m x d) (hm8 : m' < 8) (e1 : g 315 G = nI m') (e2 : g 316 G = nI x') (e3 : g 317 G = nI d') (hd : d' < 2147483648) : TR s0 (hs_wI s 100 3 (nI (G + 1))) (hm_w g 285 40 (nI (G + 1))) G m' x' d' := by
  obtain ⟨a1, a2, a3, a4, a5, a6, a7, a8, a9, a10, a11, a12, a13, a14, a15, a16, a17⟩ := T
  obtain ⟨z1, z2, z3, z4, z5, zg, z6, z7, z8, z9, z10, z11, z12⟩ := a1
  have I : ∀ b, b ≠ 100 → hs_I (hs_wI s 100 3 (nI (G + 1))) b = hs_I s b := fun b hb => by
    funext i
    rw [hs_I_w, if_neg hb]
  have I100 : ∀ i, i ≠ 3 → hs_I (hs_wI s 100 3 (nI (G + 1))) 100 i = hs_I s 100 i := fun i hi => by
    rw [hs_I_w, if_pos rfl, if_neg hi]
  have gr : ∀ a, a ≠ 285 → hm_w g 285 40 (nI (G + 1)) a = g a := fun a ha => hm_w_ne ha
  have g285 : ∀ j, j ≠ 40 → hm_w g 285 40 (nI (G + 1)) 285 j = g 285 j := fun j hj => hm_w_o hj
  obtain ⟨⟨⟨m2, f1, f2, f3⟩, f4, f5⟩, d2, f6, f7, f8, f9⟩ := a5 G (by omega)
  have em : m' = m2 := (eqi (by omega) (by omega)).mp (e1.symm.trans f2)
  have ed : d' = d2 := (eqi hd (by omega)).mp (e3.symm.trans f7)
  subst em; subst ed
  refine ⟨⟨z1.wm (by decide), z2, fun b h => (I b (by omega)).trans (z3 b h), fun b h => (I b (by omega)).trans (z4 b h), z5, fun a x1 x2 => (gr a (by omega)).trans (zg a x1 x2), by rw [I100 6 (by decide), g285 37 (by decide)]; exact z6, by rw [I100 7 (by decide), g285 38 (by decide)]; exact z7, by rw [I100 4 (by decide), I100 6 (by decide), g285 39 (by decide)]; exact z8, by rw [I100 5 (by decide)]; exact z9, by rw [g285 36 (by decide)]; exact z10, fun a ha => by rw [I 103 (by decide), gr 313 (by decide)]; exact z11 a ha, fun a z ha hz hg i hi => ?_⟩, by omega, by rw [hs_I_w, if_pos rfl, if_pos rfl], by rw [hm_w_eq], fun f hf => ?_, f1, by rw [gr 315 (by decide)]; exact f2, f3, by rw [gr 316 (by decide)]; exact e2, by rw [I _ (by omega), f4]; exact e2, fun i hi => by rw [I _ (by omega), gr 319 (by decide)]; exact f5 i hi, f6, by rw [gr 317 (by decide)]; exact f7, by rw [I _ (by omega)]; exact f8, fun i hi => by rw [I _ (by omega), gr 318 (by decide)]; exact f9 i hi, by rw [g285 47 (by decide)]; exact a16, by rw [g285 46 (by decide)]; exact a17⟩
  · rw [gr 313 (by decide)] at hg
    rw [I 104 (by decide), gr 314 (by decide)]
    exact z12 a z ha hz hg i hi
  · obtain ⟨h1, h2⟩ := a5 f (by omega)
    exact ⟨h1.to rfl (by rw [I _ (by omega)]) (I _ (by omega)) (by rw [gr 315 (by decide)]) (by rw [gr 316 (by decide)]) (fun i _ => by rw [gr 319 (by decide)]), h2.to (by rw [I _ (by omega)]) (I _ (by omega)) (by rw [gr 317 (by decide)]) (fun i _ => by rw [gr 318 (by decide)])⟩
/-- ends: the class pops and leaves -/
theorem TR.ends {s0 s : hs_S} {g : hm} {F m x d : Nat} (T : TR s0 s g F m x (d + 1)) (hlow : ∀ G, F = G + 1 → ∃ m' x' d', m' < 8 ∧ g 315 G = nI m' ∧ g 316 G = nI x' ∧ g 317 G = nI d' ∧ d' < 20) : ∃ v s1, fX3_pop (105 + 3 * F) s = some (v, s1) ∧ hs_kd s1 100 = 5 ∧ ((∃ s' g', F = 0 ∧ fX6_leave 100 v s1 = some (0, s') ∧ nX12_ends g = some g' ∧ g' 285 40 = 0 ∧ g' 285 46 = 0 ∧ g' 285 47 = 0 ∧ EN s0 s' g') ∨ ∃ s' g' G m' y d', fX6_leave 100 v s1 = some (3, s') ∧ nX12_ends g = some g' ∧ TR s0 s' g' G m' y d') := by
  have hF := T.2.1
  have e2 : nI (F + 1) - (1 : Int32) = nI F := nI_pred F
  obtain ⟨v, s1, g1, e1, e3, T1⟩ := T.pop
  have gq : g1 = hm_w g 317 F (nI d) := by
    have q := q_pop T.2.1 T.2.2.2.1 T.2.2.2.2.2.2.2.2.2.2.2.2.1 (by have := T.2.2.2.2.2.2.2.2.2.2.2.1; omega)
    rw [e3] at q
    exact congrArg Prod.snd (Option.some.inj q)
  refine ⟨v, s1, e1, T1.k5, ?_⟩
  unfold fX6_leave nX12_ends
  rw [if_pos T1.k5, T1.2.2.1, e2, e3, hm_bd_s, T1.2.2.2.1, e2, hm_w_eq, hs_I_w, if_pos rfl, if_pos rfl]
  by_cases c0 : F = 0
  · left
    have u : nI F = 0 := by rw [c0]; rfl
    have u2 : ¬ (0 : Int32) < nI F := by rw [u]; decide
    refine ⟨hs_wI (hs_wI s1 100 3 (nI F)) 100 5 v, hm_w (hm_w g1 285 40 (nI F)) 285 36 v, c0, by rw [if_neg u2], by rw [if_pos u], ?_, ?_, ?_, ?_⟩
    · rw [hm_w_o (by decide), hm_w_eq]; exact u
    · rw [hm_w_o (by decide), hm_w_o (by decide)]; exact T1.2.2.2.2.2.2.2.2.2.2.2.2.2.2.2.2
    · rw [hm_w_o (by decide), hm_w_o (by decide)]; exact T1.2.2.2.2.2.2.2.2.2.2.2.2.2.2.2.1
    · refine T1.1.en v ((T1.w.wm (by decide)).wm (by decide)) rfl (fun b hb => ?_) ?_ ?_ ?_ (fun a ha => by rw [hm_w_ne ha, hm_w_ne ha]) ?_ ?_ ?_
      · funext i
        rw [hs_I_w, if_neg hb, hs_I_w, if_neg hb]
      · rw [hs_I_w, if_pos rfl, if_pos rfl]
      · rw [hs_I_w, if_pos rfl, if_neg (by decide), hs_I_w, if_pos rfl, if_neg (by decide)]
      · rw [hs_I_w, if_pos rfl, if_neg (by decide), hs_I_w, if_pos rfl, if_neg (by decide)]
      · rw [hm_w_eq]
      · rw [hm_w_o (by decide), hm_w_o (by decide)]
      · rw [hm_w_o (by decide), hm_w_o (by decide)]
  · right
    obtain ⟨G, rfl⟩ : ∃ G, F = G + 1 := ⟨F - 1, by omega⟩
    obtain ⟨m', x', d', q1, q2, q3, q4, q5⟩ := hlow G rfl
    have u : ¬ nI (G + 1) = 0 := fun q => c0 ((eqi (b := 0) (by omega) (by decide)).mp q)
    have u2 : (0 : Int32) < nI (G + 1) := (lti (a := 0) (by decide) (by omega)).mpr (by omega)
    have e5 : nI (G + 1) - (1 : Int32) = nI G := nI_pred G
    have T2 := T1.low q1 (by rw [gq, hm_w_ne (by decide)]; exact q2) (by rw [gq, hm_w_ne (by decide)]; exact q3) (by rw [gq, hm_w_o (by omega)]; exact q4) (by omega)
    obtain ⟨s3, g3, p1, p2, T3⟩ := T2.push q5 v
    have T4 := T3.at (x' + 2)
    have e4 : nI x' + (2 : Int32) = nI (x' + 2) := nI_add x' 2
    have p3 := q_push T2.2.1 T2.2.2.2.1 T2.2.2.2.2.2.2.2.2.2.2.2.2.1 (by omega) v
    rw [p2] at p3
    have g3e := Option.some.inj p3
    have hcz : fX4_sizeOf (184 : Int32) s3 = some (nI 2, s3) := by
      have := x_size (k := 184) (by decide) s3
      rw [show cz 184 = 2 by decide] at this
      exact this
    have sp := x_push T2.w T2.1.2.1 T2.2.1 T2.2.2.2.2.2.2.2.2.2.2.2.2.2.1 q5 v
    rw [p1] at sp
    have s3e := Option.some.inj sp
    have pl3 := T3.2.2.2.2.2.2.2.2.2.1
    refine ⟨hs_wI s3 (105 + 3 * G) 4 (nI (x' + 2)), hm_w g3 316 G (nI (x' + 2)), G, m', x' + 2, d' + 1, ?_, ?_, T4⟩
    · rw [if_pos u2, e5, x_frame T2.w T2.1.2.1 (by omega), hs_bd_s, if_pos T2.k3, p1]
      show (if hs_kd s3 (105 + 3 * G) = 3 then hs_bd (fX4_sizeOf (184 : Int32) s3) _ else none) = _
      rw [if_pos T3.k3, hcz, hs_bd_s, if_pos T3.k3, pl3, nI_add]
    · have a316 : hm_w g1 285 40 (nI (G + 1)) 316 G = nI x' := T2.2.2.2.2.2.2.2.2.1
      have pp := q_push (g := hm_w (hm_w g1 285 40 (nI (G + 1))) 316 G (nI (x' + 2))) (F := G) (d := d') (by omega) (by rw [hm_w_ne (by decide), hm_w_eq]) (by rw [hm_w_ne (by decide)]; exact T2.2.2.2.2.2.2.2.2.2.2.2.2.1) (by omega) v
      rw [if_neg u, e5, if_pos (hin (show G < 60 by omega) (by decide)), cl (show G < 2147483648 by omega), a316, e4, hm_bv_s, pp, hm_bv_s, g3e, hm_w_c (a := 317) (b := 316) (by decide), hm_w_c (a := 318) (b := 316) (by decide)]
