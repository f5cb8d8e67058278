/-- where a KIND that is thrown goes on in a frame -/
theorem h_for {s0 s : hs_S} {g : hm} {m n e : Nat} {X : Int32} (B : Ba s0 s g) (hm8 : m < 8) (C : CM s0 m n) (hat : ∀ z, z < 8 → ∃ v, v ≤ 4000 ∧ hs_I s0 290 m = nI 0 ∨ v ≤ 4000 ∧ (∀ h, hs_I s0 290 m = nI h → z < h → h ≤ 8 → hs_I s0 306 (32 * m + 4 * z + 2) = nI v)) (h47 : g 285 47 = nI e) : (∃ z y, z < 8 ∧ y ≤ 4000 ∧ hs_I s0 306 (32 * m + 4 * z + 2) = nI y ∧ fX7_handlerFor (73 + 2 * m) X (nI e) s = some (nI y, s) ∧ nlX12_caught_33 hs_N (nI m) X (0 : Int32) g = some (1, nI (32 * m + 4 * z), g)) ∨ (fX7_handlerFor (73 + 2 * m) X (nI e) s = some (-1, s) ∧ nlX12_caught_33 hs_N (nI m) X (0 : Int32) g = some (0, 0, g)) := by
  obtain ⟨a, h, pm, ee, v, r0, r1, c1, c2, c3, c4, c5, c6, c7, c8, c9, c10⟩ := C
  unfold fX7_handlerFor
  rcases h_loop (X := X) (e := e) B hm8 r1 c6 c8 c9 c7 h47 h 0 hs_N hs_N (by omega) (by unfold hs_N; omega) (by unfold hs_N; omega) with ⟨z, z1, z2, z3⟩ | ⟨u, z2, z3⟩
  · left
    have z2' : lX7_handlerFor_2 hs_N (73 + 2 * m) X (nI e) (0 : Int32) s = some (1, nI z, s) := z2
    have n2 : fX7_handlerNumber (73 + 2 * m) (nI z) (2 : Int32) s = some (hs_I s0 306 (32 * m + (4 * z + 2)), s) := CM.hn B hm8 r1 c9 c7 z1 (i := 2) (by decide)
    obtain ⟨y, hy⟩ := hat z (by omega)
    have hy2 : y ≤ 4000 ∧ hs_I s0 306 (32 * m + 4 * z + 2) = nI y := by
      rcases hy with ⟨-, q⟩ | ⟨q1, q2⟩
      · have := (eqi (a := h) (b := 0) (by omega) (by decide)).mp (c8.symm.trans q)
        omega
      · exact ⟨q1, q2 h c8 z1 c7⟩
    refine ⟨z, y, by omega, hy2.1, hy2.2, ?_, z3⟩
    rw [z2', hs_b3_s, if_neg (by decide)]
    unfold jX7_handlerFor_61
    rw [if_pos (B.1.k (k6_m hm8).1), n2, hs_bd_s, ← Nat.add_assoc, hy2.2]
  · right
    have z2' : lX7_handlerFor_2 hs_N (73 + 2 * m) X (nI e) (0 : Int32) s = some (0, u, s) := z2
    refine ⟨?_, z3⟩
    rw [z2', hs_b3_s, if_pos rfl]
theorem TT.low {s0 s : hs_S} {g : hm} {F e : Nat} (T : TT s0 s g (F + 1) e) : TT s0 (hs_wI s 100 3 (nI F)) (hm_w g 285 40 (nI F)) F e := by
  obtain ⟨a1, a2, a3, a4, a5, a6, a7, a8⟩ := T
  obtain ⟨z1, z2, z3, z4, z5, zg, z6, z7, z8, z9, z10, z11, z12⟩ := a1
  have I : ∀ b, b ≠ 100 → hs_I (hs_wI s 100 3 (nI F)) b = hs_I s b := fun b hb => by
    funext i
    rw [hs_I_w, if_neg hb]
  have I100 : ∀ i, i ≠ 3 → hs_I (hs_wI s 100 3 (nI F)) 100 i = hs_I s 100 i := fun i hi => by
    rw [hs_I_w, if_pos rfl, if_neg hi]
  have gr : ∀ a, a ≠ 285 → hm_w g 285 40 (nI F) a = g a := fun a ha => hm_w_ne ha
  have g285 : ∀ j, j ≠ 40 → hm_w g 285 40 (nI F) 285 j = g 285 j := fun j hj => hm_w_o hj
  refine ⟨⟨z1.wm (by decide), z2, fun b h => (I b (by omega)).trans (z3 b h), fun b h => (I b (by omega)).trans (z4 b h), z5, fun a x1 x2 => (gr a (by omega)).trans (zg a x1 x2), by rw [I100 6 (by decide), g285 37 (by decide)]; exact z6, by rw [I100 7 (by decide), g285 38 (by decide)]; exact z7, by rw [I100 4 (by decide), I100 6 (by decide), g285 39 (by decide)]; exact z8, by rw [I100 5 (by decide)]; exact z9, by rw [g285 36 (by decide)]; exact z10, fun a ha => by rw [I 103 (by decide), gr 313 (by decide)]; exact z11 a ha, fun a z ha hz hg i hi => ?_⟩, by omega, by rw [hs_I_w, if_pos rfl, if_pos rfl], by rw [hm_w_eq], fun f hf => ?_, fun f hf => ?_, by rw [g285 47 (by decide)]; exact a7, by rw [g285 46 (by decide)]; exact a8⟩
  · rw [gr 313 (by decide)] at hg
    rw [I 104 (by decide), gr 314 (by decide)]
    exact z12 a z ha hz hg i hi
  · exact (a5 f (by omega)).to rfl (by rw [I _ (by omega)]) (I _ (by omega)) (by rw [gr 315 (by decide)]) (by rw [gr 316 (by decide)]) (fun i _ => by rw [gr 319 (by decide)])
  · exact (a6 f (by omega)).to (by rw [I _ (by omega)]) (I _ (by omega)) (by rw [gr 317 (by decide)]) (fun i _ => by rw [gr 318 (by decide)])
/-- what the methods of the frames are -/
def HC (s0 : hs_S) (g : hm) (D : Nat) : Prop := ∀ f, f < D → ∃ m n, m < 8 ∧ g 315 f = nI m ∧ CM s0 m n ∧ ∀ z h, hs_I s0 290 m = nI h → z < h → h ≤ 8 → ∃ v, v ≤ 4000 ∧ hs_I s0 306 (32 * m + 4 * z + 2) = nI v
theorem r_loop {s0 : hs_S} {e : Nat} : ∀ (D f f' : Nat) (s : hs_S) (g : hm), D < f → D < f' → TT s0 s g D e → HC s0 g D →
    (∃ s' g', lX6_raise_0 f 100 (nI e) s = some (0, 0, 0, s') ∧ nlX12_caught_0 f' g = some (0, 0, g') ∧ TT s0 s' g' 0 e) ∨ ∃ G s' g' m z y, G < 60 ∧ m < 8 ∧ z < 8 ∧ y ≤ 4000 ∧ g' 315 G = nI m ∧ hs_I s0 306 (32 * m + 4 * z + 2) = nI y ∧ lX6_raise_0 f 100 (nI e) s = some (1, 105 + 3 * G, nI y, s') ∧ nlX12_caught_0 f' g = some (1, nI (32 * m + 4 * z), g') ∧ TT s0 s' g' (G + 1) e
  | D, 0, f', s, g, hf, _, _, _ => absurd hf (Nat.not_lt_zero _)
  | D, f + 1, 0, s, g, _, hf, _, _ => absurd hf (Nat.not_lt_zero _)
  | 0, f + 1, f' + 1, s, g, _, _, T, _ => by
    left
    have k5 := T.1.1.k mk0.1
    have u : nI 0 ≤ (0 : Int32) := by decide
    refine ⟨s, g, ?_, ?_, T⟩
    · rw [lX6_raise_0, if_pos k5, T.2.2.1, if_pos u]
    · rw [nlX12_caught_0, T.2.2.2.1, if_pos u]
  | F + 1, f + 1, f' + 1, s, g, hf, hf', T, H => by
    have k5 := T.1.1.k mk0.1
    have hF : F < 60 := by have := T.2.1; omega
    have u : ¬ nI (F + 1) ≤ (0 : Int32) := fun z => absurd ((lei (b := 0) (by omega) (by decide)).mp z) (by omega)
    have e1 : nI (F + 1) - (1 : Int32) = nI F := nI_pred F
    have hi : hs_in (nI F) 60 = true := hin hF (by decide)
    obtain ⟨m, n, m1, m2, C, hat⟩ := H F (by omega)
    obtain ⟨⟨m', f1, f2, f3⟩, f4, f5⟩ := T.2.2.2.2.1 F (by omega)
    have em : m' = m := (eqi (by omega) (by omega)).mp (f2.symm.trans m2)
    subst em
    have hat' : ∀ z, z < 8 → ∃ v, v ≤ 4000 ∧ hs_I s0 290 m' = nI 0 ∨ v ≤ 4000 ∧ (∀ h, hs_I s0 290 m' = nI h → z < h → h ≤ 8 → hs_I s0 306 (32 * m' + 4 * z + 2) = nI v) := by
      intro z hz
      obtain ⟨a, h, pm, ee, v, r0, r1, c1, c2, c3, c4, c5, c6, c7, c8, c9, c10⟩ := C
      by_cases c : z < h
      · obtain ⟨v, v1, v2⟩ := hat z h c8 c c7
        exact ⟨v, Or.inr ⟨v1, fun _ _ _ _ => v2⟩⟩
      · refine ⟨0, Or.inr ⟨by omega, fun h' q1 q2 _ => ?_⟩⟩
        have := (eqi (a := h) (b := h') (by omega) (by omega)).mp (c8.symm.trans q1)
        omega
    have k3 := T.1.1.k (mk hF).1
    have hfor := h_for (X := g 316 F) T.1 f1 C hat' T.2.2.2.2.2.2.1
    rw [lX6_raise_0, if_pos k5, T.2.2.1, if_neg u, e1, x_frame T.1.1 T.1.2.1 hF, hs_bd_s, if_pos k3, f3, if_pos (show ¬ 74 + 2 * m' = 0 by omega), show 74 + 2 * m' - 1 = 73 + 2 * m' by omega, if_pos (T.1.1.k (k6_m f1).1), f4, nlX12_caught_0, T.2.2.2.1, if_neg u, e1, if_pos hi, if_pos hi, cl (show F < 2147483648 by omega), f2]
    rcases hfor with ⟨z, y, z1, z2, z3, z4, z5⟩ | ⟨z4, z5⟩
    · right
      have u2 : ¬ nI y = (-1 : Int32) := fun q => absurd (congrArg Int32.toInt q) (by rw [nI_toInt (by omega), show (-1 : Int32).toInt = -1 by decide]; omega)
      refine ⟨F, s, g, m', z, y, hF, f1, z1, z2, f2, z3, ?_, ?_, T⟩
      · rw [z4, hs_bd_s, if_neg u2]
      · rw [z5]
        rfl
    · rw [z4, hs_bd_s, if_pos rfl, if_pos k5, T.2.2.1, e1, z5]
      have hb3 : (hm_b3 (some ((0 : Nat), (0 : Int32), g)) fun k2 x1 g3 => if k2 = 0 then nlX12_caught_0 f' (hm_w g3 285 40 (g3 285 40 - (1 : Int32))) else some (1, x1, g3)) = nlX12_caught_0 f' (hm_w g 285 40 (nI F)) := by
        show (if (0 : Nat) = 0 then nlX12_caught_0 f' (hm_w g 285 40 (g 285 40 - (1 : Int32))) else some (1, 0, g)) = _
        rw [if_pos rfl, T.2.2.2.1, e1]
      rw [hb3]
      exact r_loop F f f' _ _ (by omega) (by omega) T.low (fun f hf => by
        obtain ⟨m, n, q1, q2, q3, q4⟩ := H f (by omega)
        exact ⟨m, n, q1, by rw [hm_w_ne (by decide)]; exact q2, q3, q4⟩)
theorem hs_b4_s {α β γ δ : Type} (a : α) (b : β) (c : γ) (g : hs_S) (f : α → β → γ → hs_S → Option δ) : hs_b4 (some (a, b, c, g)) f = f a b c g := rfl
theorem hm_b3_s {α β δ : Type} (a : α) (b : β) (g : hm) (f : α → β → hm → Option δ) : hm_b3 (some (a, b, g)) f = f a b g := rfl
/-- raise() and caught() -/
theorem TT.raise {s0 s : hs_S} {g : hm} {D e : Nat} (T : TT s0 s g D e) (H : HC s0 g D) (he : e ≤ 4) : (∃ s' g', fX6_raise 100 (nI e) s = some (2, s') ∧ nX12_caught g = some g' ∧ g' 285 40 = 0 ∧ EN s0 s' (hm_w g' 285 36 (g' 285 47))) ∨ ∃ s' g' G m y, fX6_raise 100 (nI e) s = some (3, s') ∧ nX12_caught g = some g' ∧ ¬ g' 285 40 = 0 ∧ TR s0 s' (hm_w g' 285 47 (0 : Int32)) G m y 1 := by
  have hD := T.2.1
  unfold fX6_raise nX12_caught
  rcases r_loop D hs_N hs_N s g (by unfold hs_N; omega) (by unfold hs_N; omega) T H with ⟨s', g', e1, e2, T1⟩ | ⟨G, s1, g1, m, z, y, hG, hm8, hz, hy, hm5, h306, e1, e2, T1⟩
  · left
    have k5 := T1.1.1.k mk0.1
    refine ⟨hs_wI s' 100 5 (nI e), g', ?_, ?_, T1.2.2.2.1, ?_⟩
    · rw [e1, hs_b4_s, if_pos rfl, if_pos k5]
    · rw [e2, hm_b3_s, if_pos rfl]
    · refine T1.1.en (nI e) (T1.1.1.wm (by decide)) rfl (fun b hb => ?_) ?_ ?_ ?_ (fun a ha => hm_w_ne ha) ?_ ?_ ?_
      · funext i
        rw [hs_I_w, if_neg hb]
      · rw [hs_I_w, if_pos rfl, if_pos rfl]
      · rw [hs_I_w, if_pos rfl, if_neg (by decide)]
      · rw [hs_I_w, if_pos rfl, if_neg (by decide)]
      · rw [hm_w_eq]; exact T1.2.2.2.2.2.2.1
      · rw [hm_w_o (by decide)]
      · rw [hm_w_o (by decide)]
  · right
    obtain ⟨a1, a2, a3, a4, a5, a6, a7, a8⟩ := T1
    have k3 := a1.1.k (mk hG).1
    have w0 : WT (hs_wI s1 (105 + 3 * G) 2 (0 : Int32)) := a1.1.wm (by omega)
    have X0 : MX (hs_R (hs_wI s1 (105 + 3 * G) 2 (0 : Int32))) := a1.2.1
    have p := x_push w0 X0 hG (d := 0) (by rw [hs_I_w, if_pos rfl, if_pos rfl]; rfl) (by decide) (nI e)
    have e40 : nI (G + 1) - (1 : Int32) = nI G := nI_pred G
    have e24 : (24 : Int32) * nI G = nI (24 * G) := by rw [show (24 : Int32) = nI 24 from rfl, pk_mul]
    have e3 : nI (32 * m + 4 * z) + (2 : Int32) = nI (32 * m + 4 * z + 2) := nI_add _ 2
    have hi : hs_in (nI G) 60 = true := hin hG (by decide)
    have g306 : g1 306 = hs_I s0 306 := a1.2.2.2.2.2.1 306 (by decide) (by decide)
    have u40 : ¬ nI (G + 1) = 0 := fun q => absurd ((eqi (b := 0) (by omega) (by decide)).mp q) (by omega)
    refine ⟨hs_wI (hs_wI (hs_wI (hs_wI s1 (105 + 3 * G) 2 (0 : Int32)) (107 + 3 * G) 0 (nI e)) (105 + 3 * G) 2 (nI (0 + 1))) (105 + 3 * G) 4 (nI y), hm_w (hm_w (hm_w g1 318 (24 * G) (nI e)) 317 G (1 : Int32)) 316 G (nI y), G, m, y, ?_, ?_, ?_, ?_⟩
    · rw [e1, hs_b4_s, if_neg (by decide), if_pos k3]
      unfold fX3_goOnWith
      rw [if_pos k3, p]
      show hs_bv (if hs_kd (hs_wI (hs_wI (hs_wI s1 (105 + 3 * G) 2 (0 : Int32)) (107 + 3 * G) 0 (nI e)) (105 + 3 * G) 2 (nI (0 + 1))) (105 + 3 * G) = 3 then _ else none) _ = _
      rw [if_pos (show hs_kd (hs_wI (hs_wI (hs_wI s1 (105 + 3 * G) 2 (0 : Int32)) (107 + 3 * G) 0 (nI e)) (105 + 3 * G) 2 (nI (0 + 1))) (105 + 3 * G) = 3 from k3)]
      rfl
    · rw [e2, hm_b3_s, if_neg (by decide), a4, e40, e24, if_pos (hin (show 24 * G < 1440 by omega) (by decide)), cl (show 24 * G < 2147483648 by omega), hm_w_ne (show (285 : Nat) ≠ 318 by decide), a4, e40, if_pos hi, hm_bv_s, cl (show G < 2147483648 by omega), e3, if_pos (hin (show 32 * m + 4 * z + 2 < 256 by omega) (by decide)), hm_w_ne (show (285 : Nat) ≠ 317 by decide), hm_w_ne (show (285 : Nat) ≠ 318 by decide), a4, e40, if_pos hi, cl (show G < 2147483648 by omega), cl (show 32 * m + 4 * z + 2 < 2147483648 by omega), hm_w_ne (show (306 : Nat) ≠ 317 by decide), hm_w_ne (show (306 : Nat) ≠ 318 by decide), g306, h306, a7]
    · rw [hm_w_ne (by decide), hm_w_ne (by decide), hm_w_ne (by decide), a4]; exact u40
    · have G' : ∀ a, a < 316 → a ≠ 285 → hm_w (hm_w (hm_w (hm_w g1 318 (24 * G) (nI e)) 317 G (1 : Int32)) 316 G (nI y)) 285 47 (0 : Int32) a = g1 a := fun a h1 h2 => by
        rw [hm_w_ne h2, hm_w_ne (by omega), hm_w_ne (by omega), hm_w_ne (by omega)]
      have G285 : ∀ j, j ≠ 47 → hm_w (hm_w (hm_w (hm_w g1 318 (24 * G) (nI e)) 317 G (1 : Int32)) 316 G (nI y)) 285 47 (0 : Int32) 285 j = g1 285 j := fun j hj => by
        rw [hm_w_o hj, hm_w_ne (by decide), hm_w_ne (by decide), hm_w_ne (by decide)]
      have I : ∀ b, b ≠ 105 + 3 * G → b ≠ 107 + 3 * G → hs_I (hs_wI (hs_wI (hs_wI (hs_wI s1 (105 + 3 * G) 2 (0 : Int32)) (107 + 3 * G) 0 (nI e)) (105 + 3 * G) 2 (nI (0 + 1))) (105 + 3 * G) 4 (nI y)) b = hs_I s1 b := fun b h1 h2 => by
        funext i
        rw [hs_I_w, if_neg h1, hs_I_w, if_neg h1, hs_I_w, if_neg h2, hs_I_w, if_neg h1]
      obtain ⟨⟨m', f1, f2, f3⟩, f4, f5⟩ := a5 G (by omega)
      have em : m' = m := (eqi (by omega) (by omega)).mp (f2.symm.trans hm5)
      subst em
      refine ⟨a1.to (((a1.1.wm (by omega)).wm (by omega)).wm (by omega) |>.wm (by omega)) rfl (fun b hb => I b (by omega) (by omega)) (fun a h1 h2 => G' a (by omega) (by omega)) (fun j hj => G285 j (by omega)) (G' 313 (by decide) (by decide)) (G' 314 (by decide) (by decide)), hG, by rw [I 100 (by omega) (by omega)]; exact a3, by rw [G285 40 (by decide)]; exact a4, fun f hf => ?_, hm8, by rw [G' 315 (by decide) (by decide)]; exact f2, f3, ?_, ?_, fun i hi2 => ?_, by decide, ?_, ?_, fun i hi2 => ?_, by rw [hm_w_eq], by rw [G285 46 (by decide)]; exact a8⟩
      · refine ⟨(a5 f (by omega)).to rfl (by rw [I _ (by omega) (by omega)]) (I _ (by omega) (by omega)) (by rw [G' 315 (by decide) (by decide)]) ?_ (fun i _ => ?_), (a6 f (by omega)).to (by rw [I _ (by omega) (by omega)]) (I _ (by omega) (by omega)) ?_ (fun i hi2 => ?_)⟩
        · rw [hm_w_ne (by decide), hm_w_o (by omega), hm_w_ne (by decide), hm_w_ne (by decide)]
        · rw [hm_w_ne (by decide), hm_w_ne (by decide), hm_w_ne (by decide), hm_w_ne (by decide)]
        · rw [hm_w_ne (by decide), hm_w_ne (by decide), hm_w_o (by omega), hm_w_ne (by decide)]
        · rw [hm_w_ne (by decide), hm_w_ne (by decide), hm_w_ne (by decide), hm_w_o (by omega)]
      · rw [hm_w_ne (by decide), hm_w_eq]
      · rw [hs_I_w, if_pos rfl, if_pos rfl]
      · rw [I _ (by omega) (by omega), hm_w_ne (by decide), hm_w_ne (by decide), hm_w_ne (by decide), hm_w_ne (by decide)]; exact f5 i hi2
      · rw [hm_w_ne (by decide), hm_w_ne (by decide), hm_w_eq]; rfl
      · rw [hs_I_w, if_pos rfl, if_neg (by decide), hs_I_w, if_pos rfl, if_pos rfl]
      · have : i = 0 := by omega
        subst this
        rw [hs_I_w, if_neg (by omega), hs_I_w, if_neg (by omega), hs_I_w, if_pos rfl, if_pos rfl, hm_w_ne (by decide), hm_w_ne (by decide), hm_w_ne (by decide)]
        show nI e = hm_w g1 318 (24 * G) (nI e) 318 (24 * G)
        rw [hm_w_eq]
