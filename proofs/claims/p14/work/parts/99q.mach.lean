/-! THE TWO MACHINES: jumps, paying, counting -/
theorem cz_K {k : Nat} (h : s_isK k = true) : cz k = s_sz k := by
  unfold cz
  rw [if_pos h]
theorem TR.tgt {s0 s : hs_S} {g : hm} {F m x d n kd a b : Nat} (T : TR s0 s g F m x d) (C : CM s0 m n) (hk : kd < 256) (hx : x + 1 < n) (h0 : hs_I s0 304 (4001 * m + x) = nI kd) (h1 : hs_I s0 304 (4001 * m + (x + 1)) = nI a) (ha : a < 256) (h2 : kd = 168 → x + 2 < n ∧ hs_I s0 304 (4001 * m + (x + 2)) = nI b) (hb : b < 256) : fX7_targetOf (73 + 2 * m) (nI x) s = some (zI (s_tg kd x a b), s) := by
  obtain ⟨a0, e, v, c10⟩ := C.mv T.2.2.2.2.2.1 T.1
  have q0 : e x % 256 = kd := (eqi (by omega) (by omega)).mp ((c10 x (by omega)).symm.trans h0)
  have q1 : vE e n (x + 1) = a := by
    unfold vE
    rw [if_pos hx]
    exact (eqi (by omega) (by omega)).mp ((c10 (x + 1) hx).symm.trans h1)
  rw [x_target T.w v (by omega), q0, q1]
  unfold s_tg
  by_cases c : kd = 168
  · obtain ⟨h3, h4⟩ := h2 c
    have q2 : vE e n (x + 2) = b := by
      unfold vE
      rw [if_pos h3]
      exact (eqi (by omega) (by omega)).mp ((c10 (x + 2) h3).symm.trans h4)
    rw [q2]
  · rw [if_neg c, if_neg c]
theorem s_tg_x {k p a b : Nat} (h : k ≠ 168) : s_tg k p a b = s_tg k p a 0 := by
  unfold s_tg
  rw [if_neg h, if_neg h]
theorem TR.j119 {s0 s : hs_S} {g : hm} {F m x d n kd a b y : Nat} (T : TR s0 s g F m x d) (C : CM s0 m n) (hk : kd < 256) (hK : s_isK kd = true) (hx : x + 1 < n) (h0 : hs_I s0 304 (4001 * m + x) = nI kd) (h1 : hs_I s0 304 (4001 * m + (x + 1)) = nI a) (ha : a < 256) (h2 : kd = 168 → x + 2 < n ∧ hs_I s0 304 (4001 * m + (x + 2)) = nI b) (hb : b < 256) (hy : s_tg kd x a b = (y : Int)) (t : Int32) : ∃ s' g' y', jX6_jump_23 (105 + 3 * F) (nI kd) t s = some (3, s') ∧ njX12_jumps_119 (nI kd) t g = some g' ∧ TR s0 s' g' F m y' d := by
  have hn : n ≤ 4000 := by obtain ⟨a, h, pm, e, v, r0, r1, c1, -⟩ := C; exact c1
  have hF := T.2.1
  have e1 : nI (F + 1) - (1 : Int32) = nI F := nI_pred F
  have hi : hs_in (nI F) 60 = true := hin hF (by decide)
  have eP := T.2.2.2.2.2.2.2.2.2.1
  have eG := T.2.2.2.2.2.2.2.2.1
  have e40 := T.2.2.2.1
  have eR := T.2.2.2.2.2.2.2.1
  unfold jX6_jump_23 njX12_jumps_119
  rw [if_pos T.k3, x_size hk, hs_bd_s, eP, e40, e1, if_pos hi, cl (show F < 2147483648 by omega), eG]
  by_cases c : t = 0
  · refine ⟨_, _, x + s_sz kd, ?_, ?_, T.at (x + s_sz kd)⟩
    · rw [if_pos c, if_pos T.k3, cz_K hK, nI_add]
    · rw [if_pos c, q_size hk, hm_bd_s, if_pos hi, nI_add]
  · have ey : zI (s_tg kd x a b) = nI y := by rw [hy, zI_n]
    have hc : nX12_codeAt (1 : Int32) g = some (hs_I s0 304 (4001 * m + (x + 1)), g) := T.code (i := 1) (by omega)
    refine ⟨_, _, y, ?_, ?_, T.at y⟩
    · rw [if_neg c, if_pos T.k3, eR, if_pos (show ¬ 74 + 2 * m = 0 by omega), show 74 + 2 * m - 1 = 73 + 2 * m by omega, if_pos (T.w.k (k6_m T.2.2.2.2.2.1).1), T.tgt C hk hx h0 h1 ha h2 hb, hs_bd_s, if_pos T.k3, ey]
    · rw [if_neg c, hc, hm_bd_s, h1]
      by_cases c8 : kd = 168
      · obtain ⟨h3, h4⟩ := h2 c8
        have u : nI kd = (168 : Int32) := by rw [c8]; rfl
        have hc2 : nX12_codeAt (2 : Int32) g = some (hs_I s0 304 (4001 * m + (x + 2)), g) := T.code (i := 2) (by omega)
        rw [if_pos u, hc2, hm_bd_s, h4]
        unfold njX12_jumps_168
        rw [q_target hk ha hb, hm_bd_s, if_pos hi, cl (show F < 2147483648 by omega), ey]
      · have u : ¬ nI kd = (168 : Int32) := nI_ne (b := 168) (by omega) (by decide) c8
        rw [if_neg u]
        unfold njX12_jumps_168
        rw [q_target2 hk c8 ha, hm_bd_s, if_pos hi, cl (show F < 2147483648 by omega), ← s_tg_x (b := b) c8, ey]
/-- is the branch taken? -/
theorem taken_eq {kd : Nat} (h1 : 153 ≤ kd) (h2 : kd ≤ 158) (v : Int32) (s : hs_S) : ∃ t : Int32, fX4_isTaken (nI kd) v s = some (t, s) ∧ (t = 0 ∨ t = 1) ∧ ∀ g g9, nX12_pop g = some (v, g9) → nX12_jumps (nI kd) g = njX12_jumps_119 (nI kd) t g9 := by
  unfold fX4_isTaken nX12_jumps njX12_jumps_118
  obtain e | e | e | e | e | e : kd = 153 ∨ kd = 154 ∨ kd = 155 ∨ kd = 156 ∨ kd = 157 ∨ kd = 158 := by omega
  · subst e
    by_cases c : v = 0
    · exact ⟨1, by rw [if_pos (by decide), if_pos c], Or.inr rfl, fun g g9 e => by rw [if_neg (by decide), e, hm_bd_s, if_pos (by decide), if_pos c]⟩
    · exact ⟨0, by rw [if_pos (by decide), if_neg c], Or.inl rfl, fun g g9 e => by rw [if_neg (by decide), e, hm_bd_s, if_pos (by decide), if_neg c]⟩
  · subst e
    by_cases c : v = 0
    · exact ⟨0, by rw [if_neg (by decide), if_pos (by decide), if_pos c], Or.inl rfl, fun g g9 e => by rw [if_neg (by decide), e, hm_bd_s, if_neg (by decide), if_pos (by decide), if_pos c]⟩
    · exact ⟨1, by rw [if_neg (by decide), if_pos (by decide), if_neg c], Or.inr rfl, fun g g9 e => by rw [if_neg (by decide), e, hm_bd_s, if_neg (by decide), if_pos (by decide), if_neg c]⟩
  · subst e
    by_cases c : (0 : Int32) ≤ v
    · exact ⟨0, by rw [if_neg (by decide), if_neg (by decide), if_pos (by decide), if_pos c], Or.inl rfl, fun g g9 e => by rw [if_neg (by decide), e, hm_bd_s, if_neg (by decide), if_neg (by decide), if_pos (by decide), if_pos c]⟩
    · exact ⟨1, by rw [if_neg (by decide), if_neg (by decide), if_pos (by decide), if_neg c], Or.inr rfl, fun g g9 e => by rw [if_neg (by decide), e, hm_bd_s, if_neg (by decide), if_neg (by decide), if_pos (by decide), if_neg c]⟩
  · subst e
    by_cases c : v < 0
    · exact ⟨0, by rw [if_neg (by decide), if_neg (by decide), if_neg (by decide), if_pos (by decide), if_pos c], Or.inl rfl, fun g g9 e => by rw [if_neg (by decide), e, hm_bd_s, if_neg (by decide), if_neg (by decide), if_neg (by decide), if_pos (by decide), if_pos c]⟩
    · exact ⟨1, by rw [if_neg (by decide), if_neg (by decide), if_neg (by decide), if_pos (by decide), if_neg c], Or.inr rfl, fun g g9 e => by rw [if_neg (by decide), e, hm_bd_s, if_neg (by decide), if_neg (by decide), if_neg (by decide), if_pos (by decide), if_neg c]⟩
  · subst e
    by_cases c : v ≤ 0
    · exact ⟨0, by rw [if_neg (by decide), if_neg (by decide), if_neg (by decide), if_neg (by decide), if_pos (by decide), if_pos c], Or.inl rfl, fun g g9 e => by rw [if_neg (by decide), e, hm_bd_s, if_neg (by decide), if_neg (by decide), if_neg (by decide), if_neg (by decide), if_pos (by decide), if_pos c]⟩
    · exact ⟨1, by rw [if_neg (by decide), if_neg (by decide), if_neg (by decide), if_neg (by decide), if_pos (by decide), if_neg c], Or.inr rfl, fun g g9 e => by rw [if_neg (by decide), e, hm_bd_s, if_neg (by decide), if_neg (by decide), if_neg (by decide), if_neg (by decide), if_pos (by decide), if_neg c]⟩
  · subst e
    by_cases c : 0 < v
    · exact ⟨0, by rw [if_neg (by decide), if_neg (by decide), if_neg (by decide), if_neg (by decide), if_neg (by decide), if_pos c], Or.inl rfl, fun g g9 e => by rw [if_neg (by decide), e, hm_bd_s, if_neg (by decide), if_neg (by decide), if_neg (by decide), if_neg (by decide), if_neg (by decide), if_pos c]⟩
    · exact ⟨1, by rw [if_neg (by decide), if_neg (by decide), if_neg (by decide), if_neg (by decide), if_neg (by decide), if_neg c], Or.inr rfl, fun g g9 e => by rw [if_neg (by decide), e, hm_bd_s, if_neg (by decide), if_neg (by decide), if_neg (by decide), if_neg (by decide), if_neg (by decide), if_neg c]⟩
theorem TR.jump {s0 s : hs_S} {g : hm} {F m x d n kd a b y : Nat} (T : TR s0 s g F m x d) (C : CM s0 m n) (hJ : s_isJ kd = true) (hK : s_isK kd = true) (hd : kd < 167 → 0 < d) (hx : x + 1 < n) (h0 : hs_I s0 304 (4001 * m + x) = nI kd) (h1 : hs_I s0 304 (4001 * m + (x + 1)) = nI a) (ha : a < 256) (h2 : kd = 168 → x + 2 < n ∧ hs_I s0 304 (4001 * m + (x + 2)) = nI b) (hb : b < 256) (hy : s_tg kd x a b = (y : Int)) : ∃ s' g' y' d', fX6_jump 100 (105 + 3 * F) (nI kd) s = some (3, s') ∧ nX12_jumps (nI kd) g = some g' ∧ TR s0 s' g' F m y' d' := by
  have hk := (s_isJ_256 hJ).1
  unfold fX6_jump jX6_jump_18
  rw [(x_kinds hk s).2.1, hs_bd_s]
  rcases s_isJ_c hJ with ⟨c1, c2, c3⟩ | ⟨c1, c2⟩
  · have u : ¬ s_bI (decide (153 ≤ kd) && decide (kd ≤ 158)) = 0 := by
      rw [decide_eq_true c2, decide_eq_true c3]; decide
    obtain ⟨d', rfl⟩ : ∃ d', d = d' + 1 := ⟨d - 1, by have := hd c1; omega⟩
    obtain ⟨v, s1, g1, e1, e2, T1⟩ := T.pop
    obtain ⟨t, t1, t2, t3⟩ := taken_eq c2 c3 v s1
    obtain ⟨s', g', y', q1, q2, q3⟩ := T1.j119 C hk hK hx h0 h1 ha h2 hb hy t
    refine ⟨s', g', y', d', ?_, by rw [t3 g g1 e2]; exact q2, q3⟩
    rw [if_neg u, if_pos T.k3, e1, hs_bd_s, t1, hs_bd_s]
    rcases t2 with t2 | t2
    · rw [if_pos t2, ← t2]; exact q1
    · rw [if_neg (by rw [t2]; decide), ← t2]; exact q1
  · have u : s_bI (decide (153 ≤ kd) && decide (kd ≤ 158)) = 0 := by
      rw [decide_eq_false (show ¬ kd ≤ 158 by omega), Bool.and_false]; decide
    obtain ⟨s', g', y', q1, q2, q3⟩ := T.j119 C hk hK hx h0 h1 ha h2 hb hy 1
    refine ⟨s', g', y', d, ?_, ?_, q3⟩
    · rw [if_pos u]; exact q1
    · unfold nX12_jumps
      have v : (167 : Int32) ≤ nI kd := (lei (a := 167) (by decide) (by omega)).mpr (by omega)
      rw [if_pos v]; exact q2
/-- only the machine's own numbers are changed -/
theorem TR.mw {s0 s s' : hs_S} {g g' : hm} {F m x d : Nat} (T : TR s0 s g F m x d) (w : WT s') (hR : hs_R s' = hs_R s) (hb : ∀ b, b ≠ 100 → hs_I s' b = hs_I s b) (h3 : hs_I s' 100 3 = hs_I s 100 3) (gr : ∀ a, a ≠ 285 → g' a = g a) (g40 : g' 285 40 = g 285 40) (g46 : g' 285 46 = g 285 46) (g47 : g' 285 47 = g 285 47) (h6 : hs_I s' 100 6 = g' 285 37) (h7 : hs_I s' 100 7 = g' 285 38) (h46 : hs_I s' 100 4 - hs_I s' 100 6 = g' 285 39 ∧ (0 : Int32) ≤ g' 285 39) (h5 : hs_I s' 100 5 = 0) (h36 : g' 285 36 = 0) : TR s0 s' g' F m x d := by
  obtain ⟨a1, a2, a3, a4, a5, a6, a7, a8, a9, a10, a11, a12, a13, a14, a15, a16, a17⟩ := T
  obtain ⟨b1, b2, b3, b4, b5, bg, b6, b7, b8, b9, b10, b11, b12⟩ := a1
  have c5 : ∀ f, hs_I s' (105 + 3 * f) = hs_I s (105 + 3 * f) := fun f => hb _ (by omega)
  have c6 : ∀ f, hs_I s' (106 + 3 * f) = hs_I s (106 + 3 * f) := fun f => hb _ (by omega)
  have c7 : ∀ f, hs_I s' (107 + 3 * f) = hs_I s (107 + 3 * f) := fun f => hb _ (by omega)
  have g5 := gr 315 (by decide)
  have g6 := gr 316 (by decide)
  have g7 := gr 317 (by decide)
  have g8 := gr 318 (by decide)
  have g9 := gr 319 (by decide)
  refine ⟨⟨w, by rw [hR]; exact b2, fun b h => (hb b (by omega)).trans (b3 b h), fun b h => (hb b (by omega)).trans (b4 b h), fun a h => by rw [hR]; exact b5 a h, fun a x1 x2 => (gr a (by omega)).trans (bg a x1 x2), h6, h7, h46, h5, h36, fun a ha => by rw [hb 103 (by decide), gr 313 (by decide)]; exact b11 a ha, fun a z ha hz hg i hi => ?_⟩, a2, by rw [h3]; exact a3, by rw [g40]; exact a4, fun f hf => ?_, a6, by rw [g5]; exact a7, by rw [hR]; exact a8, by rw [g6]; exact a9, by rw [c5]; exact a10, fun i hi => by rw [c6, g9]; exact a11 i hi, a12, by rw [g7]; exact a13, by rw [c5]; exact a14, fun i hi => by rw [c7, g8]; exact a15 i hi, by rw [g47]; exact a16, by rw [g46]; exact a17⟩
  · rw [gr 313 (by decide)] at hg
    rw [hb 104 (by decide), gr 314 (by decide)]
    exact b12 a z ha hz hg i hi
  · obtain ⟨f1, f2⟩ := a5 f hf
    exact ⟨f1.to (by rw [hR]) (by rw [c5]) (c6 f) (by rw [g5]) (by rw [g6]) (fun i _ => by rw [g9]), f2.to (by rw [c5]) (c7 f) (by rw [g7]) (fun i _ => by rw [g8])⟩
/-- an instruction counts -/
theorem TR.cnt {s0 s : hs_S} {g : hm} {F m x d : Nat} (T : TR s0 s g F m x d) : TR s0 (hs_wI s 100 7 (hs_I s 100 7 + (1 : Int32))) (hm_w g 285 38 (g 285 38 + (1 : Int32))) F m x d := by
  obtain ⟨b1, b2, b3, b4, b5, bg, b6, b7, b8, b9, b10, b11, b12⟩ := T.1
  refine T.mw (T.w.wm (by decide)) rfl (fun b hb => ?_) ?_ (fun a ha => hm_w_ne ha) ?_ ?_ ?_ ?_ ?_ ?_ ?_ ?_
  · funext i
    rw [hs_I_w, if_neg hb]
  · rw [hs_I_w, if_pos rfl, if_neg (by decide)]
  · rw [hm_w_o (by decide)]
  · rw [hm_w_o (by decide)]
  · rw [hm_w_o (by decide)]
  · rw [hs_I_w, if_pos rfl, if_neg (by decide), hm_w_o (by decide)]; exact b6
  · rw [hs_I_w, if_pos rfl, if_pos rfl, hm_w_eq, b7]
  · rw [hs_I_w, if_pos rfl, if_neg (by decide), hs_I_w, if_pos rfl, if_neg (by decide), hm_w_o (by decide)]; exact b8
  · rw [hs_I_w, if_pos rfl, if_neg (by decide)]; exact b9
  · rw [hm_w_o (by decide)]; exact b10
theorem i_sub (a b c : Int32) : a - (b + c) = a - b - c := by
  rw [Int32.sub_eq_add_neg, Int32.sub_eq_add_neg, Int32.sub_eq_add_neg, Int32.neg_add, Int32.add_assoc, Int32.sub_eq_add_neg]
theorem i_le {a b : Int32} (h0 : (0 : Int32) ≤ a) (h : a ≤ b) : (0 : Int32) ≤ b - a := by
  have n1 : ¬ a < 0 := fun z => absurd (lt_toInt z) (by rw [Int32.le_iff_toInt_le] at h0; omega)
  have n2 : ¬ b < 0 := fun z => absurd (lt_toInt z) (by rw [Int32.le_iff_toInt_le] at h0 h; omega)
  obtain ⟨x, hx, ex⟩ := nI_of n1
  obtain ⟨y, hy, ey⟩ := nI_of n2
  subst ex; subst ey
  have hxy := (lei hx hy).mp h
  rw [pk_sub hxy]
  exact (lei (a := 0) (by decide) (by omega)).mpr (Nat.zero_le _)
/-- it pays -/
theorem TR.pay {s0 s : hs_S} {g : hm} {F m x d : Nat} (T : TR s0 s g F m x d) (due : Int32) (hd0 : (0 : Int32) ≤ due) (k : Nat) : (∃ s' g1, fX6_pay 100 (105 + 3 * F) due (nI k) s = some (3, s') ∧ nX12_pays due g = some (1, g1) ∧ g1 285 40 = nI (F + 1) ∧ g1 316 F = nI x ∧ TR s0 s' (hm_w g1 316 F (nI (x + k))) F m (x + k) d) ∨ (fX6_pay 100 (105 + 3 * F) due (nI k) s = some (1, s) ∧ nX12_pays due g = some (0, hm_w g 285 46 (1 : Int32)) ∧ ¬ due ≤ g 285 39) := by
  obtain ⟨b1, b2, b3, b4, b5, bg, b6, b7, b8, b9, b10, b11, b12⟩ := T.1
  have eP := T.2.2.2.2.2.2.2.2.2.1
  have eG := T.2.2.2.2.2.2.2.2.1
  have e40 := T.2.2.2.1
  unfold fX6_pay nX12_pays
  rw [if_pos T.k5, b8.1]
  by_cases c : due ≤ g 285 39
  rotate_left
  · exact Or.inr ⟨by rw [if_neg c], by rw [if_neg c], c⟩
  · left
    have T1 : TR s0 (hs_wI s 100 6 (hs_I s 100 6 + due)) (hm_w (hm_w g 285 39 (g 285 39 - due)) 285 37 (g 285 37 + due)) F m x d := by
      refine T.mw (T.w.wm (by decide)) rfl (fun b hb => ?_) ?_ (fun a ha => by rw [hm_w_ne ha, hm_w_ne ha]) ?_ ?_ ?_ ?_ ?_ ?_ ?_ ?_
      · funext i
        rw [hs_I_w, if_neg hb]
      · rw [hs_I_w, if_pos rfl, if_neg (by decide)]
      · rw [hm_w_o (by decide), hm_w_o (by decide)]
      · rw [hm_w_o (by decide), hm_w_o (by decide)]
      · rw [hm_w_o (by decide), hm_w_o (by decide)]
      · rw [hs_I_w, if_pos rfl, if_pos rfl, hm_w_eq, b6]
      · rw [hs_I_w, if_pos rfl, if_neg (by decide), hm_w_o (by decide), hm_w_o (by decide)]; exact b7
      · rw [hs_I_w, if_pos rfl, if_neg (by decide), hs_I_w, if_pos rfl, if_pos rfl, hm_w_o (by decide), hm_w_eq, i_sub, b8.1]
        exact ⟨rfl, i_le hd0 c⟩
      · rw [hs_I_w, if_pos rfl, if_neg (by decide)]; exact b9
      · rw [hm_w_o (by decide), hm_w_o (by decide)]; exact b10
    have T2 := T1.at (x + k)
    refine ⟨hs_wI (hs_wI s 100 6 (hs_I s 100 6 + due)) (105 + 3 * F) 4 (nI (x + k)), hm_w (hm_w g 285 39 (g 285 39 - due)) 285 37 (g 285 37 + due), ?_, ?_, ?_, ?_, T2⟩
    · rw [if_pos c, if_pos T1.k3, hs_I_w, if_neg (show ¬ 105 + 3 * F = 100 by omega), eP, nI_add]
      rfl
    · rw [if_pos c, hm_bv_s, hm_w_o (by decide)]
    · rw [hm_w_o (by decide), hm_w_o (by decide)]; exact e40
    · rw [hm_w_ne (by decide), hm_w_ne (by decide)]; exact eG
