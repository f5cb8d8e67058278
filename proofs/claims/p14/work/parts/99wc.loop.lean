/-! THE TWO MACHINES: the loop of a run -/
theorem TR.z47 {s0 s : hs_S} {g : hm} {F m x d : Nat} (T : TR s0 s g F m x d) : TR s0 s (hm_w g 285 47 (0 : Int32)) F m x d := by
  obtain ⟨b1, b2, b3, b4, b5, bg, b6, b7, b8, b9, b10, b11, b12⟩ := T.1
  have e47 := T.2.2.2.2.2.2.2.2.2.2.2.2.2.2.2.1
  exact T.mw T.w rfl (fun _ _ => rfl) rfl (fun a ha => hm_w_ne ha) (by rw [hm_w_o (by decide)]) (by rw [hm_w_o (by decide)]) (by rw [hm_w_eq, e47]) (by rw [hm_w_o (by decide)]; exact b6) (by rw [hm_w_o (by decide)]; exact b7) (by rw [hm_w_o (by decide)]; exact b8) b9 (by rw [hm_w_o (by decide)]; exact b10)
theorem TR.cx {s0 s : hs_S} {g : hm} {F m x d x' : Nat} (T : TR s0 s g F m x d) (e : g 316 F = nI x') : TR s0 s g F m x' d := by
  obtain ⟨a1, a2, a3, a4, a5, a6, a7, a8, a9, a10, a11, a12, a13, a14, a15, a16, a17⟩ := T
  exact ⟨a1, a2, a3, a4, a5, a6, a7, a8, e, a10.trans (a9.symm.trans e), a11, a12, a13, a14, a15, a16, a17⟩
theorem s_Gd.d20 {g0 : hm} {N m x d rk : Nat} {p l n h P : Nat → Nat} {c R : Nat → Nat → Nat} (hW : s_WB g0 N p l n h c R P) (hG : s_Gd g0 N p n h c R P rk m x d) : m < 8 ∧ d ≤ 20 := by
  obtain ⟨hm8, b, far, S, j, t, d0, w, hB, hj, hr, hP⟩ := hG
  have X : s_Cx g0 N p n h c R P m b far S j t d0 := ⟨hm8, w, hB, hj, hr⟩
  obtain ⟨o1, o2, o3, o4, o5⟩ := X.dk hW
  have o6 := o1.2.1
  rcases hP with ⟨q1, q2, q3, q4⟩ | ⟨q1, q2, q3, q4⟩ | ⟨q2, q3, q4⟩ | ⟨q0, q1, q5, q2, q3, q4⟩
  · omega
  · omega
  · omega
  · exact ⟨by omega, by rw [q3]; exact o6⟩
/-- what is known of the methods that are rewritten -/
def HM (s0 : hs_S) (N : Nat) : Prop := ∀ m, m < N → ∃ n, CM s0 m n ∧ ∀ z h, hs_I s0 290 m = nI h → z < h → h ≤ 8 → ∃ v, v ≤ 4000 ∧ hs_I s0 306 (32 * m + 4 * z + 2) = nI v
theorem s_Th.hc {s0 : hs_S} {g0 q : hm} {N F st : Nat} {p n h P : Nat → Nat} {c R : Nat → Nat → Nat} (x : s_Th g0 N (s_Sd g0 N p n h c R P) q F st) (hN : N ≤ 8) (hM : HM s0 N) : HC s0 q (F + 1) := by
  obtain ⟨-, x46, xR, m0, x0, d0, a0, a1, a2, a3⟩ := x
  intro f hf
  by_cases c0 : f = F
  · obtain ⟨n', C, hat⟩ := hM m0 a0
    exact ⟨m0, n', by omega, by rw [c0]; exact a1, C, hat⟩
  · obtain ⟨m', x', d', f1, f2, f3, q1, -⟩ := xR.2.2.2.2.2.2.2 f (by omega)
    obtain ⟨n', C, hat⟩ := hM m' q1
    exact ⟨m', n', by omega, f1, C, hat⟩
/-- how a run ends -/
def RE (s0 s' : hs_S) (r : Int32) (kk : Nat) (g' : hm) : Prop := (kk = 0 ∧ ∃ g'', njX12_run_181 g' = some (r, g'') ∧ EN s0 s' g'') ∨ (kk = 1 ∧ r = 2 ∧ EN s0 s' (hm_w g' 285 36 (g' 285 47)))
theorem sim_loop {s0 : hs_S} {g0 : hm} {N : Nat} {p l n h P : Nat → Nat} {c R : Nat → Nat → Nat} (hg0 : ∀ a, 286 ≤ a → a < 313 → g0 a = hs_I s0 a) (hW : s_WB g0 N p l n h c R P) (hS : SF (hs_R s0) 67) (hM : HM s0 N) : ∀ (f f' μ turn : Nat) (s : hs_S) (g : hm) (F st rk m x d : Nat), μ + 1 < f → μ + 1 < f' → turn + μ < 999999 → TR s0 s (hm_w g 285 47 (0 : Int32)) F m x d → s_Rs g0 (s_Sd g0 N p n h c R P) g (F + 1) st → g 285 46 = 0 → s_Gd g0 N p n h c R P rk m x d → 3 * (20000 - st) + rk ≤ μ →
    ∃ r s' kk g', lX6_perform_75 f 100 (nI turn) s = some (1, r, s') ∧ nlX12_run_130 f' g = some (kk, g') ∧ RE s0 s' r kk g'
  | 0, f', μ, turn, s, g, F, st, rk, m, x, d, hf, _, _, _, _, _, _, _ => absurd hf (Nat.not_lt_zero _)
  | f + 1, 0, μ, turn, s, g, F, st, rk, m, x, d, _, hf, _, _, _, _, _, _ => absurd hf (Nat.not_lt_zero _)
  | f + 1, f' + 1, μ, turn, s, g, F, st, rk, m, x, d, hf, hf', ht, T, hR, h46, hG, hμ => by
    have hN := hW.2.1.2.1
    have hF := T.2.1
    have e1 : nI (F + 1) - (1 : Int32) = nI F := nI_pred F
    have k : s_K g0 (s_Sd g0 N p n h c R P) (hm_w g 285 47 (0 : Int32)) F st m x d := ⟨hR.w3 (by decide), T.2.2.2.2.2.2.1, T.2.2.2.2.2.2.2.2.1, T.2.2.2.2.2.2.2.2.2.2.2.2.1, T.2.2.2.2.2.2.2.2.2.2.2.2.2.2.2.1, T.2.2.2.2.2.2.2.2.2.2.2.2.2.2.2.2⟩
    have so := T.step hg0 hW k hG hS (fun m hm8 => by obtain ⟨n', C, -⟩ := hM m hm8; exact ⟨n', C⟩)
    obtain ⟨g7, e7, ou⟩ := q_step hW k hG
    have u : ¬ g 285 40 ≤ 0 := fun q => absurd ((lei (a := F + 1) (b := 0) (by omega) (by decide)).mp (by rw [hR.2.2.1] at q; exact q)) (by omega)
    have ut : ¬ (1000000 : Int32) ≤ nI turn := fun z => absurd ((lei (a := 1000000) (by decide) (by omega)).mp z) (by omega)
    obtain ⟨f'', rfl⟩ : ∃ f'', f' = f'' + 1 := ⟨f' - 1, by omega⟩
    rw [lX6_perform_75, if_neg ut, if_pos T.k5, T.2.2.1, e1, x_frame T.w T.1.2.1 hF, hs_bd_s, if_pos T.k5, nlX12_run_130, if_neg u, if_pos h46, e7, hm_bv_s]
    rcases so with ⟨s1, g1, F', m', x', d', p1, p2, T1⟩ | ⟨s1, g1, p1, p2, p3, p4, p5, p6⟩ | ⟨s1, g1, p1, p2, p3, p4, p5, p6⟩ | ⟨e, s1, g1, q1, q2, p2, T1, p1⟩
    · -- it goes on
      have eg : g7 = g1 := Option.some.inj (e7.symm.trans p2)
      subst eg
      have z47 := T1.2.2.2.2.2.2.2.2.2.2.2.2.2.2.2.1
      have z46 := T1.2.2.2.2.2.2.2.2.2.2.2.2.2.2.2.2
      have v : g7 285 47 ≤ 0 := by rw [z47]; decide
      rw [p1, hs_bd_s, if_pos rfl, if_pos v, nI_1]
      rcases ou with ⟨y1, y2, D, st', yR, y3⟩ | ⟨y1, y2, D, st', yR⟩ | ⟨G, y0, y1⟩
      · have eD : D = F' + 1 := (eqi (by have := yR.2.2.2.1; omega) (by have := T1.2.1; omega)).mp (yR.2.2.1.symm.trans T1.2.2.2.1)
        rcases y3 with y3 | ⟨G, rk', y4, y5, y6⟩
        · omega
        · have eG : G = F' := by omega
          subst eG; subst y4
          obtain ⟨m2, x2, d2, f1, f2, f3, gd⟩ := y5
          obtain ⟨l1, l2⟩ := gd.d20 hW
          have em : m2 = m' := (eqi (by omega) (by have := T1.2.2.2.2.2.1; omega)).mp (f1.symm.trans T1.2.2.2.2.2.2.1)
          have ed : d2 = d' := (eqi (by omega) (by have := T1.2.2.2.2.2.2.2.2.2.2.2.1; omega)).mp (f3.symm.trans T1.2.2.2.2.2.2.2.2.2.2.2.2.1)
          subst em; subst ed
          exact sim_loop hg0 hW hS hM f (f'' + 1) (μ - 1) (turn + 1) s1 g7 G st' rk' m2 x2 d2 (by omega) (by omega) (by omega) (T1.cx f2).z47 yR y2 gd (by omega)
      · exact absurd (y2.symm.trans z46) (by decide)
      · obtain ⟨e, e2, e3, e4⟩ := y1.1
        have := (eqi (b := 0) (by omega) (by decide)).mp (e4.symm.trans z47)
        omega
    · -- it is stopped
      have eg : g7 = g1 := Option.some.inj (e7.symm.trans p2)
      subst eg
      have v : g7 285 47 ≤ 0 := by rw [p4]; decide
      have v46 : ¬ g7 285 46 = 0 := by rw [p3]; decide
      rw [p1, hs_bd_s, if_neg (by decide), if_pos v, nlX12_run_130, if_neg p5, if_neg v46]
      refine ⟨1, s1, 0, g7, rfl, rfl, Or.inl ⟨rfl, _, ?_, p6⟩⟩
      unfold njX12_run_181
      rw [if_neg v46]
    · -- it has ended
      have eg : g7 = g1 := Option.some.inj (e7.symm.trans p2)
      subst eg
      have v : g7 285 47 ≤ 0 := by rw [p5]; decide
      have v40 : g7 285 40 ≤ 0 := by rw [p3]; decide
      rw [p1, hs_bd_s, if_neg (by decide), if_pos v, nlX12_run_130, if_pos v40]
      refine ⟨0, s1, 0, g7, rfl, rfl, Or.inl ⟨rfl, _, ?_, p6⟩⟩
      unfold njX12_run_181
      rw [if_pos p4]
    · -- something is thrown
      have eg : g7 = g1 := Option.some.inj (e7.symm.trans p2)
      subst eg
      have z47 := T1.2.2.2.2.2.2.1
      have v : ¬ g7 285 47 ≤ 0 := fun w => absurd ((lei (a := e) (b := 0) (by omega) (by decide)).mp (by rw [z47] at w; exact w)) (by omega)
      rw [p1, if_neg v]
      have no : ¬ g7 285 47 = 0 := fun w => by
        have := (eqi (b := 0) (by omega) (by decide)).mp (z47.symm.trans w)
        omega
      rcases ou with ⟨y1, -⟩ | ⟨y1, -⟩ | ⟨G, y0, y1⟩
      · exact absurd y1 no
      · exact absurd y1 no
      · have eG : G = F := by
          have := (eqi (by have := y1.2.2.1.2.2.2.1; omega) (by omega)).mp (y1.2.2.1.2.2.1.symm.trans T1.2.2.2.1)
          omega
        subst eG
        have H := y1.hc hN hM
        obtain ⟨q3, e3, z1, D, z2, z3⟩ := q_caught hW y1
        rcases T1.raise H q2 with ⟨s', g', r1, r2, r3, r4⟩ | ⟨s', g', G2, m', y, r1, r2, r3, T2⟩
        · rw [r1, r2, hm_bv_s, if_pos r3]
          exact ⟨2, s', 1, g', rfl, rfl, Or.inr ⟨rfl, rfl, r4⟩⟩
        · have eq3 : q3 = g' := Option.some.inj (e3.symm.trans r2)
          subst eq3
          rw [r1, r2, hm_bv_s, if_neg r3]
          show ∃ r s'' kk g'', hs_bd (hs_bd (some ((3 : Int32), s')) fun r20 g19 => some (r20, g19)) _ = some (1, r, s'') ∧ _
          rw [hs_bd_s, hs_bd_s, if_pos rfl, nI_1]
          have e40 : q3 285 40 = nI (G2 + 1) := by
            have := T2.2.2.2.1
            rw [hm_w_o (by decide)] at this
            exact this
          rcases z3 with z3 | ⟨G3, rk', z4, z5, z6⟩
          · exact absurd (by rw [z2.2.2.1, z3]; rfl) r3
          · have eG3 : G3 = G2 := by
              have := (eqi (by have := z2.2.2.2.1; omega) (by have := T2.2.1; omega)).mp (z2.2.2.1.symm.trans e40)
              omega
            subst eG3; subst z4
            obtain ⟨m2, x2, d2, f1, f2, f3, gd⟩ := z6
            obtain ⟨l1, l2⟩ := gd.d20 hW
            have em : m2 = m' := (eqi (by omega) (by have := T2.2.2.2.2.2.1; omega)).mp (f1.symm.trans (by have := T2.2.2.2.2.2.2.1; rw [hm_w_ne (by decide)] at this; exact this))
            have ed : d2 = 1 := (eqi (by omega) (by decide)).mp (f3.symm.trans (by have := T2.2.2.2.2.2.2.2.2.2.2.2.2.1; rw [hm_w_ne (by decide)] at this; exact this))
            subst em; subst ed
            exact sim_loop hg0 hW hS hM f (f'' + 1) (μ - 1) (turn + 1) s' q3 G3 (st + 1) rk' m2 x2 1 (by omega) (by omega) (by omega) (T2.cx (by rw [hm_w_ne (by decide)]; exact f2)) z2 z1 gd (by omega)
