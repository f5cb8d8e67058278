/-! WHAT THE TWO HOLD, SET BY SET -/
theorem s_b4_lt (v i : Nat) : s_b4 v i < 256 := by
  unfold s_b4
  exact Nat.mod_lt _ (by decide)
theorem s_em_256t {P c S : Nat → Nat} {n l N h : Nat} {R : Nat → Nat} {b far : Nat → Bool} (hM : s_Mt n l N h c R) (hc : ∀ k, k < n → c k < 256) {j x : Nat} (hB : s_B c j) (hj : j < n) (hx : x < s_pl P c n b true j + s_ln c far j) : s_em P c n b true far S j x < 256 := by
  have hok := (hM.2.2.2.2.1 j hB hj).2.1
  unfold s_em
  by_cases c1 : x < s_pay P c n b true j
  · rw [if_pos c1]
    by_cases c2 : x = 0
    · rw [if_pos c2]; decide
    · rw [if_neg c2]; exact s_b4_lt _ _
  rw [if_neg c1]
  by_cases c2 : x < s_pl P c n b true j
  · rw [if_pos c2]; decide
  rw [if_neg c2]
  by_cases hJ : s_isJ (c j) = true
  · rw [if_pos hJ]; exact s_ej_b (hc j hj)
  · rw [if_neg hJ]
    rw [s_ln_n hJ] at hx
    exact hc _ (by omega)
/-- the set at A holds what the reference holds: lengths in row L, tables in row T, bytes in row Y, o apart -/
def VW (s : hs_S) (A L T Y o N : Nat) : Prop := isS A ∧ SF (hs_R s) A ∧ hs_I s A 4 = nI N ∧ 1 ≤ N ∧ N ≤ 8 ∧ hs_I s 285 4 = nI N ∧ ∀ m, m < N → ∃ (a n h : Nat) (e : Nat → Nat), mv s (A + 6 + 2 * m) a n e ∧ n < o ∧ hs_I s L m = nI n ∧ hs_I s (A + 6 + 2 * m) 6 = nI h ∧ h ≤ 8 ∧ hs_I s 290 m = nI h ∧ (∀ i, i < 4 * h → hs_I s (A + 7 + 2 * m) i = hs_I s T (32 * m + i)) ∧ ∀ k, k < n → hs_I s Y (o * m + k) = nI (e k % 256)
theorem cF.vw {s : hs_S} {A tu : Nat} {u : Nat → Nat} (hA : isS A) (hR : SF (hs_R s) A) (hac : s_AC u tu) (hF : s_Fu (hs_I s) u) (h : cF s A u) : VW s A 289 291 292 2001 (u 0) := by
  refine ⟨hA, hR, h.1, hac.2.1, hac.2.2.1, hF.1, fun m hm8 => ?_⟩
  obtain ⟨⟨m4, m5, m6, m8, m9, mt, e, v, c1, m7⟩, -⟩ := h.2 m hm8
  obtain ⟨f1, f2, f3, f4, f5, f6⟩ := hF.2 m hm8
  have M := hac.mt hm8
  refine ⟨s_off u m + 4, s_n u (s_off u m), s_h u (s_off u m), e, v, by have := M.2.1; omega, f3, m6, M.2.2.2.1, f4, fun i hi => ?_, fun k hk => ?_⟩
  · rw [mt i hi]; exact (f6 i hi).1.symm
  · rw [(c1 k hk).1]; exact (f5 k hk).1
theorem WA.vw {s : hs_S} {tu : Nat} {u : Nat → Nat} (hR : SF (hs_R s) 67) (hac : s_AC u tu) (hF : s_Fu (hs_I s) u) (h : WA s u) (h22 : ¬ hs_I s 285 22 = 0) : VW s 67 305 306 304 4001 (u 0) := by
  rcases h with ⟨h1, -⟩ | ⟨-, h2, h3⟩
  · exact absurd h1 h22
  refine ⟨isS_67, hR, h2, hac.2.1, hac.2.2.1, hF.1, fun m hm8 => ?_⟩
  have hN := hac.2.2.1
  obtain ⟨a, k, n, c, R, P, M, m2, -, -, k4, ak, ⟨e, far, S, x1, x2, x3, x4, w2, w3, w4, w5, w6, w7, w8, w9, w10, wt⟩, b, far', S', y1, y2, y3, y4, y5, y6⟩ := h3 m hm8
  have hb : ∀ i, i < n → eK (e i) = b i := b_uq (fun i hi => (x1 i hi).2.2) (fun i hi => y1 i (by omega))
  have hpl : ∀ j, s_B c j → j < n → s_pl P c n (fun i => eK (e i)) true j = s_pl P c n b true j := fun j _ j2 => s_pl_cg hb true j2
  obtain ⟨uf, uS⟩ := Lo_uq hpl M.2.2.2.2.2.2 x2 y2
  have hn := s_chain_n M.2.2.2.2.1 n 0 (by omega) (by omega) (s_B_0 _)
  have kn : S n = S' n := uS n hn (Nat.le_refl _)
  have km := ((sk isS_67).2.2.2.2.2 m (by omega)).1
  have r0 : hs_R s (67 + 6 + 2 * m) 0 = 67 + 6 := (hR.2.2.2.2 m (by omega)).2.1
  have byte : ∀ x, x < k → ∃ y, y < 256 ∧ hs_I s 72 (a + x) = nI y ∧ hs_I s 304 (4001 * m + x) = nI y := by
    intro x hx
    obtain ⟨j, o, j1, j2, j3, j4⟩ := s_cover (S := S) (w := fun j => s_pl P c n (fun i => eK (e i)) true j + s_ln c far j) M.2.2.2.2.1 (fun j q1 q2 => by rw [x2.2.1 j q1 q2, Nat.add_assoc]) n 0 x (by omega) (s_B_0 _) (by omega) (by rw [x2.1]; omega) (by rw [x3]; exact hx)
    have ln : s_ln c far' j = s_ln c far j := by
      unfold s_ln
      rw [uf j j2]
    have j3' : o < s_pl P c n b true j + s_ln c far' j := by
      have j5 : o < s_pl P c n (fun i => eK (e i)) true j + s_ln c far j := j3
      rw [ln, ← hpl j j1 j2]; exact j5
    refine ⟨_, s_em_256t M m2 j1 j2 j3, by rw [j4]; exact x4 j j1 j2 o j3, ?_⟩
    rw [j4, uS j j1 (by omega), y5 j j1 j2 o j3', s_em_cg hb uf uS M.2.2.2.2.2.2 j2 j1 o]
  refine ⟨a, k, s_h u (s_off u m), fun x => (hs_I s 72 (a + x)).toNatClampNeg, ⟨km, w2, w3, ?_, fun x hx => ?_⟩, by omega, by rw [y4, ← kn, x3], w6, M.2.2.2.1, (hF.2 m hm8).2.2.2.1, fun i hi => ?_, fun x hx => ?_⟩
  · rw [r0]
    show a + k ≤ gm_n 72
    rw [gm_n_72]; exact ak
  · obtain ⟨y, z1, z2, -⟩ := byte x hx
    rw [r0]
    show hs_I s 72 (a + x) = nI (hs_I s 72 (a + x)).toNatClampNeg ∧ (hs_I s 72 (a + x)).toNatClampNeg < 1024
    rw [z2, cl (by omega)]
    exact ⟨rfl, by omega⟩
  · have hq : i / 4 < s_h u (s_off u m) := by omega
    have er : i = 4 * (i / 4) + i % 4 := by omega
    show hs_I s (74 + 2 * m) i = hs_I s 306 (32 * m + i)
    by_cases c3 : i % 4 = 3
    · have e1 := (wt _ hq).2
      have e2 := (y6 _ hq).2
      rw [show 4 * (i / 4) + 3 = i by omega] at e1 e2
      rw [e1, show 32 * m + i = 32 * m + 4 * (i / 4) + 3 by omega, e2]
    · have e1 := (wt _ hq).1 (i % 4) (by omega)
      have e2 := (y6 _ hq).1 (i % 4) (by omega)
      obtain ⟨t1, t2⟩ := M.r3 hq (i := i % 4) (by omega)
      rw [← er] at e1 e2 t1 t2
      rw [show 32 * m + 4 * (i / 4) + i % 4 = 32 * m + i by omega] at e2
      rw [e1, e2, uS _ t2 t1]
  · obtain ⟨y, z1, z2, z3⟩ := byte x hx
    show hs_I s 304 (4001 * m + x) = nI ((hs_I s 72 (a + x)).toNatClampNeg % 256)
    rw [z3, z2, cl (by omega), Nat.mod_eq_of_lt z1]
/-- both have a FILE, or neither; and so what is rewritten -/
theorem AG.f {s : hs_S} (h : AG s) : (hs_I s 285 3 = 0 ∧ hs_I s (hs_R s 0 1 - 1) 4 = 0) ∨ (¬ hs_I s 285 3 = 0 ∧ ∃ N, VW s (hs_R s 0 1 - 1) 289 291 292 2001 N) := by
  obtain ⟨hJ, hr, hX, -, -, -, hF⟩ := h
  have i1 : isF (hs_R s 0 1 - 1) := hX.2.2.2.2.2.2.2.2.2 1 (by decide)
  rcases hF with ⟨x1, x2, x3, x4⟩ | ⟨x1, u, tu, x2, x3, x4, x5, x6, x7⟩
  · exact Or.inl ⟨x1, x2⟩
  · exact Or.inr ⟨x1, _, x6.vw i1.s (hX.2.1 _ i1.s) x2 x5⟩
theorem AG.w {s : hs_S} (h : AG s) : (hs_I s 285 22 = 0 ∧ hs_I s 67 4 = 0) ∨ (¬ hs_I s 285 22 = 0 ∧ ∃ N, VW s 67 305 306 304 4001 N) := by
  obtain ⟨hJ, hr, hX, -, -, -, hF⟩ := h
  rcases hF with ⟨x1, x2, x3, x4⟩ | ⟨x1, u, tu, x2, x3, x4, x5, x6, x7⟩
  · exact Or.inl ⟨x3, x4⟩
  · by_cases c : hs_I s 285 22 = 0
    · rcases x7 with ⟨-, y⟩ | ⟨y, -⟩
      · exact Or.inl ⟨c, y⟩
      · exact absurd c y
    · exact Or.inr ⟨c, _, x7.vw (hX.2.1 _ isS_67) x2 x5 c⟩
