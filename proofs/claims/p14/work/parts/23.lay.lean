theorem s_ct_le2 {b b' : Nat → Bool} : ∀ n, (∀ i, i < n → b' i = true → b i = true) → s_ct b' n ≤ s_ct b n
  | 0, _ => Nat.le_refl _
  | n + 1, h => by
    have ih := s_ct_le2 n (fun i hi => h i (by omega))
    rw [s_ct, s_ct]
    by_cases e : b' n = true
    · rw [if_pos e, if_pos (h n (by omega) e)]; omega
    · rw [if_neg e]; omega
theorem s_ct_lt2 {b b' : Nat → Bool} : ∀ n, (∀ i, i < n → b' i = true → b i = true) → (∃ j, j < n ∧ b j = true ∧ b' j = false) → s_ct b' n < s_ct b n
  | 0, _, hj => by obtain ⟨j, j1, _⟩ := hj; omega
  | n + 1, h, hj => by
    obtain ⟨j, j1, j2, j3⟩ := hj
    rw [s_ct, s_ct]
    by_cases e : j = n
    · have ih := s_ct_le2 n (fun i hi => h i (by omega))
      rw [← e, if_pos j2, if_neg (by rw [j3]; decide)]
      rw [e]
      omega
    · have ih := s_ct_lt2 n (fun i hi => h i (by omega)) ⟨j, by omega, j2, j3⟩
      by_cases e2 : b' n = true
      · rw [if_pos e2, if_pos (h n (by omega) e2)]; omega
      · rw [if_neg e2]; omega
/-- what the rounds of laying make far, one after another -/
def s_Fa (c pl : Nat → Nat) (n : Nat) : Nat → (Nat → Bool) → Prop
  | 0, far => ∀ j, j < n → far j = false
  | r + 1, far => ∃ (far0 : Nat → Bool) (S : Nat → Nat), s_Fa c pl n r far0 ∧ S 0 = 0 ∧ (∀ j, s_B c j → j < n → S (j + s_sz (c j)) = S j + pl j + s_ln c far0 j) ∧ (∃ j, j < n ∧ s_uf c pl S j ∧ far0 j = false) ∧ ∀ j, j < n → (far j = true ↔ far0 j = true ∨ s_uf c pl S j)
/-- the layout of a method -/
def s_Lo (c pl : Nat → Nat) (n : Nat) (far : Nat → Bool) (S : Nat → Nat) : Prop := S 0 = 0 ∧ (∀ j, s_B c j → j < n → S (j + s_sz (c j)) = S j + pl j + s_ln c far j) ∧ (∀ j, j < n → s_uf c pl S j → far j = true) ∧ ∃ r, s_Fa c pl n r far
theorem q_l32 {m n h l N : Nat} {c R P : Nat → Nat} {b : Nat → Bool} (hM : s_Mt n l N h c R) (pd : Bool) : ∀ (r f : Nat) (far : Nat → Bool) (g : hm), s_ct (fun i => !(far i)) n ≤ r → r + 1 < f → s_G g m n h c R → s_Pr g P → s_Bb g n b → s_Far g n far → (∃ z, s_Fa c (s_pl P c n b pd) n z far) →
    Tq (nlX12_lay_32 f (nI m) (s_bI pd) 1 g) (fun q => Fr [308, 309, 310] g q ∧ ∃ (far' : Nat → Bool) (S : Nat → Nat), s_Far q n far' ∧ s_Lo c (s_pl P c n b pd) n far' S ∧ s_Lr q c n (s_pl P c n b pd) (s_ln c far') S 0 ∧ q 308 n = nI (S n) ∧ ∀ j, s_B c j → j ≤ n → S j ≤ 6 * j)
  | r, 0, far, g, _, hf => absurd hf (Nat.not_lt_zero _)
  | r, 1, far, g, _, hf => absurd hf (by omega)
  | r, f + 2, far, g, hr, hf => by
    intro x hP hb hfar hz
    have x' := x
    obtain ⟨hm8, hn, hh, gn, gh, hC, hR⟩ := x
    have e0 : (0 : Int32) = nI 0 := rfl
    rw [nlX12_lay_32_s, if_neg (by decide)]
    refine Tq.bd (((q_l42 (far := far) hM pd n 0 hs_N 0 g (by omega) (by unfold hs_N; omega) (by omega) (s_B_0 c) (by omega) x' hP hb hfar)).mono fun q hq => ?_)
    obtain ⟨F1, -, S, S1, S2, S3, S4⟩ := hq
    have gn1 : q.2 289 m = nI n := by rw [F1 289 (by decide)]; exact gn
    rw [if_pos (hin hm8 (by decide)), cl (show m < 2147483648 by omega), gn1, if_pos (hin (show n < 2001 by omega) (by decide)), cl (show n < 2147483648 by omega), S2]
    generalize hg2 : hm_w q.2 308 n (nI (S n)) = g2
    have F2 : Fr [308, 309] g g2 := by rw [← hg2]; exact F1.w (by decide)
    have L2 : s_Lr g2 c n (s_pl P c n b pd) (s_ln c far) S 0 := by
      intro j j1 j2 j3
      rw [← hg2, hm_w_o (by omega), hm_w_ne (by decide)]
      exact S3 j j1 j2 j3
    have N2 : g2 308 n = nI (S n) := by rw [← hg2, hm_w_eq]
    have x2 := x'.fr F2 (by decide) (by decide) (by decide) (by decide)
    have hpl : ∀ j, s_pl P c n b pd j ≤ 6 := by
      intro j
      have := s_pay_le P c n b pd j
      unfold s_pl
      split <;> omega
    refine Tq.bd ((q_l208 (ln := s_ln c far) hM (fun j j1 j2 => by have := S4 j j1 (by omega) j2; omega) hpl (s_bI pd) n 0 hs_N false far g2 (by omega) (by unfold hs_N; omega) (by omega) (s_B_0 c) x2 (fun i hi => by rw [F2 310 (by decide)]; exact hfar i hi) L2).mono fun q3 hq3 => ?_)
    obtain ⟨F3, far', mo', h1, h2, h3, h4⟩ := hq3
    have F23 : Fr [308, 309, 310] g q3.2 := (F2.mono (by decide)).trans (F3.mono (by decide))
    cases emo : mo'
    · rw [emo] at h2
      rw [h2]
      have u : s_bI false = 0 := rfl
      rw [nlX12_lay_32_s, if_pos u]
      have nuf : ∀ j, j < n → s_uf c (s_pl P c n b pd) S j → far j = true := by
        intro j hj huf
        cases v : far j
        · have := h4.mpr (Or.inr ⟨j, Nat.zero_le j, hj, huf, v⟩)
          rw [emo] at this
          exact absurd this (by decide)
        · rfl
      refine Tq.some ⟨F23, far, S, fun j hj => ?_, ⟨S1, fun j j1 j2 => (S3 j j1 (Nat.zero_le j) j2).2.2, nuf, hz⟩, fun j j1 j2 j3 => ?_, ?_, fun j j1 j2 => S4 j j1 (Nat.zero_le j) j2⟩
      · rw [h1 j hj]
        congr 1
        have := h3 j hj
        cases v : far j
        · cases v' : far' j
          · rfl
          · rcases this.mp v' with w | w
            · rw [v] at w; exact absurd w (by decide)
            · have := nuf j hj w.2
              rw [v] at this; exact absurd this (by decide)
        · exact this.mpr (Or.inl v)
      · rw [F3 308 (by decide), F3 309 (by decide)]
        exact L2 j j1 j2 j3
      · rw [F3 308 (by decide)]; exact N2
    · rw [emo] at h2
      rw [h2]
      have h4' := h4.mp emo
      rcases h4' with q4 | ⟨j, j1, j2, j3, j4⟩
      · exact absurd q4 (by decide)
      have dec : s_ct (fun i => !(far' i)) n < s_ct (fun i => !(far i)) n := by
        refine s_ct_lt2 n (fun i hi q => ?_) ⟨j, j2, ?_, ?_⟩
        · have q' : (!far' i) = true := q
          show (!far i) = true
          cases v : far i
          · rfl
          · rw [(h3 i hi).mpr (Or.inl v)] at q'; exact absurd q' (by decide)
        · show (!far j) = true
          rw [j4]; rfl
        · show (!far' j) = false
          rw [(h3 j j2).mpr (Or.inr ⟨j1, j3⟩)]; rfl
      obtain ⟨r', rfl⟩ : ∃ r', r = r' + 1 := ⟨r - 1, by omega⟩
      obtain ⟨z, hz⟩ := hz
      have u1 : s_bI true = 1 := rfl
      rw [u1]
      refine (q_l32 (b := b) (P := P) hM pd r' (f + 1) far' q3.2 (by omega) (by omega) (x'.fr F23 (by decide) (by decide) (by decide) (by decide)) (hP.fr F23 (by decide)) (hb.fr F23 (by decide)) h1 ⟨z + 1, far, S, hz, S1, fun j j1 j2 => (S3 j j1 (Nat.zero_le j) j2).2.2, ⟨j, j2, j3, j4⟩, fun i hi => ?_⟩).mono fun q5 hq5 => ⟨F23.trans hq5.1, hq5.2⟩
      rw [h3 i hi]
      exact ⟨fun q => q.elim Or.inl (fun q => Or.inr q.2), fun q => q.elim Or.inl (fun q => Or.inr ⟨Nat.zero_le i, q⟩)⟩
/-- lay() -/
theorem q_lay {g : hm} {m n h l N : Nat} {c R P : Nat → Nat} (x : s_G g m n h c R) (hM : s_Mt n l N h c R) (hP : s_Pr g P) (pd : Bool) :
    Tq (nX12_lay (nI m) (s_bI pd) g) (fun q => Fr [294, 308, 309, 310] g q.2 ∧ ∃ (b far : Nat → Bool) (S : Nat → Nat), s_Bb q.2 n b ∧ (∀ i, i ≤ n → (b i = true ↔ s_bl c n h R i)) ∧ s_Far q.2 n far ∧ s_Lo c (s_pl P c n b pd) n far S ∧ s_Lr q.2 c n (s_pl P c n b pd) (s_ln c far) S 0 ∧ q.2 308 n = nI (S n) ∧ (∀ j, s_B c j → j ≤ n → S j ≤ 6 * j) ∧ q.1 = nI (S n)) := by
  have x' := x
  obtain ⟨hm8, hn, hh, gn, gh, hC, hR⟩ := x
  have e0 : (0 : Int32) = nI 0 := rfl
  unfold nX12_lay
  refine Tq.bv ((q_mark x' hM).mono fun q1 h1 => ?_)
  obtain ⟨b, hb, hbl⟩ := h1.2.bb
  have gn1 : q1 289 m = nI n := by rw [h1.1 289 (by decide)]; exact gn
  rw [e0]
  refine Tq.bv ((q_l7 hm8 hn (s_bI pd) n 0 hs_N q1 (by omega) (by unfold hs_N; omega) gn1).mono fun q2 h2 => ?_)
  have F2 : Fr [294, 308, 309, 310] g q2 := (h1.1.mono (by decide)).trans (h2.1.mono (by decide))
  refine Tq.bv ((q_l32 (b := b) (P := P) hM pd n hs_N (fun _ => false) q2 (s_ct_le _ n) (by unfold hs_N; omega) (x'.fr F2 (by decide) (by decide) (by decide) (by decide)) (hP.fr F2 (by decide)) (hb.fr h2.1 (by decide)) (fun i hi => h2.2.1 i (Nat.zero_le i) hi) ⟨0, fun j _ => rfl⟩).mono fun q3 h3 => ?_)
  obtain ⟨F3, far, S, a1, a2, a3, a4, a5⟩ := h3
  have F4 : Fr [294, 308, 309, 310] g q3 := F2.trans (F3.mono (by decide))
  have gn3 : q3 289 m = nI n := by rw [F4 289 (by decide)]; exact gn
  rw [if_pos (hin hm8 (by decide)), cl (show m < 2147483648 by omega), gn3, if_pos (hin (show n < 2001 by omega) (by decide)), cl (show n < 2147483648 by omega)]
  exact Tq.some ⟨F4, b, far, S, (hb.fr h2.1 (by decide)).fr F3 (by decide), hbl, a1, a2, a3, a4, a5, a4⟩
