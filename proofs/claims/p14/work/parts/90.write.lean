/-! LAYOUT: write() -/
theorem s_S_mono {c S w : Nat → Nat} {l N n : Nat} (hc : s_chain c l N n) (hS : ∀ j, s_B c j → j < n → S (j + s_sz (c j)) = S j + w j) : ∀ (d k j : Nat), j ≤ k + d → k ≤ j → j ≤ n → s_B c k → s_B c j → S k ≤ S j
  | 0, k, j, h1, h2, _, _, _ => by rw [show j = k by omega]; exact Nat.le_refl _
  | d + 1, k, j, h1, h2, h3, hB, hj => by
    by_cases e : k = j
    · rw [← e]; exact Nat.le_refl _
    · have hok := hc k hB (by omega)
      have := s_isK_sz hok.1
      have hge : k + s_sz (c k) ≤ j := by
        by_cases q : k + s_sz (c k) ≤ j
        · exact q
        · exact absurd hj (s_B_gap hB (by omega) (by omega))
      have ih := s_S_mono hc hS d (k + s_sz (c k)) j (by omega) hge h3 (s_B_next hB) hj
      rw [hS k hB (by omega)] at ih
      omega
def lks (B : Nat → Bool) (f : Nat → Nat) : Nat → Nat → Nat
  | 0, _ => 0
  | d + 1, p => (if B p = true then f p else 0) + lks B f d (p + 1)
theorem aw.rf {s : hs_S} {A t T : Nat} (o : awO s A t T) : aw s s A t 0 T 0 0 (fun _ => 0) := ⟨rfl, o.1, o.2.2.2.1, fun _ _ => rfl, fun j hj => absurd hj (Nat.not_lt_zero _), fun _ _ => rfl, fun _ _ _ _ => rfl, fun _ _ _ => rfl, (Int32.add_zero _).symm, (Int32.add_zero _).symm⟩
theorem x_w39 {M a n l N A T : Nat} {e P c S : Nat → Nat} {far : Nat → Bool} {pd : Bool} : ∀ (d p nb f t : Nat) (s : hs_S), p + d = n → d < f → p ≤ nb → nb ≤ n → s_B c nb → (∀ i, p ≤ i → i < nb → ¬ s_B c i) → wiS s M a n l N A t T e P c S far pd → t + (S n - S nb) ≤ gm_n (A + 5) →
    Tq (lX5_write_39 f 95 M A T (nI p) s) (fun q => ∃ bs, aw s q A t (S n - S nb) T (lks (fun i => eB (e i)) (lbk c far) d p) (lks (fun i => eB (e i)) (ljk c far) d p) bs ∧ ∀ j, s_B c j → nb ≤ j → j < n → ∀ o, o < s_pl P c n (fun i => eK (e i)) pd j + s_ln c far j → bs (S j - S nb + o) = s_em P c n (fun i => eK (e i)) pd far S j o)
  | d, p, nb, 0, t, s, _, hf, _, _, _, _, _, _ => absurd hf (Nat.not_lt_zero _)
  | 0, p, nb, f + 1, t, s, hp, _, h1, h2, hB, hg, h, hr => by
    have w := h.1.1
    have v := h.1.2.2.1
    have lt := (v.lt w).1
    have e1 : nb = n := by omega
    rw [lX5_write_39, if_pos (w.k v.1), v.2.2.1, if_pos ((lei (by omega) (by omega)).mpr (by omega)), e1, Nat.sub_self]
    exact Tq.some ⟨_, aw.rf h.2.2.2.2.2.1, fun j _ j1 j2 => absurd j2 (by omega)⟩
  | d + 1, p, nb, f + 1, t, s, hp, hf, h1, h2, hB, hg, h, hr => by
    have w := h.1.1
    have v := h.1.2.2.1
    have lt := (v.lt w).1
    have hc := h.2.1
    have hy := h.2.2.2.1
    have h0 : p < n := by omega
    have hS : ∀ j, s_B c j → j < n → S (j + s_sz (c j)) = S j + (s_pl P c n (fun i => eK (e i)) pd j + s_ln c far j) := fun j j1 j2 => by rw [hy.2.1 j j1 j2, Nat.add_assoc]
    rw [lX5_write_39, if_pos (w.k v.1), v.2.2.1, if_neg (fun q => absurd ((lei (by omega) (by omega)).mp q) (by omega)), x_beg_in w v h0, hs_bd_s]
    unfold jX5_write_66
    by_cases c1 : p = nb
    · have cB : eB (e p) = true := (hc.2.2.1 p h0).2.mpr (by rw [c1]; exact hB)
      have hBp : s_B c p := by rw [c1]; exact hB
      have hok := hc.2.1 p hBp h0
      have hsz := s_isK_sz hok.1
      have m1 := s_S_le hc.2.1 hS n (p + s_sz (c p)) (by omega) hok.2.1 (s_B_next hBp)
      have S1 := hS p hBp h0
      rw [cB, if_neg (by decide), if_pos (w.k gk_95.1)]
      rw [← c1] at hr
      obtain ⟨q1, E1, a1⟩ := x_wi h h0 hBp (by omega)
      rw [E1]
      show Tq (lX5_write_39 f 95 M A T (nI p + (1 : Int32)) q1) _
      rw [nI_1]
      refine (x_w39 d (p + 1) (p + s_sz (c p)) f _ q1 (by omega) (by omega) (by omega) hok.2.1 (s_B_next hBp) (fun i i1 i2 => s_B_gap hBp (by omega) i2) (h.aw a1) (by omega)).mono fun q hq => ?_
      obtain ⟨bs, b1, b2⟩ := hq
      have tr := a1.tr b1
      have eL : s_pl P c n (fun i => eK (e i)) pd p + s_ln c far p + (S n - S (p + s_sz (c p))) = S n - S nb := by rw [← c1]; omega
      rw [eL] at tr
      have l1 : lks (fun i => eB (e i)) (lbk c far) (d + 1) p = lbk c far p + lks (fun i => eB (e i)) (lbk c far) d (p + 1) := by
        show (if eB (e p) = true then lbk c far p else 0) + _ = _
        rw [if_pos cB]
      have l2 : lks (fun i => eB (e i)) (ljk c far) (d + 1) p = ljk c far p + lks (fun i => eB (e i)) (ljk c far) d (p + 1) := by
        show (if eB (e p) = true then ljk c far p else 0) + _ = _
        rw [if_pos cB]
      rw [l1, l2]
      refine ⟨_, tr, fun j j1 j2 j3 o ho => ?_⟩
      show (if S j - S nb + o < s_pl P c n (fun i => eK (e i)) pd p + s_ln c far p then s_em P c n (fun i => eK (e i)) pd far S p (S j - S nb + o) else bs (S j - S nb + o - (s_pl P c n (fun i => eK (e i)) pd p + s_ln c far p))) = _
      by_cases z : j = p
      · subst z
        have : S j - S nb + o = o := by rw [← c1]; omega
        rw [this, if_pos ho]
      · have hge : p + s_sz (c p) ≤ j := by
          by_cases q : p + s_sz (c p) ≤ j
          · exact q
          · exact absurd j1 (s_B_gap hBp (by omega) (by omega))
        have m2 := s_S_mono hc.2.1 hS n (p + s_sz (c p)) j (by omega) hge (by omega) (s_B_next hBp) j1
        rw [← c1, if_neg (by omega), ← b2 j j1 hge j3 o ho]
        congr 1
        omega
    · have nB := hg p (Nat.le_refl _) (by omega)
      have cB : eB (e p) = false := by
        cases q : eB (e p)
        · rfl
        · exact absurd ((hc.2.2.1 p h0).2.mp q) nB
      rw [cB, if_pos (by decide), nI_1]
      have l1 : ∀ g, lks (fun i => eB (e i)) g (d + 1) p = lks (fun i => eB (e i)) g d (p + 1) := fun g => by
        show (if eB (e p) = true then g p else 0) + _ = _
        rw [cB, if_neg (by decide), Nat.zero_add]
      rw [l1, l1]
      exact x_w39 d (p + 1) nb f t s (by omega) (by omega) (by omega) h2 hB (fun i i1 i2 => hg i (by omega) i2) h hr
/-! the handlers -/
theorem x_mh21 {M T tm tt k h : Nat} {R S : Nat → Nat} (kM : gm_k M = 6) (kT : gm_k T = 6) (km : gm_k tm = 100) (nm : gm_n tm = 32) (gt : aG tt) (nt : gm_n tt = 32) (ntm : tm ≠ tt) (n97 : 97 ≠ tt) (hk : k < h) (hh : h ≤ 8) (hRl : ∀ i, i < 3 → R (4 * k + i) ≤ 2000) : ∀ (d i f : Nat) (s : hs_S), i + d = 3 → d < f → WT s → LR (hs_R s) → hs_R s M 1 = tm + 1 → hs_R s T 1 = tt + 1 → (∀ z, z < 4 * h → hs_I s tm z = nI (R z)) → (∀ i, i < 3 → hs_I s 97 (R (4 * k + i)) = nI (S (R (4 * k + i)))) →
    Tq (lX5_moveHandlers_21 f 95 M T (nI k) (nI i) s) (fun q => WT q ∧ tF s q tt ∧ (∀ z, z < 4 * k + i → hs_I q tt z = hs_I s tt z) ∧ ∀ z, i ≤ z → z < 3 → hs_I q tt (4 * k + z) = nI (S (R (4 * k + z))))
  | d, i, 0, s, _, hf, _, _, _, _, _, _ => absurd hf (Nat.not_lt_zero _)
  | 0, i, f + 1, s, hi, _, w, hL, r1, r2, ht, hp => by
    have u : (2 : Int32) < nI i := (lti (a := 2) (by decide) (by omega)).mpr (by omega)
    rw [lX5_moveHandlers_21, if_pos u]
    exact Tq.some ⟨w, tF.rf, fun _ _ => rfl, fun z z1 z2 => absurd z2 (by omega)⟩
  | d + 1, i, f + 1, s, hi, hf, w, hL, r1, r2, ht, hp => by
    have u : ¬ (2 : Int32) < nI i := fun q => absurd ((lti (a := 2) (by decide) (by omega)).mp q) (by omega)
    have r0 : hs_R s 95 1 - 1 = 97 := by rw [hL.2.1]
    have r0n : ¬ hs_R s 95 1 = 0 := by rw [hL.2.1]; decide
    have hl := hRl i (by omega)
    rw [lX5_moveHandlers_21, if_neg u, if_pos (w.k kM), x_hnum w kM r1 km nm (by omega) (by omega), hs_bd_s, if_pos (w.k gk_95.1), if_pos r0n, r0, ht _ (by omega), yf_at w gk_95.2.2.2.1 (by rw [gk_95.2.2.2.2.1]; omega), hs_bd_s, if_pos (w.k kT), hp i (by omega), x_setH w kT r2 gt.1 nt (by omega) (by omega)]
    show Tq (lX5_moveHandlers_21 f 95 M T (nI k) (nI i + (1 : Int32)) _) _
    rw [nI_1]
    refine (x_mh21 kM kT km nm gt nt ntm n97 hk hh hRl d (i + 1) f _ (by omega) (by omega) (w.w (oW.a (s := 0) (b := false) gt)) hL r1 r2 (fun z hz => by rw [hs_I_w, if_neg ntm]; exact ht z hz) (fun z hz => by rw [hs_I_w, if_neg n97]; exact hp z hz)).mono fun q hq => ?_
    obtain ⟨q1, q2, q3, q4⟩ := hq
    refine ⟨q1, tF.rf.w.tr q2, fun z hz => ?_, fun z z1 z2 => ?_⟩
    · rw [q3 z (by omega), hs_I_ne (by omega)]
    · by_cases y : z = i
      · rw [q3 _ (by omega), y, hs_I_eq]
      · exact q4 z (by omega) z2
theorem x_mh10 {M T tm tt h : Nat} {R S : Nat → Nat} (kM : gm_k M = 6) (kT : gm_k T = 6) (km : gm_k tm = 100) (nm : gm_n tm = 32) (gt : aG tt) (nt : gm_n tt = 32) (ntm : tm ≠ tt) (n97 : 97 ≠ tt) (nM : M ≠ tt) (hh : h ≤ 8) (hRl : ∀ k, k < h → ∀ i, i < 3 → R (4 * k + i) ≤ 2000) : ∀ (d k f : Nat) (s : hs_S), k + d = h → d < f → WT s → LR (hs_R s) → hs_R s M 1 = tm + 1 → hs_R s T 1 = tt + 1 → hs_I s M 6 = nI h → (∀ z, z < 4 * h → hs_I s tm z = nI (R z)) → (∀ k, k < h → ∀ i, i < 3 → hs_I s 97 (R (4 * k + i)) = nI (S (R (4 * k + i)))) →
    Tq (lX5_moveHandlers_10 f 95 M T (nI k) s) (fun q => WT q ∧ tF s q tt ∧ (∀ z, z < 4 * k → hs_I q tt z = hs_I s tt z) ∧ ∀ z, k ≤ z → z < h → (∀ i, i < 3 → hs_I q tt (4 * z + i) = nI (S (R (4 * z + i)))) ∧ hs_I q tt (4 * z + 3) = nI (R (4 * z + 3)))
  | d, k, 0, s, _, hf, _, _, _, _, _, _, _ => absurd hf (Nat.not_lt_zero _)
  | 0, k, f + 1, s, hk, _, w, hL, r1, r2, h6, ht, hp => by
    rw [lX5_moveHandlers_10, if_pos (w.k kM), h6, if_pos ((lei (by omega) (by omega)).mpr (by omega))]
    exact Tq.some ⟨w, tF.rf, fun _ _ => rfl, fun z z1 z2 => absurd z2 (by omega)⟩
  | d + 1, k, f + 1, s, hk, hf, w, hL, r1, r2, h6, ht, hp => by
    have e0 : (0 : Int32) = nI 0 := rfl
    have e3 : (3 : Int32) = nI 3 := rfl
    rw [lX5_moveHandlers_10, if_pos (w.k kM), h6, if_neg (fun z => absurd ((lei (by omega) (by omega)).mp z) (by omega)), e0]
    obtain ⟨q, E, w1, f1, o1, v1⟩ := x_mh21 (k := k) (h := h) kM kT km nm gt nt ntm n97 (by omega) hh (hRl k (by omega)) 3 0 hs_N s (by omega) (by unfold hs_N; omega) w hL r1 r2 ht (hp k (by omega))
    have t1 : ∀ z, z < 4 * h → hs_I q tm z = nI (R z) := fun z hz => by rw [f1.2 tm ntm]; exact ht z hz
    rw [E]
    show Tq (if hs_kd q M = 6 then _ else none) _
    rw [if_pos (w1.k kM), e3, x_hnum w1 kM (by rw [f1.1]; exact r1) km nm (by omega) (by omega), hs_bd_s, if_pos (w1.k kT), t1 _ (by omega), x_setH w1 kT (by rw [f1.1]; exact r2) gt.1 nt (by omega) (by omega)]
    show Tq (lX5_moveHandlers_10 f 95 M T (nI k + (1 : Int32)) _) _
    rw [nI_1]
    refine (x_mh10 kM kT km nm gt nt ntm n97 nM hh hRl d (k + 1) f _ (by omega) (by omega) (w1.w (oW.a (s := 0) (b := false) gt)) (by have := hL; rw [← f1.1] at this; exact this) (by have := r1; rw [← f1.1] at this; exact this) (by have := r2; rw [← f1.1] at this; exact this) (by rw [hs_I_w, if_neg nM, f1.2 M nM]; exact h6) (fun z hz => by rw [hs_I_w, if_neg ntm]; exact t1 z hz) (fun z hz i hi => by rw [hs_I_w, if_neg n97, f1.2 97 n97]; exact hp z hz i hi)).mono fun q' hq => ?_
    obtain ⟨q1, q2, q3, q4⟩ := hq
    refine ⟨q1, (f1.tr tF.rf.w).tr q2, fun z hz => ?_, fun z z1 z2 => ?_⟩
    · rw [q3 z (by omega), hs_I_ne (by omega), o1 z (by omega)]
    · by_cases y : z = k
      · subst y
        refine ⟨fun i hi => ?_, ?_⟩
        · rw [q3 _ (by omega), hs_I_ne (by omega)]
          exact v1 i (Nat.zero_le _) hi
        · rw [q3 _ (by omega), hs_I_eq]
      · exact q4 z (by omega) z2
