/-! THE DEPTHS -/
theorem gk_92 : gm_k 92 = 1 := by decide +kernel
theorem gk_93 : gm_k 93 = 100 ∧ gm_n 93 = 2000 ∧ gm_k 94 = 100 ∧ gm_n 94 = 2000 := by decide +kernel
def DR (R : Nat → Nat → Nat) : Prop := R 92 0 = 94 ∧ R 92 1 = 95
/-- only the check's own rows are written -/
def dF (s q : hs_S) : Prop := hs_R q = hs_R s ∧ ∀ b, b ≠ 92 → b ≠ 93 → b ≠ 94 → hs_I q b = hs_I s b
theorem dF.rf {s : hs_S} : dF s s := ⟨rfl, fun _ _ _ _ => rfl⟩
theorem dF.tr {s q r : hs_S} (h : dF s q) (h' : dF q r) : dF s r := ⟨h'.1.trans h.1, fun b h1 h2 h3 => (h'.2 b h1 h2 h3).trans (h.2 b h1 h2 h3)⟩
theorem dF.w {s q : hs_S} {a i : Nat} {z : Int32} (h : dF s q) (ha : a = 92 ∨ a = 93 ∨ a = 94) : dF s (hs_wI q a i z) := ⟨h.1, fun b h1 h2 h3 => (funext fun i => by rw [hs_I_w, if_neg (by omega)]).trans (h.2 b h1 h2 h3)⟩
theorem dg_o {s : Nat} {b : Bool} {a i : Nat} {z : Int32} (ha : a = 92 ∨ a = 93 ∨ a = 94) : oW s b a i z := by
  rcases ha with e | e | e
  · rw [e]; exact oW.k gk_92 (by decide) (by decide) (by decide)
  · rw [e]; exact oW.a ⟨gk_93.1, by decide, by decide⟩
  · rw [e]; exact oW.a ⟨gk_93.2.2.1, by decide, by decide⟩
theorem x_reach {s : hs_S} {p d lo : Nat} (w : WT s) (hD : DR (hs_R s)) (hp : p < 2000) (hd : d < 2147483648) (hlo : hs_I s 92 2 = nI lo) (hl : lo < 2147483648) :
    Tq (fX1_reach 92 (nI p) (nI d) s) (fun q => WT q.2 ∧ dF s q.2 ∧ hs_I q.2 94 = hs_I s 94 ∧ ((q.1 = -1 ∧ (hs_I s 93 p = -1 ∨ hs_I s 93 p = nI d) ∧ (∀ i, hs_I q.2 93 i = if i = p then nI d else hs_I s 93 i) ∧ ∃ lo', hs_I q.2 92 2 = nI lo' ∧ lo' ≤ lo ∧ (hs_I s 93 p = -1 → lo' ≤ p)) ∨ ((∃ x, x ≤ 2000 ∧ q.1 = nI x) ∧ ¬ (hs_I s 93 p = -1 ∨ hs_I s 93 p = nI d) ∧ q.2 = s))) := by
  have r0 : ¬ hs_R s 92 0 = 0 := by rw [hD.1]; decide
  have r1 : hs_R s 92 0 - 1 = 93 := by rw [hD.1]
  unfold fX1_reach
  rw [if_pos (w.k gk_92), if_pos r0, r1, yf_at w gk_93.1 (by rw [gk_93.2.1]; exact hp), hs_bd_s]
  by_cases c1 : hs_I s 93 p = -1
  · rw [if_pos c1, if_pos (w.k gk_92), if_pos r0, r1, yf_put w gk_93.1 (by rw [gk_93.2.1]; exact hp)]
    have w1 : WT (hs_wI s 93 p (nI d)) := w.w (dg_o (s := 0) (b := false) (by omega))
    show Tq (if hs_kd (hs_wI s 93 p (nI d)) 92 = 1 then _ else none) _
    have hlo1 : hs_I (hs_wI s 93 p (nI d)) 92 2 = nI lo := by rw [hs_I_w, if_neg (by decide)]; exact hlo
    rw [if_pos (w1.k gk_92), hlo1]
    have hm : (if nI p < nI lo then nI p else nI lo) = nI (if p < lo then p else lo) := by
      by_cases q : p < lo
      · rw [if_pos q, if_pos ((lti (by omega) hl).mpr q)]
      · rw [if_neg q, if_neg (fun z => q ((lti (by omega) hl).mp z))]
    rw [hm]
    refine Tq.some ⟨w1.w (dg_o (s := 0) (b := false) (by omega)), (dF.rf.w (by omega)).w (by omega), ?_, Or.inl ⟨rfl, Or.inl c1, fun i => ?_, _, hs_I_eq _ _ _ _, ?_, fun _ => ?_⟩⟩
    · funext i
      show hs_I (hs_wI (hs_wI s 93 p (nI d)) 92 2 _) 94 i = _
      rw [hs_I_w, if_neg (by decide), hs_I_w, if_neg (by decide)]
    · show hs_I (hs_wI (hs_wI s 93 p (nI d)) 92 2 _) 93 i = _
      rw [hs_I_w, if_neg (by decide), hs_I_w, if_pos rfl]
    · split <;> omega
    · split <;> omega
  · rw [if_neg c1]
    by_cases c2 : hs_I s 93 p = nI d
    · rw [if_pos c2]
      refine Tq.some ⟨w, dF.rf, rfl, Or.inl ⟨rfl, Or.inr c2, fun i => ?_, lo, hlo, Nat.le_refl _, fun q => absurd q c1⟩⟩
      show hs_I s 93 i = _
      by_cases e : i = p
      · rw [if_pos e, e]; exact c2
      · rw [if_neg e]
    · rw [if_neg c2]
      exact Tq.some ⟨w, dF.rf, rfl, Or.inr ⟨⟨p, by omega, rfl⟩, fun q => q.elim c1 c2, rfl⟩⟩
theorem x_none {s : hs_S} {A : Nat} (w : WT s) (hA : isS A) (hR : SF (hs_R s) A) : fX0_method A (-1 : Int32) s = some (A + 2, s) := by
  obtain ⟨r, e, -, h⟩ := xfX0_method (v1 := -1) w (sk hA).1
  rw [e, h]
  unfold mth
  rw [if_pos (by decide), hR.2.2.1]
  rfl
theorem mv.df {s q : hs_S} {M a n : Nat} {e : Nat → Nat} (v : mv s M a n e) (h : dF s q) (hrow : hs_R s M 0 - 1 < 92) : mv q M a n e := by
  have hM : M ≠ 92 ∧ M ≠ 93 ∧ M ≠ 94 := ⟨fun e => by have := v.1; rw [e, gk_92] at this; exact absurd this (by decide), fun e => by have := v.1; rw [e, gk_93.1] at this; exact absurd this (by decide), fun e => by have := v.1; rw [e, gk_93.2.2.1] at this; exact absurd this (by decide)⟩
  have hI := h.2 M hM.1 hM.2.1 hM.2.2
  exact v.fr (by rw [hI]) (by rw [hI]) (by rw [h.1]) fun k _ => by rw [h.2 _ (by omega) (by omega) (by omega)]
/-- goOn() of the depth check -/
theorem x_goOn {s : hs_S} {A M a n l N k d lo : Nat} {e c par : Nat → Nat} (w : WT s) (hA : isS A) (hR : SF (hs_R s) A) (hD : DR (hs_R s)) (v : mv s M a n e) (hc : ∀ i, i < n → e i % 256 = c i) (hn : n ≤ 2000) (hk : k < n) (hok : s_okI c l N n k) (hN : N ≤ 8) (hjk : s_isJ (c k) = true → s_is c n (s_tgt c k)) (hpar : ∀ o, o < N → hs_I s (A + 6 + 2 * o) 4 = nI (par o) ∧ par o ≤ 4) (hnone : hs_I s (A + 2) 4 = 0) (hd : d ≤ 20) (hdk : hs_I s 93 k = nI d) (hlo : hs_I s 92 2 = nI lo) (hl : lo ≤ 2000) (hrow : hs_R s M 0 - 1 < 92) :
    Tq (fX1_goOn 92 A M (nI k) s) (fun q => WT q.2 ∧ dF s q.2 ∧ (∀ i, hs_I q.2 94 i = if i = k then 1 else hs_I s 94 i) ∧
      ((q.1 = -1 ∧ s_o1 c par n k d ∧ (∀ i, i < n → s_go c k i → (hs_I s 93 i = -1 ∨ hs_I s 93 i = nI (s_d2 c par k d))) ∧ (∀ i, i < n → s_go c k i → hs_I q.2 93 i = nI (s_d2 c par k d)) ∧ (∀ i, ¬ (i < n ∧ s_go c k i) → hs_I q.2 93 i = hs_I s 93 i) ∧ ∃ lo', hs_I q.2 92 2 = nI lo' ∧ lo' ≤ lo ∧ ∀ i, i < n → s_go c k i → hs_I s 93 i = -1 → lo' ≤ i) ∨
       ((∃ x, x ≤ 2000 ∧ q.1 = nI x) ∧ (¬ s_o1 c par n k d ∨ ∃ i, i < n ∧ s_go c k i ∧ ¬ (hs_I s 93 i = -1 ∨ hs_I s 93 i = nI (s_d2 c par k d)))))) := by
  obtain ⟨k1, k2, k3, k4, k5, k6⟩ := sk hA
  have hA92 : A < 68 := by rcases hA with q | q | q | q <;> omega
  have hck : c k < 256 := by rw [← hc k hk]; omega
  have e1 : vE e n k = c k := by unfold vE; rw [if_pos hk, hc k hk]
  have r1 : hs_R s 92 1 - 1 = 94 := by rw [hD.2]
  have r1n : ¬ hs_R s 92 1 = 0 := by rw [hD.2]; decide
  have kd1 : gm_n 94 = 2000 := gk_93.2.2.2
  -- the place is gone
  have w1 : WT (hs_wI s 94 k 1) := w.w (dg_o (s := 0) (b := false) (by omega))
  have f1 : dF s (hs_wI s 94 k 1) := dF.rf.w (by omega)
  have g1 : ∀ i, hs_I (hs_wI s 94 k 1) 94 i = if i = k then 1 else hs_I s 94 i := fun i => by rw [hs_I_w, if_pos rfl]
  have d1 : hs_I (hs_wI s 94 k 1) 93 = hs_I s 93 := funext fun i => by rw [hs_I_w, if_neg (by decide)]
  have l1 : hs_I (hs_wI s 94 k 1) 92 2 = nI lo := by rw [hs_I_w, if_neg (by decide)]; exact hlo
  have v1 := v.df f1 hrow
  have R1 : hs_R (hs_wI s 94 k 1) = hs_R s := rfl
  unfold fX1_goOn
  rw [if_pos (w.k gk_92), if_pos r1n, r1, yf_put w gk_93.2.2.1 (by rw [kd1]; omega)]
  generalize hs_wI s 94 k 1 = s1 at w1 f1 g1 d1 l1 v1 R1
  have hR1 : SF (hs_R s1) A := by rw [R1]; exact hR
  have hD1 : DR (hs_R s1) := by rw [R1]; exact hD
  show Tq (if hs_kd s1 M = 6 then _ else none) _
  rw [if_pos (w1.k v.1), x_val w1 v1 (by omega), e1, hs_bd_s]
  -- the join that goes on
  have hsz := s_sz_le (c k)
  have htk := s_tk_le (c k)
  have hgv := s_gv_le (c k)
  have hro : ∀ b, b < 92 → hs_I s1 b = hs_I s b := fun b hb => f1.2 b (by omega) (by omega) (by omega)
  have bad : ¬ s_o1 c par n k d → Tq (some (nI k, s1)) (fun q => WT q.2 ∧ dF s q.2 ∧ (∀ i, hs_I q.2 94 i = if i = k then 1 else hs_I s 94 i) ∧
      ((q.1 = -1 ∧ s_o1 c par n k d ∧ (∀ i, i < n → s_go c k i → (hs_I s 93 i = -1 ∨ hs_I s 93 i = nI (s_d2 c par k d))) ∧ (∀ i, i < n → s_go c k i → hs_I q.2 93 i = nI (s_d2 c par k d)) ∧ (∀ i, ¬ (i < n ∧ s_go c k i) → hs_I q.2 93 i = hs_I s 93 i) ∧ ∃ lo', hs_I q.2 92 2 = nI lo' ∧ lo' ≤ lo ∧ ∀ i, i < n → s_go c k i → hs_I s 93 i = -1 → lo' ≤ i) ∨
       ((∃ x, x ≤ 2000 ∧ q.1 = nI x) ∧ (¬ s_o1 c par n k d ∨ ∃ i, i < n ∧ s_go c k i ∧ ¬ (hs_I s 93 i = -1 ∨ hs_I s 93 i = nI (s_d2 c par k d)))))) := fun h => Tq.some ⟨w1, f1, g1, Or.inr ⟨⟨k, by omega, rfl⟩, Or.inl h⟩⟩
  -- behind the two ways
  have g146 : ∀ (r : Int32) (s2 : hs_S) (lo2 : Nat), s_o1 c par n k d → WT s2 → dF s s2 → (∀ i, hs_I s2 94 i = if i = k then 1 else hs_I s 94 i) → hs_I s2 92 2 = nI lo2 → lo2 ≤ lo →
      ((r = -1 ∧ (s_fl (c k) = true → (hs_I s 93 (k + s_sz (c k)) = -1 ∨ hs_I s 93 (k + s_sz (c k)) = nI (s_d2 c par k d)) ∧ (hs_I s 93 (k + s_sz (c k)) = -1 → lo2 ≤ k + s_sz (c k))) ∧ (∀ i, hs_I s2 93 i = if s_fl (c k) = true ∧ i = k + s_sz (c k) then nI (s_d2 c par k d) else hs_I s 93 i)) ∨ ((∃ x, x ≤ 2000 ∧ r = nI x) ∧ ∃ i, i < n ∧ s_go c k i ∧ ¬ (hs_I s 93 i = -1 ∨ hs_I s 93 i = nI (s_d2 c par k d)))) →
      Tq (jX1_goOn_146 92 M (nI k) (nI (c k)) (nI (s_d2 c par k d)) r s2) (fun q => WT q.2 ∧ dF s q.2 ∧ (∀ i, hs_I q.2 94 i = if i = k then 1 else hs_I s 94 i) ∧
      ((q.1 = -1 ∧ s_o1 c par n k d ∧ (∀ i, i < n → s_go c k i → (hs_I s 93 i = -1 ∨ hs_I s 93 i = nI (s_d2 c par k d))) ∧ (∀ i, i < n → s_go c k i → hs_I q.2 93 i = nI (s_d2 c par k d)) ∧ (∀ i, ¬ (i < n ∧ s_go c k i) → hs_I q.2 93 i = hs_I s 93 i) ∧ ∃ lo', hs_I q.2 92 2 = nI lo' ∧ lo' ≤ lo ∧ ∀ i, i < n → s_go c k i → hs_I s 93 i = -1 → lo' ≤ i) ∨
       ((∃ x, x ≤ 2000 ∧ q.1 = nI x) ∧ (¬ s_o1 c par n k d ∨ ∃ i, i < n ∧ s_go c k i ∧ ¬ (hs_I s 93 i = -1 ∨ hs_I s 93 i = nI (s_d2 c par k d)))))) := by
    intro r s2 lo2 ho w2 f2 g2 l2 hl2 hr
    have hd2 : s_d2 c par k d ≤ 20 := ho.2.1
    have v2 := v.df f2 hrow
    unfold jX1_goOn_146
    rw [(x_kinds hck s2).1, hs_bd_s]
    cases cJ : s_isJ (c k)
    · rw [if_pos (by decide)]
      have go : ∀ i, s_go c k i ↔ (s_fl (c k) = true ∧ i = k + s_sz (c k)) := fun i => ⟨fun q => q.elim id fun q => absurd (cJ.symm.trans q.1) (by decide), Or.inl⟩
      unfold jX1_goOn_171 jX1_goOn_185
      rcases hr with ⟨hr, hf, hu⟩ | ⟨hr, hw⟩
      · rw [if_pos hr, if_pos hr]
        refine Tq.some ⟨w2, f2, g2, Or.inl ⟨rfl, ho, fun i hi q => ?_, fun i hi q => ?_, fun i q => ?_, lo2, l2, hl2, fun i hi q q2 => ?_⟩⟩
        · obtain ⟨q1, q2⟩ := (go i).mp q
          rw [q2]; exact (hf q1).1
        · show hs_I s2 93 i = _
          rw [hu i, if_pos ((go i).mp q)]
        · show hs_I s2 93 i = _
          rw [hu i]
          by_cases z : s_fl (c k) = true ∧ i = k + s_sz (c k)
          · exact absurd ⟨by rw [z.2]; exact ho.2.2 z.1, (go i).mpr z⟩ q
          · rw [if_neg z]
        · obtain ⟨q1, q3⟩ := (go i).mp q
          rw [q3] at q2 ⊢
          exact (hf q1).2 q2
      · have hr' : ¬ r = -1 := by
          obtain ⟨x, x1, x2⟩ := hr
          rw [x2]; exact nI_m1 (by omega)
        rw [if_neg hr', if_pos rfl, if_neg hr']
        exact Tq.some ⟨w2, f2, g2, Or.inr ⟨hr, Or.inr hw⟩⟩
    · rw [if_neg (by decide), if_pos (w2.k v.1), x_tgt w2 v2 hc hk hok cJ, hs_bd_s, if_pos (w2.k gk_92)]
      obtain ⟨t1, t2, t3⟩ := hjk cJ
      generalize hT : (s_tgt c k).toNat = T
      have eT : s_tgt c k = (T : Int) := by omega
      have hTn : T < n := by omega
      have goT : s_go c k T := Or.inr ⟨cJ, hT.symm⟩
      have go : ∀ i, s_go c k i ↔ ((s_fl (c k) = true ∧ i = k + s_sz (c k)) ∨ i = T) := fun i => ⟨fun q => q.elim Or.inl fun q => Or.inr (by rw [q.2, hT]), fun q => q.elim Or.inl fun q => by rw [q]; exact goT⟩
      rw [eT, zI_n]
      obtain ⟨⟨r3, s3⟩, E3, w3, f3, g3, h3⟩ := x_reach (p := T) (d := s_d2 c par k d) (lo := lo2) w2 (by rw [f2.1]; exact hD) (by omega) (by omega) l2 (by omega)
      have f3' : dF s s3 := f2.tr f3
      have g3' : ∀ i, hs_I s3 94 i = if i = k then 1 else hs_I s 94 i := fun i => by
        have : hs_I s3 94 = hs_I s2 94 := g3
        rw [this]; exact g2 i
      rw [E3, hs_bd_s]
      unfold jX1_goOn_171 jX1_goOn_185
      rcases hr with ⟨hr, hf, hu⟩ | ⟨hr, hw⟩
      · rw [if_pos hr, if_pos hr]
        rcases h3 with ⟨h3, hcm, hup, lo3, l3, hl3, hl4⟩ | ⟨h3, hcm, hs3⟩
        · have hup : ∀ i, hs_I s3 93 i = if i = T then nI (s_d2 c par k d) else hs_I s2 93 i := hup
          refine Tq.some ⟨w3, f3', g3', Or.inl ⟨h3, ho, fun i hi q => ?_, fun i hi q => ?_, fun i q => ?_, lo3, l3, by omega, fun i hi q q2 => ?_⟩⟩
          · rcases (go i).mp q with q | q
            · rw [q.2]; exact (hf q.1).1
            · rw [q]
              rw [hu T] at hcm
              by_cases z : s_fl (c k) = true ∧ T = k + s_sz (c k)
              · rw [z.2]; exact (hf z.1).1
              · rw [if_neg z] at hcm; exact hcm
          · show hs_I s3 93 i = _
            rw [hup i]
            by_cases z : i = T
            · rw [if_pos z]
            · rw [if_neg z, hu i, if_pos (((go i).mp q).resolve_right z)]
          · show hs_I s3 93 i = _
            rw [hup i, hu i]
            have z1 : ¬ i = T := fun z => q ⟨by rw [z]; exact hTn, by rw [z]; exact goT⟩
            rw [if_neg z1]
            by_cases z : s_fl (c k) = true ∧ i = k + s_sz (c k)
            · exact absurd ⟨by rw [z.2]; exact ho.2.2 z.1, (go i).mpr (Or.inl z)⟩ q
            · rw [if_neg z]
          · rcases (go i).mp q with q | q
            · rw [q.2] at q2 ⊢
              have := (hf q.1).2 q2
              omega
            · rw [q] at q2 ⊢
              by_cases z : s_fl (c k) = true ∧ T = k + s_sz (c k)
              · rw [z.2] at q2 ⊢
                have := (hf z.1).2 q2
                omega
              · refine hl4 ?_
                rw [hu T, if_neg z]; exact q2
        · refine Tq.some ⟨w3, f3', g3', Or.inr ⟨h3, Or.inr ⟨T, hTn, goT, fun z => hcm ?_⟩⟩⟩
          rw [hu T]
          by_cases z2 : s_fl (c k) = true ∧ T = k + s_sz (c k)
          · rw [if_pos z2]; exact Or.inr rfl
          · rw [if_neg z2]; exact z
      · have hr' : ¬ r = -1 := by
          obtain ⟨x, x1, x2⟩ := hr
          rw [x2]; exact nI_m1 (by omega)
        rw [if_neg hr']
        by_cases c3 : r3 = (-1 : Int32)
        · rw [if_pos c3, if_neg hr']
          exact Tq.some ⟨w3, f3', g3', Or.inr ⟨hr, Or.inr hw⟩⟩
        · rw [if_neg c3]
          refine Tq.some ⟨w3, f3', g3', Or.inr ⟨?_, Or.inr hw⟩⟩
          show ∃ x, x ≤ 2000 ∧ (if r3 < r then r3 else r) = nI x
          split
          · rcases h3 with ⟨h3, -⟩ | ⟨h3, -⟩
            · exact absurd h3 c3
            · exact h3
          · exact hr
  have g129 : ∀ fl : Int32, (fl = 0 ↔ s_fl (c k) = false) → s_o1 c par n k d → Tq (jX1_goOn_129 92 M (nI k) (nI (c k)) (nI (s_d2 c par k d)) (nI (k + s_sz (c k))) fl s1) (fun q => WT q.2 ∧ dF s q.2 ∧ (∀ i, hs_I q.2 94 i = if i = k then 1 else hs_I s 94 i) ∧
      ((q.1 = -1 ∧ s_o1 c par n k d ∧ (∀ i, i < n → s_go c k i → (hs_I s 93 i = -1 ∨ hs_I s 93 i = nI (s_d2 c par k d))) ∧ (∀ i, i < n → s_go c k i → hs_I q.2 93 i = nI (s_d2 c par k d)) ∧ (∀ i, ¬ (i < n ∧ s_go c k i) → hs_I q.2 93 i = hs_I s 93 i) ∧ ∃ lo', hs_I q.2 92 2 = nI lo' ∧ lo' ≤ lo ∧ ∀ i, i < n → s_go c k i → hs_I s 93 i = -1 → lo' ≤ i) ∨
       ((∃ x, x ≤ 2000 ∧ q.1 = nI x) ∧ (¬ s_o1 c par n k d ∨ ∃ i, i < n ∧ s_go c k i ∧ ¬ (hs_I s 93 i = -1 ∨ hs_I s 93 i = nI (s_d2 c par k d)))))) := by
    intro fl hfl ho
    unfold jX1_goOn_129
    by_cases c0 : fl = 0
    · rw [if_pos c0]
      have nf := hfl.mp c0
      exact g146 (-1) s1 lo ho w1 f1 g1 l1 (Nat.le_refl _) (Or.inl ⟨rfl, fun q => absurd (nf.symm.trans q) (by decide), fun i => by rw [d1, if_neg (fun q => absurd (nf.symm.trans q.1) (by decide))]⟩)
    · rw [if_neg c0, if_pos (w1.k gk_92)]
      have hfl' : s_fl (c k) = true := by
        cases q : s_fl (c k)
        · exact absurd (hfl.mpr q) c0
        · rfl
      have hx := ho.2.2 hfl'
      have hd2 := ho.2.1
      obtain ⟨⟨r3, s3⟩, E3, w3, f3, g3, h3⟩ := x_reach (p := k + s_sz (c k)) (d := s_d2 c par k d) (lo := lo) w1 hD1 (by omega) (by omega) l1 (by omega)
      have g3' : ∀ i, hs_I s3 94 i = if i = k then 1 else hs_I s 94 i := fun i => by
        have : hs_I s3 94 = hs_I s1 94 := g3
        rw [this]; exact g1 i
      rw [E3, hs_bd_s]
      rw [d1] at h3
      rcases h3 with ⟨h3, hcm, hup, lo3, l3, hl3, hl4⟩ | ⟨h3, hcm, hs3⟩
      · have hup : ∀ i, hs_I s3 93 i = if i = k + s_sz (c k) then nI (s_d2 c par k d) else hs_I s 93 i := hup
        refine g146 r3 s3 lo3 ho w3 (f1.tr f3) g3' l3 hl3 (Or.inl ⟨h3, fun _ => ⟨hcm, hl4⟩, fun i => ?_⟩)
        rw [hup i]
        by_cases z : i = k + s_sz (c k)
        · rw [if_pos z, if_pos ⟨hfl', z⟩]
        · rw [if_neg z, if_neg (fun q => z q.2)]
      · have hs3' : s3 = s1 := hs3
        rw [hs3']
        exact g146 r3 s1 lo ho w1 f1 g1 l1 (Nat.le_refl _) (Or.inr ⟨h3, k + s_sz (c k), hx, Or.inl ⟨hfl', rfl⟩, hcm⟩)
  -- what it takes and gives
  have g35 : ∀ (s0 : Int32) (M' : Nat), gm_k M' = 6 → fX0_method A s0 s1 = some (M', s1) → nI (s_tk (c k)) + hs_I s1 M' 4 = nI (s_tq c par k) → Tq (jX1_goOn_35 92 A M (nI k) (nI (c k)) s0 s1) (fun q => WT q.2 ∧ dF s q.2 ∧ (∀ i, hs_I q.2 94 i = if i = k then 1 else hs_I s 94 i) ∧
      ((q.1 = -1 ∧ s_o1 c par n k d ∧ (∀ i, i < n → s_go c k i → (hs_I s 93 i = -1 ∨ hs_I s 93 i = nI (s_d2 c par k d))) ∧ (∀ i, i < n → s_go c k i → hs_I q.2 93 i = nI (s_d2 c par k d)) ∧ (∀ i, ¬ (i < n ∧ s_go c k i) → hs_I q.2 93 i = hs_I s 93 i) ∧ ∃ lo', hs_I q.2 92 2 = nI lo' ∧ lo' ≤ lo ∧ ∀ i, i < n → s_go c k i → hs_I s 93 i = -1 → lo' ≤ i) ∨
       ((∃ x, x ≤ 2000 ∧ q.1 = nI x) ∧ (¬ s_o1 c par n k d ∨ ∃ i, i < n ∧ s_go c k i ∧ ¬ (hs_I s 93 i = -1 ∨ hs_I s 93 i = nI (s_d2 c par k d)))))) := by
    intro s0 M' kM' EM ht
    have r0 : hs_R s1 92 0 - 1 = 93 := by rw [hD1.1]
    have r0n : ¬ hs_R s1 92 0 = 0 := by rw [hD1.1]; decide
    have htq : s_tq c par k ≤ 4 := by
      unfold s_tq
      by_cases q : c k = 184
      · rw [if_pos q]
        exact (hpar _ (hok.2.2.2.1 q)).2
      · rw [if_neg q]; omega
    have ez : cz (c k) = s_sz (c k) := by unfold cz; rw [if_pos hok.1]
    obtain ⟨-, -, -, K4, K5, K6⟩ := x_kinds hck s1
    unfold jX1_goOn_35
    rw [K5, hs_bd_s, if_pos (w1.k k1), EM, hs_bd_s, if_pos (w1.k kM'), if_pos (w1.k gk_92), if_pos r0n, r0, yf_at w1 gk_93.1 (by rw [gk_93.2.1]; omega), hs_bd_s, K6 hok.1, hs_bd_s, if_pos (w1.k v.1), x_sizeAt w1 v1 (by omega), e1, ez, hs_bd_s, K4, hs_bd_s, ht, d1, hdk, nI_add]
    have g99 : ∀ fl : Int32, (fl = 0 ↔ s_fl (c k) = false) → Tq (jX1_goOn_99 92 M (nI k) (nI (c k)) (nI d - nI (s_tq c par k)) (nI d - nI (s_tq c par k) + nI (s_gv (c k))) (nI (k + s_sz (c k))) fl s1) (fun q => WT q.2 ∧ dF s q.2 ∧ (∀ i, hs_I q.2 94 i = if i = k then 1 else hs_I s 94 i) ∧
      ((q.1 = -1 ∧ s_o1 c par n k d ∧ (∀ i, i < n → s_go c k i → (hs_I s 93 i = -1 ∨ hs_I s 93 i = nI (s_d2 c par k d))) ∧ (∀ i, i < n → s_go c k i → hs_I q.2 93 i = nI (s_d2 c par k d)) ∧ (∀ i, ¬ (i < n ∧ s_go c k i) → hs_I q.2 93 i = hs_I s 93 i) ∧ ∃ lo', hs_I q.2 92 2 = nI lo' ∧ lo' ≤ lo ∧ ∀ i, i < n → s_go c k i → hs_I s 93 i = -1 → lo' ≤ i) ∨
       ((∃ x, x ≤ 2000 ∧ q.1 = nI x) ∧ (¬ s_o1 c par n k d ∨ ∃ i, i < n ∧ s_go c k i ∧ ¬ (hs_I s 93 i = -1 ∨ hs_I s 93 i = nI (s_d2 c par k d)))))) := by
      intro fl hfl
      unfold jX1_goOn_99
      by_cases c1 : s_tq c par k ≤ d
      rotate_left
      · have x : nI d - nI (s_tq c par k) < 0 := by rw [nz_sub]; exact (zI_neg (by omega) (by omega)).mpr (by omega)
        rw [if_pos x]
        exact bad fun q => c1 q.1
      have e2 : nI d - nI (s_tq c par k) = nI (d - s_tq c par k) := pk_sub c1
      have e3 : s_d2 c par k d = d - s_tq c par k + s_gv (c k) := rfl
      rw [e2, if_neg (nI_pos (by omega)), nI_add, ← e3]
      by_cases c2 : s_d2 c par k d ≤ 20
      rotate_left
      · have x : (20 : Int32) < nI (s_d2 c par k d) := (lti (a := 20) (by decide) (by omega)).mpr (by omega)
        rw [if_pos x]
        exact bad fun q => c2 q.2.1
      have x2 : ¬ (20 : Int32) < nI (s_d2 c par k d) := fun q => absurd ((lti (a := 20) (by decide) (by omega)).mp q) (by omega)
      rw [if_neg x2]
      by_cases c3 : fl = 0
      · rw [if_pos c3]
        exact g129 fl hfl ⟨c1, c2, fun q => absurd ((hfl.mp c3).symm.trans q) (by decide)⟩
      · rw [if_neg c3, if_pos (w1.k v.1), v1.2.2.1]
        by_cases c4 : k + s_sz (c k) < n
        · rw [if_pos ((lti (by omega) (by omega)).mpr c4)]
          exact g129 fl hfl ⟨c1, c2, fun _ => c4⟩
        · rw [if_neg (fun q => c4 ((lti (by omega) (by omega)).mp q))]
          refine bad fun q => c4 (q.2.2 ?_)
          cases z : s_fl (c k)
          · exact absurd (hfl.mpr z) c3
          · rfl
    cases cf : s_fl (c k)
    · rw [if_neg (by decide)]
      exact g99 0 ⟨fun _ => cf, fun _ => rfl⟩
    · rw [if_pos (by decide)]
      exact g99 1 ⟨fun q => absurd q (by decide), fun q => absurd (cf.symm.trans q) (by decide)⟩
  by_cases c0 : c k = 184
  · have x : nI (c k) = (184 : Int32) := by rw [c0]; rfl
    have hs2 : s_sz (c k) = 2 := by rw [c0]; decide
    have h2 := hok.2.1
    have e2 : vE e n (k + 1) = c (k + 1) := by unfold vE; rw [if_pos (by omega), hc _ (by omega)]
    have ho := hok.2.2.2.1 c0
    rw [if_pos x, if_pos (w1.k v.1), nI_1, x_val w1 v1 (by omega), e2, hs_bd_s]
    refine g35 _ (A + 6 + 2 * c (k + 1)) (k6 _ (by omega)).1 (x_mth w1 hA hR1 (by omega)) ?_
    rw [hro _ (by omega), (hpar _ ho).1, nI_add]
    unfold s_tq
    rw [if_pos c0, c0]
    congr 1
    have : s_tk 184 = 0 := by decide
    omega
  · have x : ¬ nI (c k) = (184 : Int32) := fun q => c0 ((eqi (b := 184) (by omega) (by decide)).mp q)
    rw [if_neg x]
    refine g35 _ (A + 2) k3 (x_none w1 hA hR1) ?_
    rw [hro _ (by omega), hnone, Int32.add_zero]
    unfold s_tq
    rw [if_neg c0]
