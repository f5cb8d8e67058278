/-- step() -/
theorem q_step {g0 g : hm} {N m x d rk F st : Nat} {p l n h P : Nat → Nat} {c R : Nat → Nat → Nat} (hW : s_WB g0 N p l n h c R P) (k : s_K g0 (s_Sd g0 N p n h c R P) g F st m x d) (hG : s_Gd g0 N p n h c R P rk m x d) : Tq (nX12_step g) (fun q => s_Ou g0 N p n h c R P q st rk) := by
  obtain ⟨hm8, b, far, S, j, t, d0, w, hB, hj, hr, hP⟩ := hG
  have X : s_Cx g0 N p n h c R P m b far S j t d0 := ⟨hm8, w, hB, hj, hr⟩
  obtain ⟨o1, o2, o3, o4, o5⟩ := X.dk hW
  have hS4 := X.S4 hW
  have hF := k.d20.1
  have hpl := s_pl_01 P (c m) (n m) b true j
  rcases hP with ⟨q1, q2, q3, q4⟩ | ⟨q1, q2, q3, q4⟩ | ⟨q2, q3, q4⟩ | ⟨q0, q1, q5, q2, q3, q4⟩
  · subst q2; subst q3; subst q4
    have y0 := X.byte hW (o := 0) (by omega)
    rw [s_em_202 q1, Nat.add_zero] at y0
    have hc : ∀ i, i < 5 → nX12_codeAt (nI i) g = some (g0 304 (4001 * m + (S j + i)), g) := fun i hi => k.code (by omega) (by omega)
    have c0 : nX12_codeAt (0 : Int32) g = some (nI 202, g) := by
      have := hc 0 (by decide)
      rw [Nat.add_zero, y0.1] at this
      exact this
    have c1 : nX12_codeAt (1 : Int32) g = _ := hc 1 (by decide)
    have c2 : nX12_codeAt (2 : Int32) g = _ := hc 2 (by decide)
    have c3 : nX12_codeAt (3 : Int32) g = _ := hc 3 (by decide)
    have c4 : nX12_codeAt (4 : Int32) g = _ := hc 4 (by decide)
    unfold nX12_step
    rw [c0, hm_bd_s, if_pos (show nI 202 = (202 : Int32) from rfl), c1, hm_bd_s, c2, hm_bd_s, c3, hm_bd_s, c4, hm_bd_s]
    refine Tq.bd ((k.pays _).mono fun q hq => ?_)
    rcases hq with ⟨e, k'⟩ | ⟨e, s⟩
    · have e1 : nI (F + 1) - (1 : Int32) = nI F := nI_pred F
      have e2 : nI (S j) + (5 : Int32) = nI (S j + 5) := nI_add (S j) 5
      have u : ¬ q.1 = 0 := by rw [e]; decide
      rw [if_neg u, k'.1.2.2.1, e1, if_pos (hin hF (by decide)), cl (show F < 2147483648 by omega), k'.2.2.1, e2]
      rcases hpl with hpl | hpl
      · exact Tq.some ((k'.at (S j + 5)).ou0 (rk' := 0) (X.gd (Or.inr (Or.inr (Or.inl ⟨by omega, rfl, rfl⟩)))) (by omega))
      · exact Tq.some ((k'.at (S j + 5)).ou0 (rk' := 1) (X.gd (Or.inr (Or.inl ⟨hpl, by omega, rfl, rfl⟩))) (by omega))
    · rw [if_pos e]
      exact Tq.some (s.ou st 2)
  · subst q2; subst q3; subst q4
    have y0 := X.byte hW (o := s_pay P (c m) (n m) b true j) (by omega)
    rw [s_em_203 q1] at y0
    have c0 : nX12_codeAt (0 : Int32) g = some (nI 203, g) := by
      have : nX12_codeAt (nI 0) g = some (g0 304 (4001 * m + (S j + s_pay P (c m) (n m) b true j + 0)), g) := k.code (by omega) (by omega)
      rw [Nat.add_zero, y0.1] at this
      exact this
    have h188 := s_pl_188 q1
    have ht : 1 ≤ d := by
      have h1 := o1.1
      unfold s_tq at h1
      rw [if_neg (by omega), h188] at h1
      exact h1
    obtain ⟨d', rfl⟩ : ∃ d', d = d' + 1 := ⟨d - 1, by omega⟩
    obtain ⟨v, ev⟩ := k.top (by omega)
    have u : ¬ nI 203 = (202 : Int32) := by decide
    have on : ∀ g', s_K g0 (s_Sd g0 N p n h c R P) g' F st m (S j + s_pay P (c m) (n m) b true j) (d' + 1) → Tq (njX12_step_93 g') (fun q => s_Ou g0 N p n h c R P q st 1) := by
      intro g' k'
      obtain ⟨g2, e2, k2⟩ := k'.s93
      exact ⟨g2, e2, k2.ou0 (rk' := 0) (X.gd (Or.inr (Or.inr (Or.inl ⟨by omega, rfl, rfl⟩)))) (by omega)⟩
    unfold nX12_step
    rw [c0, hm_bd_s, if_neg u, if_pos (show nI 203 = (203 : Int32) from rfl), ev, hm_bd_s]
    by_cases c1 : v ≤ 0
    · rw [if_pos c1]; exact on g k
    rw [if_neg c1, ev, hm_bd_s]
    refine Tq.bd ((k.pays v).mono fun q hq => ?_)
    rcases hq with ⟨e, k'⟩ | ⟨e, s⟩
    · have u : ¬ q.1 = 0 := by rw [e]; decide
      rw [if_neg u]; exact on q.2 k'
    · rw [if_pos e]; exact Tq.some (s.ou st 1)
  · subst q2; subst q3; subst q4
    by_cases hJ : s_isJ (c m j) = true
    · exact k.jmp hW X hJ
    · have hsz0 := s_isK_sz o3.1
      have y0 := X.main hW hJ (i := 0) hsz0
      rw [Nat.add_zero, Nat.add_zero] at y0
      have hk := s_isK_cases o3.1
      exact k.st0 (by omega) (by omega) y0.1 y0.2.2 hk.1 hk.2 (fun q hq => hq.ou st 0) fun g1 k1 => k1.rest hW X hJ 0
  · subst q2; subst q3; subst q4
    have hln := s_ln_j (far := far) q0
    rw [if_pos q1, if_pos q5] at hln
    have xt := X.jump hW q0
    have hSt := (xt.S4 hW).1
    have hd2 : s_d2 (c m) p j d0 ≤ 20 := o1.2.1
    have y0 := X.mainJ hW q0 (i := 2) (by omega)
    have y1 := X.mainJ hW q0 (i := 3) (by omega)
    have y2 := X.mainJ hW q0 (i := 4) (by omega)
    unfold s_ej at y0 y1 y2
    rw [if_pos q1, if_pos q5, if_neg (by decide), if_neg (by decide), if_pos rfl] at y0
    rw [if_pos q1, if_pos q5, if_neg (by decide), if_neg (by decide), if_neg (by decide), if_pos rfl] at y1
    rw [if_pos q1, if_pos q5, if_neg (by decide), if_neg (by decide), if_neg (by decide), if_neg (by decide)] at y2
    refine k.st0 (by omega) (by omega) y0.1 (by decide) (by decide) (by decide) (fun q hq => hq.ou st 0) fun g1 k1 => ?_
    rw [ns_rest_j (by decide) (by decide)]
    have htg : s_tg 168 (S j + s_pl P (c m) (n m) b true j + 2) (s_hi ((S (s_tgt (c m) j).toNat : Int) - (S j + s_pl P (c m) (n m) b true j : Nat) - 2)) (s_lo ((S (s_tgt (c m) j).toNat : Int) - (S j + s_pl P (c m) (n m) b true j : Nat) - 2)) = ((S (s_tgt (c m) j).toNat : Nat) : Int) := by
      unfold s_tg
      rw [if_pos rfl, s_hi_s (by omega) (by omega)]
      omega
    refine Tq.bv ((k1.jumps (by omega) hd2 (by decide) (by omega) (s_hi_b _) (s_lo_b _) y1.1 (fun _ => y2.1) htg (fun q => absurd q (by decide))).mono fun q hq => Tq.some ?_)
    rw [if_neg (by decide)] at hq
    rcases hq with ⟨hq, -⟩ | hq
    · exact absurd hq (by decide)
    · exact hq.ou xt.to 0
/-! CAUGHT -/
theorem q_c33 {m hh : Nat} {g : hm} (hm8 : m < 8) (hh8 : hh ≤ 8) (h290 : g 290 m = nI hh) (v2 : Int32) : ∀ (d k f : Nat), k + d = hh → d < f → ∃ r, nlX12_caught_33 f (nI m) v2 (nI k) g = some r ∧ (r = (0, 0, g) ∨ ∃ z, z < hh ∧ r = (1, nI (32 * m + 4 * z), g))
  | d, k, 0, _, hf => absurd hf (Nat.not_lt_zero _)
  | 0, k, f + 1, hk, _ => by
    rw [nlX12_caught_33, if_pos (hin hm8 (by decide)), cl (show m < 2147483648 by omega), h290, if_pos ((lei (by omega) (by omega)).mpr (by omega))]
    exact ⟨_, rfl, Or.inl rfl⟩
  | d + 1, k, f + 1, hk, hf => by
    have d1 : (32 : Int32) * nI m + (4 : Int32) * nI k = nI (32 * m + 4 * k) := by rw [show (32 : Int32) = nI 32 from rfl, show (4 : Int32) = nI 4 from rfl, pk_mul, pk_mul, nI_add]
    have d2 : nI (32 * m + 4 * k) + (3 : Int32) = nI (32 * m + 4 * k + 3) := nI_add _ 3
    have ih := q_c33 hm8 hh8 h290 v2 d (k + 1) f (by omega) (by omega)
    rw [nlX12_caught_33, if_pos (hin hm8 (by decide)), cl (show m < 2147483648 by omega), h290, if_neg (fun q => absurd ((lei (by omega) (by omega)).mp q) (by omega)), d1, d2, if_pos (hin (show 32 * m + 4 * k + 3 < 256 by omega) (by decide))]
    have go2 : ∃ r, njX12_caught_153 (fun y0 g => nlX12_caught_33 f (nI m) v2 y0 g) (nI m) v2 (nI k) g = some r ∧ (r = (0, 0, g) ∨ ∃ z, z < hh ∧ r = (1, nI (32 * m + 4 * z), g)) := by
      unfold njX12_caught_153
      rw [nI_1]
      exact ih
    have go : ∃ r, njX12_caught_78 (fun y0 g => nlX12_caught_33 f (nI m) v2 y0 g) (nI m) v2 (nI k) (nI (32 * m + 4 * k)) g = some r ∧ (r = (0, 0, g) ∨ ∃ z, z < hh ∧ r = (1, nI (32 * m + 4 * z), g)) := by
      unfold njX12_caught_78
      rw [if_pos (hin (show 32 * m + 4 * k < 256 by omega) (by decide)), nI_1, if_pos (hin (show 32 * m + 4 * k + 1 < 256 by omega) (by decide))]
      split
      · exact go2
      · split
        · exact go2
        · exact ⟨_, rfl, Or.inr ⟨k, by omega, rfl⟩⟩
    split
    · exact go
    · split
      · exact go
      · exact go2
theorem q_c0 {g0 : hm} {N st : Nat} {p l n h P : Nat → Nat} {c R : Nat → Nat → Nat} (hW : s_WB g0 N p l n h c R P) : ∀ (D f : Nat) (g : hm), D < f → s_Rs g0 (s_Sd g0 N p n h c R P) g D st → (∀ F, D = F + 1 → ∃ m x, m < N ∧ g 315 F = nI m ∧ g 316 F = nI x) →
    Tq (nlX12_caught_0 f g) (fun r => r.2.2 285 47 = g 285 47 ∧ r.2.2 285 46 = g 285 46 ∧ ((r.1 = 0 ∧ s_Rs g0 (s_Sd g0 N p n h c R P) r.2.2 0 st) ∨ (r.1 = 1 ∧ ∃ F m z, m < N ∧ z < h m ∧ r.2.1 = nI (32 * m + 4 * z) ∧ s_Rs g0 (s_Sd g0 N p n h c R P) r.2.2 (F + 1) st ∧ r.2.2 315 F = nI m)))
  | D, 0, g, hf, _, _ => absurd hf (Nat.not_lt_zero _)
  | 0, f + 1, g, _, hR, _ => by
    have u : g 285 40 ≤ 0 := by rw [hR.2.2.1]; decide
    rw [nlX12_caught_0, if_pos u]
    exact Tq.some ⟨rfl, rfl, Or.inl ⟨rfl, hR⟩⟩
  | F + 1, f + 1, g, hf, hR, ht => by
    have hD := hR.2.2.2.1
    have u : ¬ g 285 40 ≤ 0 := fun q => absurd ((lei (a := F + 1) (b := 0) (by omega) (by decide)).mp (by rw [hR.2.2.1] at q; exact q)) (by omega)
    have e1 : nI (F + 1) - (1 : Int32) = nI F := nI_pred F
    obtain ⟨m, x, hm8, a1, a2⟩ := ht F rfl
    have hi : hs_in (nI F) 60 = true := hin (by omega) (by decide)
    have hN := hW.2.1.2.1
    have hh := (hW.2.1.2.2 m hm8).2.2.2.1.2.2.2.1
    have h290 : g 290 m = nI (h m) := by rw [hR.1 290 (by decide)]; exact (hW.1 m hm8).2.2
    have e0 : (0 : Int32) = nI 0 := rfl
    obtain ⟨r, er, hr⟩ := q_c33 (by omega) hh h290 (nI x) (h m) 0 hs_N (by omega) (by unfold hs_N; omega)
    rw [nlX12_caught_0, if_neg u, hR.2.2.1, e1, if_pos hi, if_pos hi, cl (show F < 2147483648 by omega), a1, a2, e0, er]
    rcases hr with hr | ⟨z, hz, hr⟩
    · subst hr
      refine Tq.b3e rfl ?_
      rw [if_pos rfl, hR.2.2.1, e1]
      refine (q_c0 hW F f _ (by omega) hR.less fun G hG => ?_).mono fun r hr => ?_
      · obtain ⟨m', x', d', f1, f2, f3, q1, -⟩ := hR.2.2.2.2.2.2.2 G (by omega)
        exact ⟨m', x', q1, by rw [hm_w_ne (by decide)]; exact f1, by rw [hm_w_ne (by decide)]; exact f2⟩
      · rw [hm_w_o (by decide), hm_w_o (by decide)] at hr
        exact hr
    · subst hr
      refine Tq.b3e rfl ?_
      rw [if_neg (by decide)]
      exact Tq.some ⟨rfl, rfl, Or.inr ⟨rfl, F, m, z, hm8, hz, rfl, hR, a1⟩⟩
/-- caught() -/
theorem q_caught {g0 g : hm} {N F st : Nat} {p l n h P : Nat → Nat} {c R : Nat → Nat → Nat} (hW : s_WB g0 N p l n h c R P) (x : s_Th g0 N (s_Sd g0 N p n h c R P) g F st) : Tq (nX12_caught g) (fun q => q 285 46 = 0 ∧ ∃ D, s_Rs g0 (s_Sd g0 N p n h c R P) q D st ∧ (D = 0 ∨ ∃ G rk, D = G + 1 ∧ rk ≤ 2 ∧ s_fr q G (s_Gd g0 N p n h c R P rk))) := by
  obtain ⟨-, x46, xR, m0, x0, d0, a0, a1, a2, a3⟩ := x
  have hD := xR.2.2.2.1
  unfold nX12_caught
  refine Tq.b3 ((q_c0 hW (F + 1) hs_N g (by unfold hs_N; omega) xR fun G hG => ⟨m0, x0, a0, by rw [show G = F by omega]; exact a1, by rw [show G = F by omega]; exact a2⟩).mono fun r hr => ?_)
  obtain ⟨r1, r2, hr⟩ := hr
  rcases hr with ⟨r3, r4⟩ | ⟨r3, G, m, z, hm8, hz, r5, r6, r7⟩
  · rw [if_pos r3]
    exact Tq.some ⟨r2.trans x46, 0, r4, Or.inl rfl⟩
  · have u : ¬ r.1 = 0 := by rw [r3]; decide
    have e1 : nI (G + 1) - (1 : Int32) = nI G := nI_pred G
    have e2 : (24 : Int32) * nI G = nI (24 * G) := by rw [show (24 : Int32) = nI 24 from rfl, pk_mul]
    have e3 : nI (32 * m + 4 * z) + (2 : Int32) = nI (32 * m + 4 * z + 2) := nI_add _ 2
    have hG := r6.2.2.2.1
    have hi : hs_in (nI G) 60 = true := hin (by omega) (by decide)
    have hN := hW.2.1.2.1
    have hh := (hW.2.1.2.2 m hm8).2.2.2.1.2.2.2.1
    obtain ⟨b, far, S, wq⟩ := (hW.2.2.2 m hm8).1.q
    have h306 : g0 306 (32 * m + 4 * z + 2) = nI (S (R m (4 * z + 2))) := (wq.2.2.2 z hz).1 2 (by decide)
    have hM := (hW.2.1.2.2 m hm8).2.2.2.1
    obtain ⟨hm1, hm2⟩ := hM.h2 hz
    have X : s_Cx g0 N p n h c R P m b far S (R m (4 * z + 2)) 0 1 := ⟨hm8, wq, hm2, hm1, Or.inr ⟨z, hz, rfl, rfl⟩⟩
    obtain ⟨rk, hrk, hgd⟩ := X.to
    rw [if_neg u, r6.2.2.1, e1, e2, if_pos (hin (show 24 * G < 1440 by omega) (by decide)), hm_w_ne (by decide), r6.2.2.1, e1, if_pos hi, hm_bv_s, cl (show G < 2147483648 by omega), r5, e3, if_pos (hin (show 32 * m + 4 * z + 2 < 256 by omega) (by decide)), hm_w_ne (by decide), hm_w_ne (by decide), r6.2.2.1, e1, if_pos hi, cl (show G < 2147483648 by omega), cl (show 32 * m + 4 * z + 2 < 2147483648 by omega), hm_w_ne (by decide), hm_w_ne (by decide), r6.1 306 (by decide), h306]
    refine Tq.some ⟨?_, G + 1, ((r6.w1 (by decide)).w2 (by decide) (Nat.le_refl _)).w2 (by decide) (Nat.le_refl _), Or.inr ⟨G, rk, rfl, hrk, m, _, 1, ?_, ?_, ?_, hgd⟩⟩
    · rw [hm_w_ne (by decide), hm_w_ne (by decide), hm_w_ne (by decide)]; exact r2.trans x46
    · rw [hm_w_ne (by decide), hm_w_ne (by decide), hm_w_ne (by decide)]; exact r7
    · rw [hm_w_eq]
    · rw [hm_w_ne (by decide), hm_w_eq]; rfl
/-! RUN -/
theorem q_r130_0 {g0 g : hm} {Q : Nat → Nat → Nat → Prop} {D st : Nat} (hR : s_Rs g0 Q g D st) (h : D = 0 ∨ g 285 46 = 1) (f : Nat) : Tq (nlX12_run_130 (f + 1) g) (fun q => ∃ D st, s_Rs g0 Q q.2 D st) := by
  rw [nlX12_run_130]
  by_cases c0 : g 285 40 ≤ 0
  · rw [if_pos c0]; exact Tq.some ⟨D, st, hR⟩
  · rw [if_neg c0]
    rcases h with h | h
    · subst h
      exact absurd (by rw [hR.2.2.1]; decide) c0
    · have u : ¬ g 285 46 = 0 := by rw [h]; decide
      rw [if_neg u]; exact Tq.some ⟨D, st, hR⟩
theorem q_r130 {g0 : hm} {N : Nat} {p l n h P : Nat → Nat} {c R : Nat → Nat → Nat} (hW : s_WB g0 N p l n h c R P) : ∀ (f μ : Nat) (g : hm) (F st rk : Nat), μ + 1 < f → s_Rs g0 (s_Sd g0 N p n h c R P) g (F + 1) st → g 285 46 = 0 → s_fr g F (s_Gd g0 N p n h c R P rk) → 3 * (20000 - st) + rk ≤ μ →
    Tq (nlX12_run_130 f g) (fun q => ∃ D st, s_Rs g0 (s_Sd g0 N p n h c R P) q.2 D st)
  | 0, μ, g, F, st, rk, hf, _, _, _, _ => absurd hf (Nat.not_lt_zero _)
  | f + 1, μ, g, F, st, rk, hf, hR, h46, hfr, hμ => by
    have hD := hR.2.2.2.1
    have u : ¬ g 285 40 ≤ 0 := fun q => absurd ((lei (a := F + 1) (b := 0) (by omega) (by decide)).mp (by rw [hR.2.2.1] at q; exact q)) (by omega)
    obtain ⟨m, x, d, f1, f2, f3, hG⟩ := hfr
    have k : s_K g0 (s_Sd g0 N p n h c R P) (hm_w g 285 47 (0 : Int32)) F st m x d := ⟨hR.w3 (by decide), by rw [hm_w_ne (by decide)]; exact f1, by rw [hm_w_ne (by decide)]; exact f2, by rw [hm_w_ne (by decide)]; exact f3, by rw [hm_w_eq], by rw [hm_w_o (by decide)]; exact h46⟩
    rw [nlX12_run_130, if_neg u, if_pos h46]
    obtain ⟨f', rfl⟩ : ∃ f', f = f' + 1 := ⟨f - 1, by omega⟩
    refine Tq.bv ((q_step hW k hG).mono fun q hq => ?_)
    rcases hq with ⟨y1, y2, D, st', yR, y3⟩ | ⟨y1, y2, D, st', yR⟩ | ⟨G, y0, y1⟩
    · have v : q 285 47 ≤ 0 := by rw [y1]; decide
      rw [if_pos v]
      rcases y3 with y3 | ⟨G, rk', y4, y5, y6⟩
      · exact q_r130_0 yR (Or.inl y3) f'
      · subst y4
        exact q_r130 hW (f' + 1) (μ - 1) q G st' rk' (by omega) yR y2 y5 (by omega)
    · have v : q 285 47 ≤ 0 := by rw [y1]; decide
      rw [if_pos v]
      exact q_r130_0 yR (Or.inr y2) f'
    · obtain ⟨e, e1, e2, e3⟩ := y1.1
      have v : ¬ q 285 47 ≤ 0 := fun w => absurd ((lei (a := e) (b := 0) (by omega) (by decide)).mp (by rw [e3] at w; exact w)) (by omega)
      rw [if_neg v]
      refine Tq.bv ((q_caught hW y1).mono fun q2 hq2 => ?_)
      obtain ⟨z1, D, z2, z3⟩ := hq2
      rcases z3 with z3 | ⟨G2, rk', z4, z5, z6⟩
      · have w : q2 285 40 = 0 := by rw [z2.2.2.1, z3]; rfl
        rw [if_pos w]
        exact Tq.some ⟨D, _, z2⟩
      · subst z4
        have hD2 := z2.2.2.2.1
        have w : ¬ q2 285 40 = 0 := fun w => absurd ((eqi (b := 0) (by omega) (by decide)).mp (z2.2.2.1.symm.trans w)) (by omega)
        rw [if_neg w]
        exact q_r130 hW (f' + 1) (μ - 1) q2 G2 (st + 1) rk' (by omega) z2 z1 z6 (by omega)
theorem q_r41 (v1 v2 v3 v4 : Int32) : ∀ (d k f : Nat) (g : hm), k + d = 4 → d < f → Tq (nlX12_run_41 f v1 v2 v3 v4 (nI k) g) (fun q => Fr [313] g q ∧ (∀ i, k ≤ i → i < 4 → q 313 i = 0) ∧ ∀ i, i < k → q 313 i = g 313 i)
  | d, k, 0, g, _, hf => absurd hf (Nat.not_lt_zero _)
  | 0, k, f + 1, g, hk, _ => by
    have u : (4 : Int32) ≤ nI k := (lei (a := 4) (by decide) (by omega)).mpr (by omega)
    rw [nlX12_run_41, if_pos u]
    exact Tq.some ⟨Fr.rf, fun i h1 h2 => absurd h2 (by omega), fun i _ => rfl⟩
  | d + 1, k, f + 1, g, hk, hf => by
    have u : ¬ (4 : Int32) ≤ nI k := fun q => absurd ((lei (a := 4) (by decide) (by omega)).mp q) (by omega)
    rw [nlX12_run_41, if_neg u, if_pos (hin (show k < 4 by omega) (by decide)), cl (show k < 2147483648 by omega), nI_1]
    refine (q_r41 v1 v2 v3 v4 d (k + 1) f _ (by omega) (by omega)).mono fun q hq => ?_
    obtain ⟨h1, h2, h3⟩ := hq
    refine ⟨fun a ha => (h1 a ha).trans (hm_w_ne (by simpa using ha)), fun i i1 i2 => ?_, fun i i1 => ?_⟩
    · by_cases e : i = k
      · rw [h3 i (by omega), e, hm_w_eq]
      · exact h2 i (by omega) i2
    · rw [h3 i (by omega), hm_w_o (by omega)]
/-- what a run leaves as it was -/
def s_Rn (g q : hm) : Prop := Fr [285, 313, 314, 315, 316, 317, 318, 319] g q ∧ Fo [36, 37, 38, 39, 40, 46, 47] g q ∧ s_Az q
theorem s_Rs.rn {g q : hm} {Q : Nat → Nat → Nat → Prop} {D st : Nat} (x : s_Rs g Q q D st) : s_Rn g q := ⟨x.1, x.2.1, x.2.2.2.2.2.2.1⟩
theorem s_Rn.w36 {g q : hm} {v : Int32} (x : s_Rn g q) : s_Rn g (hm_w q 285 36 v) := ⟨x.1.w (by decide), x.2.1.w (by decide), fun a ha => by rw [hm_w_ne (by decide)]; exact x.2.2 a ha⟩
theorem q_r181 {g q : hm} (x : s_Rn g q) : Tq (njX12_run_181 q) (fun r => s_Rn g r.2) := by
  unfold njX12_run_181
  exact Tq.br (fun _ => Tq.some x) (fun _ => Tq.some x.w36)
/-- run() -/
theorem q_run {g : hm} (hWV : ¬ g 285 22 = 0 → s_WV g) (hA : s_Az g) (v1 v2 v3 v4 : Int32) : Tq (nX12_run v1 v2 v3 v4 g) (fun r => s_Rn g r.2) := by
  have h0 : s_Rn g g := ⟨Fr.rf, Fo.rf, hA⟩
  unfold nX12_run
  by_cases c0 : g 285 22 = 0
  · rw [if_pos c0]; exact Tq.some h0
  rw [if_neg c0]
  obtain ⟨N, p, l, n, h, c, R, P, z1, z2⟩ := hWV c0
  have hW : s_WB g N p l n h c R P := z2
  by_cases c1 : v1 < 0
  · rw [if_pos c1]; exact Tq.some h0
  obtain ⟨m, hm0, em⟩ := nI_of c1
  subst em
  have hN := hW.2.1.2.1
  rw [if_neg c1, z1]
  by_cases c2 : m < N
  rotate_left
  · rw [if_pos ((lei (by omega) (by omega)).mpr (by omega))]; exact Tq.some h0
  rw [if_neg (fun q => absurd ((lei (by omega) (by omega)).mp q) (by omega))]
  by_cases c3 : v4 < 0
  · rw [if_pos c3]; exact Tq.some h0
  rw [if_neg c3]
  by_cases c4 : v4 ≤ (100000 : Int32)
  rotate_left
  · rw [if_neg c4]; exact Tq.some h0
  rw [if_pos c4]
  have e0 : (0 : Int32) = nI 0 := rfl
  refine Tq.bv (Tq.mono (by rw [e0]; exact q_r41 (nI m) v2 v3 v4 4 0 hs_N g (by omega) (by unfold hs_N; omega)) fun q hq => ?_)
  obtain ⟨F1, Z1, -⟩ := hq
  rw [hm_bv_s]
  have R1 : s_Rs g (s_Sd g N p n h c R P) (hm_w (hm_w (hm_w (hm_w (hm_w (hm_w q 285 36 (0 : Int32)) 285 37 (0 : Int32)) 285 38 (0 : Int32)) 285 39 v4) 285 40 (0 : Int32)) 285 46 (0 : Int32)) 0 0 := by
    refine ⟨?_, ?_, ?_, by omega, ?_, by omega, ?_, fun f hf => absurd hf (by omega)⟩
    · exact ((((((F1.mono (by decide) : Fr [285, 313, 314, 315, 316, 317, 318, 319] g q).w (by decide)).w (by decide)).w (by decide)).w (by decide)).w (by decide)).w (by decide)
    · exact ((((((Fo.of F1 (by decide) : Fo [36, 37, 38, 39, 40, 46, 47] g q).w (by decide)).w (by decide)).w (by decide)).w (by decide)).w (by decide)).w (by decide)
    · rw [hm_w_o (by decide), hm_w_eq]; rfl
    · rw [hm_w_o (by decide), hm_w_o (by decide), hm_w_o (by decide), hm_w_eq]; rfl
    · intro a ha
      rw [hm_w_ne (by decide), hm_w_ne (by decide), hm_w_ne (by decide), hm_w_ne (by decide), hm_w_ne (by decide), hm_w_ne (by decide)]
      exact ⟨0, by omega, Z1 a (by omega) ha⟩
  have A46 : (hm_w (hm_w (hm_w (hm_w (hm_w (hm_w q 285 36 (0 : Int32)) 285 37 (0 : Int32)) 285 38 (0 : Int32)) 285 39 v4) 285 40 (0 : Int32)) 285 46 (0 : Int32)) 285 46 = 0 := by rw [hm_w_eq]
  generalize hm_w (hm_w (hm_w (hm_w (hm_w (hm_w q 285 36 (0 : Int32)) 285 37 (0 : Int32)) 285 38 (0 : Int32)) 285 39 v4) 285 40 (0 : Int32)) 285 46 (0 : Int32) = g1 at R1 A46
  refine Tq.bv ((q_enter (m := m) R1 (by omega) (fun f hf => absurd hf (by omega))).mono fun q2 hq2 => ?_)
  obtain ⟨⟨R2, b1, b2, b3, -, b5⟩, -⟩ := hq2
  have b46 : q2 285 46 = 0 := b5.trans A46
  obtain ⟨rk, hrk, hgd⟩ := hW.start c2
  have fr0 : s_fr q2 0 (s_Gd g N p n h c R P rk) := ⟨m, 0, 0, b1, b2, b3, hgd⟩
  have hi : hs_in (nI m) 8 = true := hin (by omega) (by decide)
  have a287 : ∀ y, s_Rs g (s_Sd g N p n h c R P) y 1 0 → y 287 m = nI (p m) := fun y hy => by rw [hy.1 287 (by decide)]; exact (hW.1 m c2).1
  have loop : ∀ y, s_Rs g (s_Sd g N p n h c R P) y 1 0 → y 285 46 = 0 → s_fr y 0 (s_Gd g N p n h c R P rk) → Tq (hm_bd (nlX12_run_130 hs_N y) fun k11 g12 => if k11 = 0 then (njX12_run_181 g12) else (some ((2 : Int32), (hm_w g12 285 36 (g12 285 47))))) (fun r => s_Rn g r.2) := by
    intro y y1 y2 y3
    refine Tq.bd ((q_r130 hW hs_N 60002 y 0 0 rk (by unfold hs_N; omega) y1 y2 y3 (by omega)).mono fun r hr => ?_)
    obtain ⟨D, st, hr⟩ := hr
    exact Tq.br (fun _ => q_r181 hr.rn) (fun _ => Tq.some hr.rn.w36)
  have go : ∀ y, s_Rs g (s_Sd g N p n h c R P) y 1 0 → y 285 46 = 0 → s_fr y 0 (s_Gd g N p n h c R P rk) → Tq (njX12_run_113 (nI m) v3 y) (fun r => s_Rn g r.2) := by
    intro y y1 y2 y3
    unfold njX12_run_113
    rw [if_pos hi]
    refine Tq.br (fun _ => loop y y1 y2 y3) (fun _ => ?_)
    have u : hs_in (1 : Int32) 1200 = true := by decide
    rw [if_pos u]
    exact loop _ (y1.w1 (by decide)) (by rw [hm_w_ne (by decide)]; exact y2) (y3.mono (by rw [hm_w_ne (by decide)]) (by rw [hm_w_ne (by decide)]) (by rw [hm_w_ne (by decide)]))
  rw [if_pos hi]
  refine Tq.br (fun _ => go q2 R2 b46 fr0) (fun _ => ?_)
  have u : hs_in (0 : Int32) 1200 = true := by decide
  rw [if_pos u]
  exact go _ (R2.w1 (by decide)) (by rw [hm_w_ne (by decide)]; exact b46) (fr0.mono (by rw [hm_w_ne (by decide)]) (by rw [hm_w_ne (by decide)]) (by rw [hm_w_ne (by decide)]))
/-! ELEMENT, ANSWER, COUNTED, STEPS -/
theorem q_element {g : hm} (hA : s_Az g) (v1 v2 : Int32) : ∃ r, nX12_element v1 v2 g = some (r, g) := by
  unfold nX12_element njX12_element_38
  by_cases c1 : v1 < 0
  · rw [if_pos c1]; exact ⟨_, rfl⟩
  obtain ⟨a, ha0, rfl⟩ := nI_of c1
  rw [if_neg c1]
  by_cases c2 : nI a ≤ (3 : Int32)
  rotate_left
  · rw [if_neg c2]; exact ⟨_, rfl⟩
  have ha := (lei (b := 3) (by omega) (by decide)).mp c2
  have hi : hs_in (nI a) 4 = true := hin (by omega) (by decide)
  rw [if_pos c2]
  by_cases c3 : v2 = (-1 : Int32)
  · rw [if_pos c3, if_pos hi]; exact ⟨_, rfl⟩
  rw [if_neg c3]
  by_cases c4 : v2 < 0
  · rw [if_pos c4]; exact ⟨_, rfl⟩
  obtain ⟨i, hi0, rfl⟩ := nI_of c4
  obtain ⟨z, hz, ez⟩ := hA a (by omega)
  rw [if_neg c4, if_pos hi, cl (show a < 2147483648 by omega), ez]
  by_cases c5 : i < z
  · have e2 : (1001 : Int32) * nI a + nI i = nI (1001 * a + i) := ix 1001 a i
    rw [if_pos ((lti (by omega) (by omega)).mpr c5), e2, if_pos (hin (show 1001 * a + i < 4004 by omega) (by decide))]
    exact ⟨_, rfl⟩
  · rw [if_neg (fun q => c5 ((lti (by omega) (by omega)).mp q))]; exact ⟨_, rfl⟩
