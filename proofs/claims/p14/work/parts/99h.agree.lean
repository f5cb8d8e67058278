/-! REWRITE AND UNWRITE: the two answer alike -/
theorem a_rewrite {s : hs_S} (h : AG s) : Tq (fX11_rewrite 0 s) (fun q => CJ q.2 ∧ Tq (fX12_rewrite 285 q.2) (fun r => AG r.2 ∧ r.1 = q.1)) := by
  have h0 := h
  obtain ⟨hJ, hr, hX, hno, ⟨t, T, hT, tA, tB⟩, hp, hF⟩ := h
  have i0 : isF (hs_R s 0 0 - 1) := hX.2.2.2.2.2.2.2.2.2 0 (by decide)
  have i1 : isF (hs_R s 0 1 - 1) := hX.2.2.2.2.2.2.2.2.2 1 (by decide)
  have n1 : ¬ hs_R s 0 1 = 0 := (hJ.1.f9_1 gk_0).1
  have lA := i0.lt
  have lB := i1.lt
  obtain ⟨P, hP⟩ := hr.2.1
  rcases hF with ⟨x1, x2, x3, x4⟩ | ⟨x1, u, tu, x2, x3, x4, x5, x6, x7⟩
  · have e0 : fX11_rewrite 0 s = some (-2, s) := by
      unfold fX11_rewrite
      rw [if_pos (hJ.1.k gk_0), if_pos (hJ.1.f9_1 gk_0).1, if_pos (hJ.1.k (hJ.1.f9_1 gk_0).2), if_pos x2]
    refine ⟨_, e0, hJ, ?_⟩
    show Tq (fX12_rewrite 285 s) _
    have e := tX12_rewrite (hs_R s) hJ.2.1 (hs_I s)
    rw [← hJ.1.gm] at e
    obtain ⟨N, p, l, n, hh, c, R, hV⟩ := hr.fv
    refine (rf_e hJ e ((r_rewrite hr).and (q_rewrite hV hP)) fun z hz => ⟨hz.1.1, hz.1.2.1⟩).mono fun z hz => ?_
    obtain ⟨p, -, -, -, f2⟩ := hz
    rcases f2 with ⟨-, f2⟩ | ⟨f2, -⟩
    · have e3 : hs_I z.2 = hs_I s := congrArg Prod.snd f2
      have e4 : z.1 = -2 := congrArg Prod.fst f2
      have e7 : z.2 = s := WT.ext hJ.1 p.1.1 e3 p.2.2.2
      rw [e7, e4]
      exact ⟨h0, rfl⟩
    · exact absurd x1 f2
  have pP0 : pP s P := fun k hk => by rw [hp k hk]; exact (hP k hk).2
  have r1 : hs_R s 0 1 = (hs_R s 0 1 - 1) + 1 := by omega
  refine ((x_rewrite i1 x2 (fun k hk => (hP k hk).1) hJ.1 hX r1 x6 pP0).and (z_rewrite hJ)).mono fun q hq => ?_
  obtain ⟨⟨w1, ⟨R1, F1⟩, ra, cs⟩, c2, -⟩ := hq
  refine ⟨c2.1, ?_⟩
  have rj1 := hr.cl c2
  have e3 : ∀ a, 285 ≤ a → hs_I q.2 a = hs_I s a := c2.2.1
  have hF1 : s_Fu (hs_I q.2) u := x5.to (by rw [e3 285 (by omega)]) fun a y1 y2 => e3 a (by omega)
  have hP1 : s_Pr (hs_I q.2) P := fun k hk => by rw [e3 312 (by omega)]; exact hP k hk
  have x1' : ¬ hs_I q.2 285 3 = 0 := by rw [e3 285 (by omega)]; exact x1
  have e := tX12_rewrite (hs_R q.2) c2.1.2.1 (hs_I q.2)
  rw [← c2.1.1.gm] at e
  refine (rf_e c2.1 e ((r_rewrite rj1).and (q_rewriteA x1' x2 hF1 hP1)) fun z hz => ⟨hz.1.1, hz.1.2.1⟩).mono fun z hz => ?_
  obtain ⟨p, ⟨-, -, z2, z312⟩, F2, O2, ra2, cs2⟩ := hz
  have ans : z.1 = q.1 := RA.uq x2.v ra2 ra
  have Rz : hs_R z.2 = hs_R s := p.2.2.2.trans R1
  have cz : ∀ b, b < 67 ∨ (89 ≤ b ∧ b < 95) → hs_I z.2 b = hs_I s b := fun b hb => (p.2.2.1 b (by omega)).trans (F1 b (by omega))
  have z2' : hs_I z.2 285 2 = hs_I q.2 285 2 := z2
  have z312' : hs_I z.2 312 = hs_I q.2 312 := z312
  have F2' : Fr [285, 294, 304, 305, 306, 307, 308, 309, 310, 311] (hs_I q.2) (hs_I z.2) := F2
  have O2' : Fo [22, 31] (hs_I q.2) (hs_I z.2) := O2
  have hFz : s_Fu (hs_I z.2) u := hF1.to (O2' 4 (by decide)) fun a y1 y2 => by
    obtain e | e | e | e | e | e : a = 287 ∨ a = 288 ∨ a = 289 ∨ a = 290 ∨ a = 291 ∨ a = 292 := by omega
    all_goals
      rw [e]
      exact F2' _ (by decide)
  have hW : WA z.2 u := by
    rcases cs with ⟨k1, k2⟩ | ⟨k1, m, k, m1, m2, m3⟩
    · rcases cs2 with ⟨-, m, k', m1, m2, m3⟩ | ⟨l1, -, l3⟩
      · obtain ⟨a, k, y1, y2, -⟩ := k2 m m1
        have := LoN.uq (x2.mt m1) y1.lo m2
        omega
      · have l1' : hs_I z.2 285 22 = 1 := l1
        refine Or.inr ⟨by rw [l1']; decide, by rw [p.2.2.1 67 (by omega)]; exact k1, fun y hy => ?_⟩
        obtain ⟨a, k, y1, y2, y3⟩ := k2 y hy
        have mt := x2.mt hy
        have hN := x2.2.2.1
        exact ⟨a, k, _, _, _, P, mt, x2.c256 x4 hy, x2.2.2.2.2.2 y hy, fun i hi => (hP i hi).1, y2, y3, wM.fr y1 mt (fun i _ => by rw [p.2.2.1 72 (by omega)]) (p.2.2.1 _ (by omega)) (p.2.2.1 _ (by omega)), l3 y hy⟩
    · rcases cs2 with ⟨l1, -⟩ | ⟨-, -, l3⟩
      · exact Or.inl ⟨l1, by rw [p.2.2.1 67 (by omega)]; exact k1⟩
      · obtain ⟨k', y1, y2, -⟩ := (l3 m m1).lo
        have := LoN.uq (x2.mt m1) y1 m2
        omega
  refine ⟨⟨p.1, p.2.1, by rw [Rz]; exact hX, fun A' hA' => ?_, ⟨t, T, hT.fr (z2'.trans (by rw [e3 285 (by omega)])) ((F2' 286 (by decide)).trans (e3 286 (by omega))), ?_, fun i hi => ?_⟩, fun k hk => ?_, Or.inr ⟨by rw [O2' 3 (by decide)]; exact x1', u, tu, x2, x3, x4, hFz, ?_, hW⟩⟩, ans⟩
  · have l := hA'.lt
    rw [cz (A' + 2) (by omega)]; exact hno A' hA'
  · rw [Rz, cz _ (by omega)]; exact tA
  · rw [Rz, cz _ (by omega)]; exact tB i hi
  · rw [z312', e3 312 (by omega), cz 90 (by omega)]; exact hp k hk
  · rw [Rz]
    exact x6.to x2.2.2.1 (hX.2.1 _ i1.s) (by rw [Rz]; exact hX.2.1 _ i1.s) fun b y1 y2 => cz b (by omega)
theorem a_unwrite {s : hs_S} (h : AG s) : Tq (fX11_unwrite 0 s) (fun q => CJ q.2 ∧ Tq (fX12_unwrite 285 q.2) (fun r => AG r.2 ∧ r.1 = q.1)) := by
  have h0 := h
  obtain ⟨hJ, hr, hX, hno, ⟨t, T, hT, tA, tB⟩, hp, hF⟩ := h
  have i0 : isF (hs_R s 0 0 - 1) := hX.2.2.2.2.2.2.2.2.2 0 (by decide)
  have i1 : isF (hs_R s 0 1 - 1) := hX.2.2.2.2.2.2.2.2.2 1 (by decide)
  have i2 : isF (hs_R s 0 2 - 1) := hX.2.2.2.2.2.2.2.2.2 2 (by decide)
  have n0 : ¬ hs_R s 0 0 = 0 := (hJ.1.f9_0 gk_0).1
  have n1 : ¬ hs_R s 0 1 = 0 := (hJ.1.f9_1 gk_0).1
  have n2 : ¬ hs_R s 0 2 = 0 := (hJ.1.f9_2 gk_0).1
  have q12 : hs_R s 0 1 ≠ hs_R s 0 2 := hJ.2.2.2.2.1
  have q02 : hs_R s 0 0 ≠ hs_R s 0 2 := hJ.2.2.2.1
  obtain ⟨P, hP⟩ := hr.2.1
  by_cases h22 : hs_I s 285 22 = 0
  · have h67 : hs_I s 67 4 = 0 := by
      rcases hF with ⟨x1, x2, x3, x4⟩ | ⟨x1, u, tu, x2, x3, x4, x5, x6, ⟨x7, x8⟩ | ⟨x7, -⟩⟩
      · exact x4
      · exact x8
      · exact absurd h22 x7
    have r3 : hs_R s 0 3 - 1 = 67 := by rw [hX.2.2.2.2.2.1]
    have e0 : fX11_unwrite 0 s = some (-2, s) := by
      unfold fX11_unwrite
      rw [if_pos (hJ.1.k gk_0), if_pos (hJ.1.f9_3 gk_0).1, if_pos (hJ.1.k (hJ.1.f9_3 gk_0).2), r3, if_pos h67]
    refine ⟨_, e0, hJ, ?_⟩
    show Tq (fX12_unwrite 285 s) _
    have e := tX12_unwrite (hs_R s) hJ.2.1 (hs_I s)
    rw [← hJ.1.gm] at e
    obtain ⟨N, p, l, n, hh, c, R, hV⟩ := hr.fv
    refine (rf_e hJ e ((r_unwrite hr).and (q_unwrite (fun c0 => hV (hr.2.2.2.2.2 c0).2) hP)) fun z hz => ⟨hz.1.1, hz.1.2.1⟩).mono fun z hz => ?_
    obtain ⟨p, -, -, -, f2⟩ := hz
    rcases f2 with ⟨-, f2⟩ | ⟨f2, -⟩
    · have e3 : hs_I z.2 = hs_I s := congrArg Prod.snd f2
      have e4 : z.1 = -2 := congrArg Prod.fst f2
      have e7 : z.2 = s := WT.ext hJ.1 p.1.1 e3 p.2.2.2
      rw [e7, e4]
      exact ⟨h0, rfl⟩
    · exact absurd h22 f2
  obtain ⟨x1, u, tu, x2, x3, x4, x5, x6, k1, k2, k3⟩ : ¬ hs_I s 285 3 = 0 ∧ ∃ (u : Nat → Nat) (tu : Nat), s_AC u tu ∧ tu ≤ 6000 ∧ (∀ i, i < tu → u i < 256) ∧ s_Fu (hs_I s) u ∧ cF s (hs_R s 0 1 - 1) u ∧ ¬ hs_I s 285 22 = 0 ∧ hs_I s 67 4 = nI (u 0) ∧ ∀ z, z < u 0 → ∃ (a k n : Nat) (c R P : Nat → Nat), s_Mt n (u (s_off u z + 1)) (u 0) (s_h u (s_off u z)) c R ∧ (∀ i, i < n → c i < 256) ∧ s_DOK c (s_par u) n (s_h u (s_off u z)) R ∧ (∀ i, i < 256 → P i ≤ 1000) ∧ k ≤ 4000 ∧ a + k ≤ 32000 ∧ wM s z a k (u (s_off u z)) (u (s_off u z + 1)) n (s_h u (s_off u z)) c R P ∧ s_Wm (hs_I s) z n (s_h u (s_off u z)) c R P := by
    rcases hF with ⟨x1, x2, x3, x4⟩ | ⟨x1, u, tu, x2, x3, x4, x5, x6, ⟨x7, x8⟩ | x7⟩
    · exact absurd x3 h22
    · exact absurd x7 h22
    · exact ⟨x1, u, tu, x2, x3, x4, x5, x6, x7⟩
  generalize hA : hs_R s 0 1 - 1 = A at i1 x6
  generalize hB : hs_R s 0 2 - 1 = B at i2
  have r1 : hs_R s 0 1 = A + 1 := by omega
  have r2 : hs_R s 0 2 = B + 1 := by omega
  have hAB : A ≠ B := by omega
  have lC := i0.lt
  have lA := i1.lt
  have lB := i2.lt
  have dj := i0.dj i2 (by omega)
  have hN := x2.2.2.1
  have hN1 := x2.2.1
  have pP0 : pP s P := fun k hk => by rw [hp k hk]; exact (hP k hk).2
  have h67 : ¬ hs_I s 67 4 = 0 := fun z => by
    have := (eqi (a := u 0) (b := 0) (by omega) (by omega)).mp (k2.symm.trans z)
    omega
  refine ((x_unwrite i1 i2 hAB x2 x3 x4 (fun k hk => (hP k hk).1) hJ hX r1 r2 x6 pP0 h67 (hno B i2)).and (z_unwrite hJ)).mono fun q hq => ?_
  obtain ⟨⟨J1, ⟨u', uu, v1, v2, v3, v4⟩, R1, R2, Rj, Ra, F⟩, c2, -⟩ := hq
  refine ⟨J1, ?_⟩
  have rj1 := hr.cl c2
  have e3 : ∀ a, 285 ≤ a → hs_I q.2 a = hs_I s a := c2.2.1
  have hF1 : s_Fu (hs_I q.2) u := x5.to (by rw [e3 285 (by omega)]) fun a y1 y2 => e3 a (by omega)
  have hP1 : s_Pr (hs_I q.2) P := fun k hk => by rw [e3 312 (by omega)]; exact hP k hk
  have h22' : ¬ hs_I q.2 285 22 = 0 := by rw [e3 285 (by omega)]; exact h22
  have e := tX12_unwrite (hs_R q.2) c2.1.2.1 (hs_I q.2)
  rw [← c2.1.1.gm] at e
  refine (rf_e c2.1 e ((r_unwrite rj1).and (q_unwriteX h22' x2 hF1 hP1)) fun z hz => ⟨hz.1.1, hz.1.2.1⟩).mono fun z hz => ?_
  obtain ⟨p, ⟨-, -, z2, z312⟩, F2, O2, ans, hU⟩ := hz
  have z2' : hs_I z.2 285 2 = hs_I q.2 285 2 := z2
  have z312' : hs_I z.2 312 = hs_I q.2 312 := z312
  have F2' : Fr [285, 289, 291, 292, 294, 308, 309, 310, 311] (hs_I q.2) (hs_I z.2) := F2
  have O2' : Fo [31] (hs_I q.2) (hs_I z.2) := O2
  have ac' := uu.ac x2 x4
  obtain ⟨hFz, h289⟩ := uu.fu x2 x4 v2 hF1 (O2' 4 (by decide)) (F2' 287 (by decide)) (F2' 288 (by decide)) (F2' 290 (by decide)) hU
  have ans' : z.1 = nI (s_to (fun y => (hs_I z.2 289 y).toNatClampNeg) (u 0)) := ans
  have ansE : z.1 = q.1 := by
    rw [ans', v4]
    refine congrArg nI (s_to_cg (u 0) fun y hy => ?_)
    have h := h289 y hy
    have b := (ac'.mt (m := y) (by rw [uu.1]; exact hy)).2.1
    show (hs_I z.2 289 y).toNatClampNeg = _
    rw [h, cl (by omega)]
  have hX1 : RX (hs_R q.2) := by
    refine hX.sw Ra (fun j hj => Rj j (by omega) (by omega)) fun j hj => ?_
    obtain e | e | e : j = 0 ∨ j = 1 ∨ j = 2 := by omega
    · rw [e, Rj 0 (by decide) (by decide)]; exact i0
    · rw [e, R1]; exact i2
    · rw [e, R2]; exact i1
  have hXz : RX (hs_R z.2) := by rw [p.2.2.2]; exact hX1
  have cz : ∀ b, (b < B ∨ b = B + 2 ∨ B + 22 ≤ b) → b < 92 → hs_I z.2 b = hs_I s b := fun b hb hb2 => (p.2.2.1 b (by omega)).trans (F b hb (by omega))
  have R00 : hs_R z.2 0 0 = hs_R s 0 0 := by rw [p.2.2.2]; exact Rj 0 (by decide) (by decide)
  have hW : WA z.2 u' := by
    refine Or.inr ⟨by rw [O2' 22 (by decide)]; exact h22', by rw [cz 67 (by omega) (by omega), uu.1]; exact k2, fun y hy => ?_⟩
    have hy' : y < u 0 := by rw [← uu.1]; exact hy
    obtain ⟨u1, u2, u3, -⟩ := uu.2 y hy'
    obtain ⟨a, k, n, c, R, P', m1, m2, m3, m4, m5, m6, m7, m8⟩ := k3 y hy'
    rw [u1, u2, u3, uu.1]
    refine ⟨a, k, n, c, R, P', m1, m2, (s_DOK.par m1 (fun o ho => ((uu.2 o ho).1).symm) m3).1, m4, m5, m6, m7.fr m1 (fun i _ => by rw [cz 72 (by omega) (by omega)]) (cz _ (by omega) (by omega)) (cz _ (by omega) (by omega)), m8.fr m1 (fun i _ => ?_) ?_ (fun i _ => ?_)⟩
    · rw [F2' 304 (by decide), e3 304 (by omega)]
    · rw [F2' 305 (by decide), e3 305 (by omega)]
    · rw [F2' 306 (by decide), e3 306 (by omega)]
  refine ⟨⟨p.1, p.2.1, hXz, fun A' hA' => ?_, ⟨t, T, hT.fr (z2'.trans (by rw [e3 285 (by omega)])) ((F2' 286 (by decide)).trans (e3 286 (by omega))), ?_, fun i hi => ?_⟩, fun k hk => ?_, Or.inr ⟨by rw [O2' 3 (by decide), e3 285 (by omega)]; exact x1, u', _, ac', v1, v2, hFz, ?_, hW⟩⟩, ansE⟩
  · have l := hA'.lt
    rw [cz (A' + 2) (by
      by_cases e : A' = B
      · omega
      · have := hA'.dj i2 e
        omega) (by omega)]
    exact hno A' hA'
  · rw [R00, cz _ (by omega) (by omega)]; exact tA
  · rw [R00, cz _ (by omega) (by omega)]; exact tB i hi
  · rw [z312', e3 312 (by omega), cz 90 (by omega) (by omega)]; exact hp k hk
  · rw [p.2.2.2, R1, Nat.add_sub_cancel]
    exact v3.to (by rw [uu.1]; exact hN) (hX1.2.1 B i2.s) (hXz.2.1 B i2.s) fun b y1 y2 => p.2.2.1 b (by omega)
