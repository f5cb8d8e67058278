/-! THE CALLS, THE CLASS'S AND BEHIND IT THE REFERENCE'S -/
theorem aw.all {s q : hs_S} {A t L T : Nat} {bs : Nat → Nat} (h : aw s q A t L T 0 0 bs) : ∀ b, b ≠ A → b ≠ A + 5 → hs_I q b = hs_I s b := by
  obtain ⟨-, -, -, -, -, -, F, T1, T8, T9⟩ := h
  intro b h1 h2
  by_cases e : b = T
  · rw [e]
    funext i
    by_cases e8 : i = 8
    · rw [e8, T8]; exact Int32.add_zero _
    · by_cases e9 : i = 9
      · rw [e9, T9]; exact Int32.add_zero _
      · exact T1 i e8 e9
  · exact F b h1 h2 e
theorem cC.rs {s q : hs_S} (c : cC s q) : rS (hs_I s) (hs_I q) := by
  have e : ∀ a, 285 ≤ a → hs_I q a = hs_I s a := c.2.1
  exact ⟨by rw [e 285 (by omega)], by rw [e 285 (by omega)], by rw [e 285 (by omega)], fun a h1 _ => e a (by omega), fun a h1 _ => e a (by omega)⟩
theorem rS.tr {g q r : hm} (h : rS g q) (h' : rS q r) : rS g r := ⟨h'.1.trans h.1, h'.2.1.trans h.2.1, h'.2.2.1.trans h.2.2.1, fun a x y => (h'.2.2.2.1 a x y).trans (h.2.2.2.1 a x y), fun a x y => (h'.2.2.2.2 a x y).trans (h.2.2.2.2 a x y)⟩
theorem a_feed {s : hs_S} (h : AG s) (w : Int64) (a : Int32) : Tq (fX11_feed 0 w a s) (fun q => CJ q.2 ∧ Tq (fX12_feed 285 w a q.2) (fun r => AG r.2 ∧ r.1 = q.1)) := by
  have h0 := h
  obtain ⟨hJ, hr, hX, hno, ⟨t, T, hT, tA, tB⟩, hp, hF⟩ := h
  have i0 : isF (hs_R s 0 0 - 1) := hX.2.2.2.2.2.2.2.2.2 0 (by decide)
  have i1 : isF (hs_R s 0 1 - 1) := hX.2.2.2.2.2.2.2.2.2 1 (by decide)
  have n0 : ¬ hs_R s 0 0 = 0 := (hJ.1.f9_0 gk_0).1
  have n1 : ¬ hs_R s 0 1 = 0 := (hJ.1.f9_1 gk_0).1
  have ne : hs_R s 0 0 ≠ hs_R s 0 1 := hJ.2.2.1
  generalize hA : hs_R s 0 0 - 1 = A at i0 tA tB
  have r0 : hs_R s 0 0 = A + 1 := by omega
  have lA := i0.lt
  have lB := i1.lt
  have dj := i0.dj i1 (by omega)
  have o : awO s A t (A + 6) := ⟨hJ.1, i0.s, hX.2.1 A i0.s, tA, ((sk i0.s).2.2.2.2.2 0 (by decide)).1⟩
  refine ((x_feed i0 w a o r0 hT.2.1).and (z_feed hJ w a (t := t) (by show hs_I s (hs_R s 0 0 - 1) 3 = nI t; rw [hA]; exact tA) hT.2.1)).mono fun q hq => ?_
  obtain ⟨c1, c2, -⟩ := hq
  refine ⟨c2.1, ?_⟩
  have r1 := hr.cl c2
  have hT1 : s_T (hs_I q.2) t T := hT.fr (by rw [c2.2.1 285 (by omega)]) (c2.2.1 286 (by omega))
  have e := tX12_feed (hs_R q.2) c2.1.2.1 w a (hs_I q.2)
  rw [← c2.1.1.gm] at e
  refine (rf_e c2.1 e ((r_feed r1 w a hT1).and (q_feed w a hT1)) fun z hz => ⟨hz.1.1.1, hz.1.1.2.1⟩).mono fun z hz => ?_
  obtain ⟨p, ⟨⟨-, -, p312⟩, -⟩, f2⟩ := hz
  have same : ∀ v : Int32, q = (v, s) → (z.1, hs_I z.2) = (v, hs_I q.2) → AG z.2 ∧ z.1 = q.1 := by
    intro v e1 e2
    have e3 : hs_I z.2 = hs_I q.2 := congrArg Prod.snd e2
    have e4 : z.1 = v := congrArg Prod.fst e2
    have e5 : q.2 = s := congrArg Prod.snd e1
    have e6 : q.1 = v := congrArg Prod.fst e1
    have e7 : z.2 = s := WT.ext hJ.1 p.1.1 (by rw [e3, e5]) (by rw [p.2.2.2, e5])
    rw [e7, e4, e6]
    exact ⟨h0, rfl⟩
  rcases c1 with ⟨a0, a1⟩ | ⟨k1, a0, a1, a2, ⟨a3, a4⟩ | ⟨a3, a4, a5⟩⟩ <;> rcases f2 with ⟨b0, b1⟩ | ⟨k2, b0, b1, b2, ⟨b3, b4⟩ | ⟨b3, b4, b5, b6, b7⟩⟩
  · exact same _ a1 b1
  · exact absurd ⟨k2, b0, b1, b2⟩ a0
  · exact absurd ⟨k2, b0, b1, b2⟩ a0
  · exact absurd ⟨k1, a0, a1, a2⟩ b0
  · exact same _ a4 b4
  · have e : k1 = k2 := (eqi (by omega) (by omega)).mp (a2.symm.trans b2)
    omega
  · exact absurd ⟨k1, a0, a1, a2⟩ b0
  · have e : k1 = k2 := (eqi (by omega) (by omega)).mp (a2.symm.trans b2)
    omega
  · have e : k1 = k2 := (eqi (by omega) (by omega)).mp (a2.symm.trans b2)
    subst e
    have ce := a5.all
    obtain ⟨R1, w1, A3, -, An, Ao, -⟩ := a5
    have Rz : hs_R z.2 = hs_R s := p.2.2.2.trans R1
    have cz : ∀ b, b < 285 → b ≠ A → b ≠ A + 5 → hs_I z.2 b = hs_I s b := fun b x y z' => (p.2.2.1 b x).trans (ce b y z')
    have b4' : z.1 = nI (t + k1) := b4
    refine ⟨⟨p.1, p.2.1, by rw [Rz]; exact hX, fun A' hA' => ?_, ⟨t + k1, _, b7, ?_, fun i hi => ?_⟩, fun k hk => ?_, hF.to hX (by rw [Rz]; exact hX) (by rw [Rz]) (fun b x y => cz b (by omega) (by omega) (by omega)) (fun b x y => cz b (by omega) (by omega) (by omega)) (c2.rs.tr (rS.of b5 b6 (by decide) (by decide)))⟩, b4'.trans a4.symm⟩
    · have l := hA'.lt
      have : A' + 2 ≠ A ∧ A' + 2 ≠ A + 5 := by
        by_cases e : A' = A
        · omega
        · have := hA'.dj i0 e
          omega
      rw [cz (A' + 2) (by omega) this.1 this.2]; exact hno A' hA'
    · rw [Rz, hA, p.2.2.1 A (by omega)]; exact A3
    · rw [Rz, hA, p.2.2.1 (A + 5) (by omega)]
      show hs_I q.2 (A + 5) i = nI (if i < t then T i else s_by w (t + k1 - 1 - i))
      by_cases c : i < t
      · rw [if_pos c, Ao i (Or.inl c)]; exact tB i c
      · rw [if_neg c]
        have := An (i - t) (by omega)
        rw [show t + (i - t) = i by omega] at this
        rw [this]
        show nI (s_by w (k1 - 1 - (i - t))) = _
        rw [show k1 - 1 - (i - t) = t + k1 - 1 - i by omega]
    · have p3 : hs_I z.2 312 = hs_I q.2 312 := p312
      rw [p3, c2.2.1 312 (by omega), cz 90 (by omega) (by omega) (by omega)]; exact hp k hk
theorem a_load {s : hs_S} (h : AG s) : Tq (fX11_load 0 s) (fun q => CJ q.2 ∧ Tq (fX12_load 285 q.2) (fun r => AG r.2)) := by
  obtain ⟨hJ, hr, hX, hno, ⟨t, T, hT, tA, tB⟩, hp, hF⟩ := h
  have i0 : isF (hs_R s 0 0 - 1) := hX.2.2.2.2.2.2.2.2.2 0 (by decide)
  have i1 : isF (hs_R s 0 1 - 1) := hX.2.2.2.2.2.2.2.2.2 1 (by decide)
  have i2 : isF (hs_R s 0 2 - 1) := hX.2.2.2.2.2.2.2.2.2 2 (by decide)
  have n0 : ¬ hs_R s 0 0 = 0 := (hJ.1.f9_0 gk_0).1
  have n1 : ¬ hs_R s 0 1 = 0 := (hJ.1.f9_1 gk_0).1
  have ne : hs_R s 0 0 ≠ hs_R s 0 1 := hJ.2.2.1
  generalize hA : hs_R s 0 0 - 1 = A at i0 tA tB
  generalize hB : hs_R s 0 1 - 1 = B at i1
  have r0 : hs_R s 0 0 = A + 1 := by omega
  have r1 : hs_R s 0 1 = B + 1 := by omega
  have hAB : A ≠ B := by omega
  have lA := i0.lt
  have lB := i1.lt
  have dj := i0.dj i1 hAB
  refine ((x_load i0 i1 hAB hJ hX r0 r1 tA hT.2.1 (fun i hi => ⟨tB i hi, (hT.2.2 i hi).2⟩) (hno A i0)).and (z_load hJ)).mono fun q hq => ?_
  obtain ⟨⟨J1, Ra, Rj, F, cs⟩, c2, -⟩ := hq
  refine ⟨J1, ?_⟩
  have rj1 := hr.cl c2
  have hT1 : s_T (hs_I q.2) t T := hT.fr (by rw [c2.2.1 285 (by omega)]) (c2.2.1 286 (by omega))
  have e := tX12_load (hs_R q.2) c2.1.2.1 (hs_I q.2)
  rw [← c2.1.1.gm] at e
  refine (rf_e c2.1 e ((r_load rj1).and (q_load hT1)) fun z hz => ⟨hz.1.1, hz.1.2.1⟩).mono fun z hz => ?_
  obtain ⟨p, ⟨-, -, p2, p312⟩, -, -, -, -, f2⟩ := hz
  have p2' : hs_I z.2 285 2 = nI 0 := p2
  have p3 : hs_I z.2 312 = hs_I q.2 312 := p312
  have nz : ∀ A', isF A' → hs_I z.2 (A' + 2) 4 = 0 := fun A' hA' => by
    have l := hA'.lt
    rw [p.2.2.1 _ (by omega), F (A' + 2) (by
      by_cases e : A' = A
      · omega
      · have := hA'.dj i0 e
        omega) (by
      by_cases e : A' = B
      · omega
      · have := hA'.dj i1 e
        omega) (by omega) (by omega)]
    exact hno A' hA'
  have pz : ∀ k, k < 256 → hs_I z.2 90 k = hs_I z.2 312 k := fun k hk => by
    rw [p3, c2.2.1 312 (by omega), p.2.2.1 90 (by omega), F 90 (by omega) (by omega) (by omega) (by omega)]; exact hp k hk
  rcases cs with ⟨a1, -, a3, a4, a5, a6, a7⟩ | ⟨a1, a3, a4, a5, a6, a7⟩
  · obtain ⟨b1, b2, b3, b4, b5⟩ := (f2.resolve_right fun x => x.1 a1).2
    have b2' : hs_I z.2 285 3 = 1 := b2
    have b3' : hs_I z.2 285 22 = 0 := b3
    have hX1 : RX (hs_R q.2) := by
      refine hX.sw Ra (fun j hj => Rj j (by omega) (by omega)) fun j hj => ?_
      obtain e | e | e : j = 0 ∨ j = 1 ∨ j = 2 := by omega
      · rw [e, a3]; exact i1
      · rw [e, a4]; exact i0
      · rw [e, Rj 2 (by decide) (by decide)]; exact i2
    have hXz : RX (hs_R z.2) := by rw [p.2.2.2]; exact hX1
    refine ⟨p.1, p.2.1, hXz, nz, ⟨0, T, ⟨p2', by omega, fun i hi => absurd hi (by omega)⟩, ?_, fun i hi => absurd hi (by omega)⟩, pz, Or.inr ⟨by rw [b2']; decide, T, t, a1, hT.2.1, fun i hi => (hT.2.2 i hi).2, b4, ?_, Or.inl ⟨b3', ?_⟩⟩⟩
    · rw [p.2.2.2, a3, Nat.add_sub_cancel, p.2.2.1 B (by omega)]; exact a7
    · rw [p.2.2.2, a4, Nat.add_sub_cancel]
      exact a5.to a1.2.2.1 (hX1.2.1 A i0.s) (hXz.2.1 A i0.s) fun b x y => p.2.2.1 b (by omega)
    · rw [p.2.2.1 67 (by omega)]; exact a6
  · obtain ⟨-, b1, b2⟩ := f2.resolve_left fun x => a1 x.1
    have R0 : hs_R q.2 = hs_R s := by
      funext a j
      by_cases ea : a = 0
      · rw [ea]
        by_cases e0 : j = 0
        · rw [e0, a3, r0]
        · by_cases e1 : j = 1
          · rw [e1, a4, r1]
          · exact Rj j e0 e1
      · rw [Ra a ea]
    have Rz : hs_R z.2 = hs_R s := p.2.2.2.trans R0
    refine ⟨p.1, p.2.1, by rw [Rz]; exact hX, nz, ⟨0, T, ⟨p2', by omega, fun i hi => absurd hi (by omega)⟩, ?_, fun i hi => absurd hi (by omega)⟩, pz, hF.to hX (by rw [Rz]; exact hX) (by rw [Rz]) (fun b x y => ?_) (fun b x y => ?_) (c2.rs.tr (rS.of b1 b2 (by decide) (by decide)))⟩
    · rw [Rz, hA, p.2.2.1 A (by omega)]; exact a5
    · rw [hB] at x y
      rw [p.2.2.1 b (by omega)]
      by_cases eb : b = B
      · rw [eb]; exact a6
      · exact F b (by omega) eb (by omega) (by omega)
    · rw [p.2.2.1 b (by omega)]
      by_cases eb : b = 67
      · rw [eb]; exact a7
      · exact F b (by omega) (by omega) eb (by omega)
theorem a_price {s : hs_S} (h : AG s) (v1 v2 : Int32) : Tq (fX11_price 0 v1 v2 s) (fun q => CJ q.2 ∧ Tq (fX12_price 285 v1 v2 q.2) (fun r => AG r.2 ∧ r.1 = q.1)) := by
  have h0 := h
  obtain ⟨hJ, hr, hX, hno, ⟨t, T, hT, tA, tB⟩, hp, hF⟩ := h
  have i0 : isF (hs_R s 0 0 - 1) := hX.2.2.2.2.2.2.2.2.2 0 (by decide)
  have i1 : isF (hs_R s 0 1 - 1) := hX.2.2.2.2.2.2.2.2.2 1 (by decide)
  have lA := i0.lt
  have lB := i1.lt
  refine ((x_price hJ v1 v2).and (z_price0 hJ v1 v2)).mono fun q hq => ?_
  obtain ⟨c1, c2, -⟩ := hq
  refine ⟨c2.1, ?_⟩
  have r1 := hr.cl c2
  have e := tX12_price (hs_R q.2) c2.1.2.1 v1 v2 (hs_I q.2)
  rw [← c2.1.1.gm] at e
  refine (rf_e c2.1 e ((r_price r1 v1 v2).and (q_price v1 v2 (hs_I q.2))) fun z hz => ⟨hz.1.1, hz.1.2.1⟩).mono fun z hz => ?_
  obtain ⟨p, -, f2⟩ := hz
  rcases c1 with ⟨a0, a1⟩ | ⟨k1, w1, a0, a1⟩ <;> rcases f2 with ⟨b0, b1⟩ | ⟨k2, w2, b0, b1⟩
  · have e3 : hs_I z.2 = hs_I q.2 := congrArg Prod.snd b1
    have e4 : z.1 = -3 := congrArg Prod.fst b1
    have e5 : q.2 = s := congrArg Prod.snd a1
    have e6 : q.1 = -3 := congrArg Prod.fst a1
    have e7 : z.2 = s := WT.ext hJ.1 p.1.1 (by rw [e3, e5]) (by rw [p.2.2.2, e5])
    rw [e7, e4, e6]
    exact ⟨h0, rfl⟩
  · exact absurd ⟨k2, w2, b0⟩ a0
  · exact absurd ⟨k1, w1, a0⟩ b0
  · obtain ⟨x1, x2, x3, x4, x5⟩ := a0
    obtain ⟨y1, y2, y3, y4, y5⟩ := b0
    have ek : k1 = k2 := (eqi (by omega) (by omega)).mp (x4.symm.trans y4)
    have ev : w1 = w2 := (eqi (by omega) (by omega)).mp (x5.symm.trans y5)
    subst ek; subst ev
    have e3 : hs_I z.2 = hm_w (hs_I q.2) 312 k1 (nI w1) := congrArg Prod.snd b1
    have e4 : z.1 = hs_I q.2 312 k1 := congrArg Prod.fst b1
    have e5 : q.2 = hs_wI s 90 k1 (nI w1) := congrArg Prod.snd a1
    have e6 : q.1 = hs_I s 90 k1 := congrArg Prod.fst a1
    have Rz : hs_R z.2 = hs_R s := by rw [p.2.2.2, e5]; rfl
    have F : Fr [312] (hs_I q.2) (hs_I z.2) := by rw [e3]; exact Fr.rf.w (by decide)
    have cz : ∀ b, b < 90 → hs_I z.2 b = hs_I s b := fun b hb => by
      rw [p.2.2.1 b (by omega), e5]
      funext i
      rw [hs_I_w, if_neg (by omega)]
    have e285 : hs_I z.2 285 = hs_I s 285 := (F 285 (by decide)).trans (c2.2.1 285 (by omega))
    refine ⟨⟨p.1, p.2.1, by rw [Rz]; exact hX, fun A' hA' => ?_, ⟨t, T, hT.fr (by rw [e285]) ((F 286 (by decide)).trans (c2.2.1 286 (by omega))), ?_, fun i hi => ?_⟩, fun k hk => ?_, hF.to hX (by rw [Rz]; exact hX) (by rw [Rz]) (fun b x y => cz b (by omega)) (fun b x y => cz b (by omega)) (c2.rs.tr (rS.of F (Fo.of F (by decide)) (S := []) (by decide) (by decide)))⟩, ?_⟩
    · have l := hA'.lt
      rw [cz (A' + 2) (by omega)]; exact hno A' hA'
    · rw [Rz, cz _ (by omega)]; exact tA
    · rw [Rz, cz _ (by omega)]; exact tB i hi
    · rw [p.2.2.1 90 (by omega), e5, hs_I_w, if_pos rfl, e3, hm_w_at, e5]
      show (if k = k1 then nI w1 else hs_I s 90 k) = if k = k1 then nI w1 else hs_I s 312 k
      split
      · rfl
      · exact hp k hk
    · rw [e4, e6, c2.2.1 312 (by omega)]; exact (hp k1 x1).symm
theorem a_clear {s : hs_S} (h : AG s) : Tq (fX11_clear 0 s) (fun q => CJ q ∧ Tq (fX12_clear 285 q) (fun r => AG r)) := by
  obtain ⟨hJ, hr, hX, hno, ⟨t, T, hT, tA, tB⟩, hp, hF⟩ := h
  have i0 : isF (hs_R s 0 0 - 1) := hX.2.2.2.2.2.2.2.2.2 0 (by decide)
  have i1 : isF (hs_R s 0 1 - 1) := hX.2.2.2.2.2.2.2.2.2 1 (by decide)
  have n0 : ¬ hs_R s 0 0 = 0 := (hJ.1.f9_0 gk_0).1
  have n1 : ¬ hs_R s 0 1 = 0 := (hJ.1.f9_1 gk_0).1
  have ne : hs_R s 0 0 ≠ hs_R s 0 1 := hJ.2.2.1
  generalize hA : hs_R s 0 0 - 1 = A at i0 tA tB
  generalize hB : hs_R s 0 1 - 1 = B at i1
  have r0 : hs_R s 0 0 = A + 1 := by omega
  have r1 : hs_R s 0 1 = B + 1 := by omega
  have hAB : A ≠ B := by omega
  have lA := i0.lt
  have lB := i1.lt
  refine (x_clear i0 i1 hAB hJ hX r0 r1).mono fun q hq => ?_
  obtain ⟨c2, hX1, R0, hp0, a3, b4, c4, F⟩ := hq
  refine ⟨c2.1, ?_⟩
  have rj1 := hr.cl c2
  have e := tX12_clear (hs_R q) c2.1.2.1 (hs_I q)
  rw [← c2.1.1.gm] at e
  have hc := ((r_clear rj1).and (q_clear (hs_I q))).mono (P := _) (Q := fun z => RJ z ∧ mK (hs_I q) z ∧ (z 285 2 = 0 ∧ z 285 3 = 0 ∧ z 285 22 = 0 ∧ s_Pr z s_p0)) fun z hz => ⟨hz.1.1, hz.1.2.1, hz.2.2.2.1, hz.2.2.2.2.1, hz.2.2.2.2.2.1, hz.1.2.2.2⟩
  refine (rf_v (P := fun z => z 285 2 = 0 ∧ z 285 3 = 0 ∧ z 285 22 = 0 ∧ s_Pr z s_p0) c2.1 e hc).mono fun z hz => ?_
  obtain ⟨p, z2, z3, z22, zP⟩ := hz
  refine ⟨p.1, p.2.1, by rw [p.2.2.2]; exact hX1, fun A' hA' => ?_, ⟨0, T, ⟨z2, by omega, fun i hi => absurd hi (by omega)⟩, ?_, fun i hi => absurd hi (by omega)⟩, fun k hk => ?_, Or.inl ⟨z3, ?_, z22, ?_⟩⟩
  · have l := hA'.lt
    rw [p.2.2.1 _ (by omega), F (A' + 2) (by
      by_cases e : A' = A
      · omega
      · have := hA'.dj i0 e
        omega) (by
      by_cases e : A' = B
      · omega
      · have := hA'.dj i1 e
        omega) (by omega) (by omega) (ow_lt _ (by omega))]
    exact hno A' hA'
  · rw [p.2.2.2, R0, hA, p.2.2.1 A (by omega)]; exact a3
  · rw [p.2.2.1 90 (by omega), hp0 k hk]; exact (zP k hk).2.symm
  · rw [p.2.2.2, R0, hB, p.2.2.1 B (by omega)]; exact b4
  · rw [p.2.2.1 67 (by omega)]; exact c4
