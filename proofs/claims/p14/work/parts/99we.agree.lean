/-! THE TWO AGREE, THE MACHINES TOO -/
def MA (s : hs_S) : Prop := MX (hs_R s) ∧ hs_I s 100 5 = hs_I s 285 36 ∧ hs_I s 100 6 = hs_I s 285 37 ∧ hs_I s 100 7 = hs_I s 285 38 ∧ (∀ a, a < 4 → hs_I s 103 a = hs_I s 313 a) ∧ ∀ a z, a < 4 → z ≤ 1000 → hs_I s 313 a = nI z → ∀ i, i < z → hs_I s 104 (1000 * a + i) = hs_I s 314 (1001 * a + i)
def AM (s : hs_S) : Prop := AG s ∧ MA s
/-- a call of the class leaves the machine alone -/
def cM (s q : hs_S) : Prop := (∀ a, a ≠ 0 → hs_R q a = hs_R s a) ∧ hs_R q 0 7 = hs_R s 0 7 ∧ hs_I q 100 = hs_I s 100 ∧ hs_I q 103 = hs_I s 103 ∧ hs_I q 104 = hs_I s 104
theorem cM.rf {s : hs_S} : cM s s := ⟨fun _ _ => rfl, rfl, rfl, rfl, rfl⟩
/-- and one of the reference -/
def rM (g q : hm) : Prop := (∀ j, j = 36 ∨ j = 37 ∨ j = 38 → q 285 j = g 285 j) ∧ q 313 = g 313 ∧ q 314 = g 314
theorem rM.rf {g : hm} : rM g g := ⟨fun _ _ => rfl, rfl, rfl⟩
theorem rM.of {A S : List Nat} {g q : hm} (F : Fr A g q) (O : Fo S g q) (hS : 36 ∉ S ∧ 37 ∉ S ∧ 38 ∉ S) (hA : 313 ∉ A ∧ 314 ∉ A) : rM g q := by
  refine ⟨fun j hj => ?_, F 313 hA.1, F 314 hA.2⟩
  rcases hj with e | e | e <;> rw [e]
  · exact O 36 hS.1
  · exact O 37 hS.2.1
  · exact O 38 hS.2.2
theorem MX.sw {R R' : Nat → Nat → Nat} (h : MX R) (e1 : ∀ a, a ≠ 0 → R' a = R a) (e2 : R' 0 7 = R 0 7) : MX R' := by
  obtain ⟨x1, x2, x3, x4, x5, x6, x7⟩ := h
  refine ⟨e2.trans x1, by rw [e1 100 (by decide)]; exact x2, by rw [e1 100 (by decide)]; exact x3, by rw [e1 100 (by decide)]; exact x4, by rw [e1 102 (by decide)]; exact x5, by rw [e1 102 (by decide)]; exact x6, fun f hf => ?_⟩
  rw [e1 101 (by decide), e1 (105 + 3 * f) (by omega)]
  exact x7 f hf
theorem MA.to {s q z : hs_S} (h : MA s) (c : cM s q) (cc : cC s q) (rp : rP q z) (r : rM (hs_I q) (hs_I z)) : MA z := by
  obtain ⟨x1, x2, x3, x4, x5, x6⟩ := h
  obtain ⟨c1, c2, c3, c4, c5⟩ := c
  obtain ⟨r1, r2, r3⟩ := r
  have e : ∀ a, 285 ≤ a → hs_I q a = hs_I s a := cc.2.1
  have z100 : hs_I z 100 = hs_I s 100 := (rp.2.2.1 100 (by omega)).trans c3
  have z103 : hs_I z 103 = hs_I s 103 := (rp.2.2.1 103 (by omega)).trans c4
  have z104 : hs_I z 104 = hs_I s 104 := (rp.2.2.1 104 (by omega)).trans c5
  have z313 : hs_I z 313 = hs_I s 313 := r2.trans (e 313 (by omega))
  have z314 : hs_I z 314 = hs_I s 314 := r3.trans (e 314 (by omega))
  refine ⟨by rw [rp.2.2.2]; exact x1.sw c1 c2, ?_, ?_, ?_, fun a ha => by rw [z103, z313]; exact x5 a ha, fun a z ha hz hg i hi => ?_⟩
  · rw [z100, r1 36 (by omega), e 285 (by omega)]; exact x2
  · rw [z100, r1 37 (by omega), e 285 (by omega)]; exact x3
  · rw [z100, r1 38 (by omega), e 285 (by omega)]; exact x4
  · rw [z313] at hg
    rw [z104, z314]
    exact x6 a z ha hz hg i hi
theorem m_pair {s : hs_S} (h : AM s) {x : Option (Int32 × hs_S)} {y : hs_S → Option (Int32 × hs_S)} {P : Int32 × hs_S → Int32 × hs_S → Prop} (hx : Tq x (fun q => CJ q.2 ∧ Tq (y q.2) (fun r => AG r.2 ∧ P q r))) (hc : Tq x (fun q => cC s q.2 ∧ cM s q.2)) (hr : ∀ q, CJ q → RJ (hs_I q) → Tq (y q) (fun r => rP q r.2 ∧ rM (hs_I q) (hs_I r.2))) : Tq x (fun q => CJ q.2 ∧ Tq (y q.2) (fun r => AM r.2 ∧ P q r)) := by
  refine (hx.and hc).mono fun q hq => ?_
  obtain ⟨⟨J, ty⟩, c, m⟩ := hq
  exact ⟨J, (ty.and (hr q.2 J (h.1.2.1.cl c))).mono fun r hr2 => ⟨⟨hr2.1.1, h.2.to m c hr2.2.1 hr2.2.2⟩, hr2.1.2⟩⟩
/-! the reference's calls -/
theorem n_feed {q : hs_S} (J : CJ q) (rj : RJ (hs_I q)) (w : Int64) (a : Int32) : Tq (fX12_feed 285 w a q) (fun r => rP q r.2 ∧ rM (hs_I q) (hs_I r.2)) := by
  have e := tX12_feed (hs_R q) J.2.1 w a (hs_I q)
  rw [← J.1.gm] at e
  obtain ⟨t, T, hT⟩ := rj.1
  refine (rf_e J e ((r_feed rj w a hT).and (q_feed w a hT)) fun z hz => ⟨hz.1.1.1, hz.1.1.2.1⟩).mono fun z hz => ⟨hz.1, ?_⟩
  rcases hz.2.2 with ⟨-, y⟩ | ⟨k, -, -, -, ⟨-, y⟩ | ⟨-, -, y1, y2, -⟩⟩
  · have y' : hs_I z.2 = hs_I q := congrArg Prod.snd y
    rw [y']; exact rM.rf
  · have y' : hs_I z.2 = hs_I q := congrArg Prod.snd y
    rw [y']; exact rM.rf
  · exact rM.of y1 y2 (by decide) (by decide)
theorem n_load {q : hs_S} (J : CJ q) (rj : RJ (hs_I q)) : Tq (fX12_load 285 q) (fun r => rP q r.2 ∧ rM (hs_I q) (hs_I r.2)) := by
  have e := tX12_load (hs_R q) J.2.1 (hs_I q)
  rw [← J.1.gm] at e
  obtain ⟨t, T, hT⟩ := rj.1
  exact (rf_e J e ((r_load rj).and (q_load hT)) fun z hz => ⟨hz.1.1, hz.1.2.1⟩).mono fun z hz => ⟨hz.1, rM.of hz.2.2.1 hz.2.2.2.1 (by decide) (by decide)⟩
theorem n_price {q : hs_S} (J : CJ q) (rj : RJ (hs_I q)) (a b : Int32) : Tq (fX12_price 285 a b q) (fun r => rP q r.2 ∧ rM (hs_I q) (hs_I r.2)) := by
  have e := tX12_price (hs_R q) J.2.1 a b (hs_I q)
  rw [← J.1.gm] at e
  refine (rf_e J e ((r_price rj a b).and (q_price a b (hs_I q))) fun z hz => ⟨hz.1.1, hz.1.2.1⟩).mono fun z hz => ⟨hz.1, ?_⟩
  rcases hz.2.2 with ⟨-, y⟩ | ⟨k, v, -, y⟩
  · have y' : hs_I z.2 = hs_I q := congrArg Prod.snd y
    rw [y']; exact rM.rf
  · have y' : hs_I z.2 = hm_w (hs_I q) 312 k (nI v) := congrArg Prod.snd y
    rw [y']
    have F : Fr [312] (hs_I q) (hm_w (hs_I q) 312 k (nI v)) := Fr.rf.w (by decide)
    exact rM.of F (Fo.of F (by decide)) (S := []) (by decide) (by decide)
theorem n_rewrite {q : hs_S} (J : CJ q) (rj : RJ (hs_I q)) : Tq (fX12_rewrite 285 q) (fun r => rP q r.2 ∧ rM (hs_I q) (hs_I r.2)) := by
  have e := tX12_rewrite (hs_R q) J.2.1 (hs_I q)
  rw [← J.1.gm] at e
  obtain ⟨N, p, l, n, h, c, R, hV⟩ := rj.fv
  obtain ⟨P, hP⟩ := rj.2.1
  exact (rf_e J e ((r_rewrite rj).and (q_rewrite hV hP)) fun z hz => ⟨hz.1.1, hz.1.2.1⟩).mono fun z hz => ⟨hz.1, rM.of hz.2.2.1 hz.2.2.2.1 (by decide) (by decide)⟩
theorem n_unwrite {q : hs_S} (J : CJ q) (rj : RJ (hs_I q)) : Tq (fX12_unwrite 285 q) (fun r => rP q r.2 ∧ rM (hs_I q) (hs_I r.2)) := by
  have e := tX12_unwrite (hs_R q) J.2.1 (hs_I q)
  rw [← J.1.gm] at e
  obtain ⟨N, p, l, n, h, c, R, hV⟩ := rj.fv
  obtain ⟨P, hP⟩ := rj.2.1
  exact (rf_e J e ((r_unwrite rj).and (q_unwrite (fun c0 => hV (rj.2.2.2.2.2 c0).2) hP)) fun z hz => ⟨hz.1.1, hz.1.2.1⟩).mono fun z hz => ⟨hz.1, rM.of hz.2.2.1 hz.2.2.2.1 (by decide) (by decide)⟩
/-! the class's calls -/
theorem m_feed {s : hs_S} (h : AG s) (w : Int64) (a : Int32) : Tq (fX11_feed 0 w a s) (fun q => cC s q.2 ∧ cM s q.2) := by
  obtain ⟨hJ, hr, hX, hno, ⟨t, T, hT, tA, tB⟩, hp, hF⟩ := h
  have i0 : isF (hs_R s 0 0 - 1) := hX.2.2.2.2.2.2.2.2.2 0 (by decide)
  have n0 : ¬ hs_R s 0 0 = 0 := (hJ.1.f9_0 gk_0).1
  generalize hA : hs_R s 0 0 - 1 = A at i0 tA tB
  have r0 : hs_R s 0 0 = A + 1 := by omega
  have lA := i0.lt
  have o : awO s A t (A + 6) := ⟨hJ.1, i0.s, hX.2.1 A i0.s, tA, ((sk i0.s).2.2.2.2.2 0 (by decide)).1⟩
  refine ((x_feed i0 w a o r0 hT.2.1).and (z_feed hJ w a (t := t) (by show hs_I s (hs_R s 0 0 - 1) 3 = nI t; rw [hA]; exact tA) hT.2.1)).mono fun q hq => ?_
  obtain ⟨c1, c2, -⟩ := hq
  refine ⟨c2, ?_⟩
  rcases c1 with ⟨-, e⟩ | ⟨r, -, -, -, ⟨-, e⟩ | ⟨-, -, e⟩⟩
  · rw [e]; exact cM.rf
  · rw [e]; exact cM.rf
  · have ce := e.all
    exact ⟨fun a _ => by rw [e.1], by rw [e.1], ce 100 (by omega) (by omega), ce 103 (by omega) (by omega), ce 104 (by omega) (by omega)⟩
theorem m_load {s : hs_S} (h : AG s) : Tq (fX11_load 0 s) (fun q => cC s q.2 ∧ cM s q.2) := by
  obtain ⟨hJ, hr, hX, hno, ⟨t, T, hT, tA, tB⟩, hp, hF⟩ := h
  have i0 : isF (hs_R s 0 0 - 1) := hX.2.2.2.2.2.2.2.2.2 0 (by decide)
  have i1 : isF (hs_R s 0 1 - 1) := hX.2.2.2.2.2.2.2.2.2 1 (by decide)
  have n0 : ¬ hs_R s 0 0 = 0 := (hJ.1.f9_0 gk_0).1
  have n1 : ¬ hs_R s 0 1 = 0 := (hJ.1.f9_1 gk_0).1
  have ne : hs_R s 0 0 ≠ hs_R s 0 1 := hJ.2.2.1
  generalize hA : hs_R s 0 0 - 1 = A at i0 tA tB
  generalize hB : hs_R s 0 1 - 1 = B at i1
  have r0 : hs_R s 0 0 = A + 1 := by omega
  have r1 : hs_R s 0 1 = B + 1 := by omega
  have hAB : A ≠ B := by omega
  have lA := i0.lt
  have lB := i1.lt
  refine ((x_load i0 i1 hAB hJ hX r0 r1 tA hT.2.1 (fun i hi => ⟨tB i hi, (hT.2.2 i hi).2⟩) (hno A i0)).and (z_load hJ)).mono fun q hq => ?_
  obtain ⟨⟨J1, Ra, Rj, F, cs⟩, c2, -⟩ := hq
  exact ⟨c2, Ra, Rj 7 (by decide) (by decide), F 100 (by omega) (by omega) (by omega) (by omega), F 103 (by omega) (by omega) (by omega) (by omega), F 104 (by omega) (by omega) (by omega) (by omega)⟩
theorem m_price {s : hs_S} (h : AG s) (v1 v2 : Int32) : Tq (fX11_price 0 v1 v2 s) (fun q => cC s q.2 ∧ cM s q.2) := by
  refine ((x_price h.1 v1 v2).and (z_price0 h.1 v1 v2)).mono fun q hq => ⟨hq.2.1, ?_⟩
  rcases hq.1 with ⟨-, e⟩ | ⟨k, v, -, e⟩
  · rw [e]; exact cM.rf
  · rw [e]
    refine ⟨fun _ _ => rfl, rfl, ?_, ?_, ?_⟩
    · funext i
      show hs_I (hs_wI s 90 k (nI v)) 100 i = _
      rw [hs_I_w, if_neg (by decide)]
    · funext i
      show hs_I (hs_wI s 90 k (nI v)) 103 i = _
      rw [hs_I_w, if_neg (by decide)]
    · funext i
      show hs_I (hs_wI s 90 k (nI v)) 104 i = _
      rw [hs_I_w, if_neg (by decide)]
theorem m_rewrite {s : hs_S} (h : AG s) : Tq (fX11_rewrite 0 s) (fun q => cC s q.2 ∧ cM s q.2) := by
  obtain ⟨hJ, hr, hX, hno, ⟨t, T, hT, tA, tB⟩, hp, hF⟩ := h
  have i1 : isF (hs_R s 0 1 - 1) := hX.2.2.2.2.2.2.2.2.2 1 (by decide)
  have n1 : ¬ hs_R s 0 1 = 0 := (hJ.1.f9_1 gk_0).1
  obtain ⟨P, hP⟩ := hr.2.1
  rcases hF with ⟨x1, x2, x3, x4⟩ | ⟨x1, u, tu, x2, x3, x4, x5, x6, x7⟩
  · have e0 : fX11_rewrite 0 s = some (-2, s) := by
      unfold fX11_rewrite
      rw [if_pos (hJ.1.k gk_0), if_pos (hJ.1.f9_1 gk_0).1, if_pos (hJ.1.k (hJ.1.f9_1 gk_0).2), if_pos x2]
    exact ⟨_, e0, cC.rf hJ, cM.rf⟩
  · have pP0 : pP s P := fun k hk => by rw [hp k hk]; exact (hP k hk).2
    have r1 : hs_R s 0 1 = (hs_R s 0 1 - 1) + 1 := by omega
    refine ((x_rewrite i1 x2 (fun k hk => (hP k hk).1) hJ.1 hX r1 x6 pP0).and (z_rewrite hJ)).mono fun q hq => ?_
    obtain ⟨⟨w1, ⟨R1, F1⟩, -⟩, c2, -⟩ := hq
    exact ⟨c2, fun a _ => by rw [R1], by rw [R1], F1 100 (by omega), F1 103 (by omega), F1 104 (by omega)⟩
theorem m_unwrite {s : hs_S} (h : AG s) : Tq (fX11_unwrite 0 s) (fun q => cC s q.2 ∧ cM s q.2) := by
  obtain ⟨hJ, hr, hX, hno, ⟨t, T, hT, tA, tB⟩, hp, hF⟩ := h
  have i1 : isF (hs_R s 0 1 - 1) := hX.2.2.2.2.2.2.2.2.2 1 (by decide)
  have i2 : isF (hs_R s 0 2 - 1) := hX.2.2.2.2.2.2.2.2.2 2 (by decide)
  have n1 : ¬ hs_R s 0 1 = 0 := (hJ.1.f9_1 gk_0).1
  have n2 : ¬ hs_R s 0 2 = 0 := (hJ.1.f9_2 gk_0).1
  have q12 : hs_R s 0 1 ≠ hs_R s 0 2 := hJ.2.2.2.2.1
  have r3 : hs_R s 0 3 - 1 = 67 := by rw [hX.2.2.2.2.2.1]
  obtain ⟨P, hP⟩ := hr.2.1
  by_cases h67 : hs_I s 67 4 = 0
  · have e0 : fX11_unwrite 0 s = some (-2, s) := by
      unfold fX11_unwrite
      rw [if_pos (hJ.1.k gk_0), if_pos (hJ.1.f9_3 gk_0).1, if_pos (hJ.1.k (hJ.1.f9_3 gk_0).2), r3, if_pos h67]
    exact ⟨_, e0, cC.rf hJ, cM.rf⟩
  rcases hF with ⟨x1, x2, x3, x4⟩ | ⟨x1, u, tu, x2, x3, x4, x5, x6, x7⟩
  · exact absurd x4 h67
  generalize hA : hs_R s 0 1 - 1 = A at i1 x6
  generalize hB : hs_R s 0 2 - 1 = B at i2
  have lB := i2.lt
  have pP0 : pP s P := fun k hk => by rw [hp k hk]; exact (hP k hk).2
  refine ((x_unwrite i1 i2 (by omega) x2 x3 x4 (fun k hk => (hP k hk).1) hJ hX (by omega) (by omega) x6 pP0 h67 (hno B i2)).and (z_unwrite hJ)).mono fun q hq => ?_
  obtain ⟨⟨J1, -, R1, R2, Rj, Ra, F⟩, c2, -⟩ := hq
  exact ⟨c2, Ra, Rj 7 (by decide) (by decide), F 100 (by omega) (by omega), F 103 (by omega) (by omega), F 104 (by omega) (by omega)⟩
/-! both -/
theorem b_feed {s : hs_S} (h : AM s) (w : Int64) (a : Int32) : Tq (fX11_feed 0 w a s) (fun q => CJ q.2 ∧ Tq (fX12_feed 285 w a q.2) (fun r => AM r.2 ∧ r.1 = q.1)) := m_pair h (a_feed h.1 w a) (m_feed h.1 w a) (fun q J rj => n_feed J rj w a)
theorem b_load {s : hs_S} (h : AM s) : Tq (fX11_load 0 s) (fun q => CJ q.2 ∧ Tq (fX12_load 285 q.2) (fun r => AM r.2)) :=
  (m_pair (P := fun _ _ => True) h ((a_load h.1).mono fun q hq => ⟨hq.1, hq.2.mono fun r hr => ⟨hr, trivial⟩⟩) (m_load h.1) (fun q J rj => n_load J rj)).mono fun q hq => ⟨hq.1, hq.2.mono fun r hr => hr.1⟩
theorem b_price {s : hs_S} (h : AM s) (v1 v2 : Int32) : Tq (fX11_price 0 v1 v2 s) (fun q => CJ q.2 ∧ Tq (fX12_price 285 v1 v2 q.2) (fun r => AM r.2 ∧ r.1 = q.1)) := m_pair h (a_price h.1 v1 v2) (m_price h.1 v1 v2) (fun q J rj => n_price J rj v1 v2)
theorem b_rewrite {s : hs_S} (h : AM s) : Tq (fX11_rewrite 0 s) (fun q => CJ q.2 ∧ Tq (fX12_rewrite 285 q.2) (fun r => AM r.2 ∧ r.1 = q.1)) := m_pair h (a_rewrite h.1) (m_rewrite h.1) (fun q J rj => n_rewrite J rj)
theorem b_unwrite {s : hs_S} (h : AM s) : Tq (fX11_unwrite 0 s) (fun q => CJ q.2 ∧ Tq (fX12_unwrite 285 q.2) (fun r => AM r.2 ∧ r.1 = q.1)) := m_pair h (a_unwrite h.1) (m_unwrite h.1) (fun q J rj => n_unwrite J rj)
/-- a call of the reference that changes nothing of this -/
theorem b_rf {s : hs_S} (h : AM s) {x : Option (Int32 × hs_S)} {n : Option (Int32 × hm)} (e : x = hl_d (hs_R s) n) {Q : Int32 × hm → Prop} (hn : Tq n Q) (hk : ∀ q, Q q → RJ q.2 ∧ mK (hs_I s) q.2 ∧ rT (hs_I s) q.2 ∧ rM (hs_I s) q.2) : Tq x (fun q => AM q.2 ∧ Q (q.1, hs_I q.2)) := by
  refine ((a_rf h.1 e hn fun q hq => ⟨(hk q hq).1, (hk q hq).2.1, (hk q hq).2.2.1⟩).and (rf_e h.1.1 e hn fun q hq => ⟨(hk q hq).1, (hk q hq).2.1⟩)).mono fun q hq => ⟨⟨hq.1.1, h.2.to cM.rf (cC.rf h.1.1) hq.2.1 (hk _ hq.1.2).2.2.2⟩, hq.1.2⟩
theorem b_told {s : hs_S} (h : AM s) (a1 a2 a3 : Int32) : Tq (fX12_told 285 a1 a2 a3 s) (fun q => AM q.2) := by
  have e := tX12_told (hs_R s) h.1.1.2.1 a1 a2 a3 (hs_I s)
  rw [← h.1.1.1.gm] at e
  have x := h.1.2.1
  obtain ⟨t, T, x1⟩ := x.1
  exact (b_rf h e ((r_told x a1 a2 a3).and (q_told x1.1 x1.2.1 x.2.2.1 x.2.2.2.2.1 (fun c => (x.2.2.2.2.2 c).1) (fun c => (x.2.2.2.2.2 c).2) a1 a2 a3)) fun q hq => ⟨hq.1.1, hq.1.2.1, rT.of hq.2 (Fo.of hq.2 (by decide)) (S := []) (by decide) (by decide) (by decide) (by decide), rM.of hq.2 (Fo.of hq.2 (by decide)) (S := []) (by decide) (by decide)⟩).mono fun q hq => hq.1
theorem b_id {s : hs_S} (h : AM s) {x : Option (Int32 × hs_S)} {n : Option (Int32 × hm)} (e : x = hl_d (hs_R s) n) {r : Int32} (en : n = some (r, hs_I s)) : Tq x (fun q => AM q.2 ∧ q.1 = r) :=
  (b_rf h e (Q := fun q => q = (r, hs_I s)) ⟨_, en, rfl⟩ fun q hq => by rw [hq]; exact ⟨h.1.2.1, fun _ _ => rfl, rT.rf, rM.rf⟩).mono fun q hq => ⟨hq.1, congrArg Prod.fst hq.2⟩
theorem b_byteAt {s : hs_S} (h : AM s) (a1 a2 a3 : Int32) : Tq (fX12_byteAt 285 a1 a2 a3 s) (fun q => AM q.2) := by
  have e := tX12_byteAt (hs_R s) h.1.1.2.1 a1 a2 a3 (hs_I s)
  rw [← h.1.1.1.gm] at e
  obtain ⟨r, e1⟩ := q_byteAt h.1.2.1.2.2.2.2.1 (fun c => (h.1.2.1.2.2.2.2.2 c).1) a1 a2 a3
  exact (b_id h e e1).mono fun q hq => hq.1
theorem b_handler {s : hs_S} (h : AM s) (a1 a2 a3 a4 : Int32) : Tq (fX12_handler 285 a1 a2 a3 a4 s) (fun q => AM q.2) := by
  have e := tX12_handler (hs_R s) h.1.1.2.1 a1 a2 a3 a4 (hs_I s)
  rw [← h.1.1.1.gm] at e
  obtain ⟨r, e1⟩ := q_handler h.1.2.1.2.2.2.2.1 (fun c => (h.1.2.1.2.2.2.2.2 c).1) a1 a2 a3 a4
  exact (b_id h e e1).mono fun q hq => hq.1
theorem b_block {s : hs_S} (h : AM s) (a1 a2 a3 : Int32) : Tq (fX12_block 285 a1 a2 a3 s) (fun q => AM q.2) := by
  have e := tX12_block (hs_R s) h.1.1.2.1 a1 a2 a3 (hs_I s)
  rw [← h.1.1.1.gm] at e
  obtain ⟨N, p, l, n, hh, c, R, hV⟩ := h.1.2.1.fv
  obtain ⟨P, hP⟩ := h.1.2.1.2.1
  exact (b_rf h e ((r_block h.1.2.1 a1 a2 a3).and (q_block hV hP a1 a2 a3)) fun q hq => ⟨hq.1.1, hq.1.2.1, rT.of hq.2.1 (Fo.of hq.2.1 (by decide)) (S := []) (by decide) (by decide) (by decide) (by decide), rM.of hq.2.1 (Fo.of hq.2.1 (by decide)) (S := []) (by decide) (by decide)⟩).mono fun q hq => hq.1
theorem b_pure {s : hs_S} (h : AM s) {x : Option (Int32 × hs_S)} {y : hs_S → Option (Int32 × hs_S)} {r : Int32} (ex : x = some (r, s)) (hy : Tq (y s) (fun q => AM q.2 ∧ q.1 = r)) : Tq x (fun q => CJ q.2 ∧ Tq (y q.2) (fun z => AM z.2 ∧ z.1 = q.1)) := by
  rw [ex]
  exact Tq.some ⟨h.1.1, hy⟩
theorem b_answerC {s : hs_S} (h : AM s) : Tq (fX11_answer 0 s) (fun q => CJ q.2 ∧ Tq (fX12_answer 285 q.2) (fun r => AM r.2 ∧ r.1 = q.1)) := by
  have e := tX12_answer (hs_R s) h.1.1.2.1 (hs_I s)
  rw [← h.1.1.1.gm] at e
  have w := h.1.1.1
  have r7 : hs_R s 0 7 - 1 = 100 := by rw [h.2.1.1]
  refine b_pure (y := fun q => fX12_answer 285 q) (r := hs_I s 285 36) h ?_ (b_id h e rfl)
  unfold fX11_answer
  rw [if_pos (w.k gk_0), if_pos (w.f9_7 gk_0).1, r7, if_pos (w.k mk0.1), h.2.2.1]
theorem b_countedC {s : hs_S} (h : AM s) : Tq (fX11_counted 0 s) (fun q => CJ q.2 ∧ Tq (fX12_counted 285 q.2) (fun r => AM r.2 ∧ r.1 = q.1)) := by
  have e := tX12_counted (hs_R s) h.1.1.2.1 (hs_I s)
  rw [← h.1.1.1.gm] at e
  have w := h.1.1.1
  have r7 : hs_R s 0 7 - 1 = 100 := by rw [h.2.1.1]
  refine b_pure (y := fun q => fX12_counted 285 q) (r := hs_I s 285 37) h ?_ (b_id h e rfl)
  unfold fX11_counted
  rw [if_pos (w.k gk_0), if_pos (w.f9_7 gk_0).1, r7, if_pos (w.k mk0.1), h.2.2.2.1]
theorem b_stepsC {s : hs_S} (h : AM s) : Tq (fX11_steps 0 s) (fun q => CJ q.2 ∧ Tq (fX12_steps 285 q.2) (fun r => AM r.2 ∧ r.1 = q.1)) := by
  have e := tX12_steps (hs_R s) h.1.1.2.1 (hs_I s)
  rw [← h.1.1.1.gm] at e
  have w := h.1.1.1
  have r7 : hs_R s 0 7 - 1 = 100 := by rw [h.2.1.1]
  refine b_pure (y := fun q => fX12_steps 285 q) (r := hs_I s 285 38) h ?_ (b_id h e rfl)
  unfold fX11_steps
  rw [if_pos (w.k gk_0), if_pos (w.f9_7 gk_0).1, r7, if_pos (w.k mk0.1), h.2.2.2.2.1]
theorem e_element {s : hs_S} (h : AM s) (a1 a2 : Int32) : ∃ r, fX11_element 0 a1 a2 s = some (r, s) ∧ nX12_element a1 a2 (hs_I s) = some (r, hs_I s) := by
  have w := h.1.1.1
  have X := h.2.1
  have r7 : hs_R s 0 7 - 1 = 100 := by rw [X.1]
  have r2 : hs_R s 100 2 = 103 := X.2.2.2.1
  have n7 := (w.f9_7 gk_0).1
  have k5 := w.k mk0.1
  have k8 := w.k mk0.2.2.2.1
  unfold fX11_element nX12_element
  by_cases c1 : a1 < 0
  · exact ⟨-3, by rw [if_pos c1], by rw [if_pos c1]⟩
  obtain ⟨a, ha0, ea⟩ := nI_of c1
  subst ea
  rw [if_neg c1, if_neg c1]
  by_cases c2 : a < 4
  rotate_left
  · have u1 : ¬ nI a < (4 : Int32) := fun z => c2 ((lti (b := 4) ha0 (by decide)).mp z)
    have u2 : ¬ nI a ≤ (3 : Int32) := fun z => c2 (by have := (lei (b := 3) ha0 (by decide)).mp z; omega)
    exact ⟨-3, by rw [if_neg u1], by rw [if_neg u2]⟩
  have u1 : nI a < (4 : Int32) := (lti (b := 4) ha0 (by decide)).mpr c2
  have u2 : nI a ≤ (3 : Int32) := (lei (b := 3) ha0 (by decide)).mpr (by omega)
  have hi : hs_in (nI a) 4 = true := hin c2 (by decide)
  have sz : fX10_sizeOf 102 (nI a) s = some (hs_I s 313 a, s) := by rw [x_asz w X c2, h.2.2.2.2.2.1 a c2]
  rw [if_pos u1, if_pos u2]
  by_cases c3 : a2 = -1
  · refine ⟨hs_I s 313 a, ?_, ?_⟩
    · rw [if_pos c3, if_pos (w.k gk_0), if_pos n7, r7, if_pos k5, r2, if_pos (show ¬ 103 = 0 by decide)]
      show (if hs_kd s 102 = 8 then hs_bd (fX10_sizeOf 102 (nI a) s) _ else none) = _
      rw [if_pos k8, sz, hs_bd_s]
    · rw [if_pos c3, if_pos hi, cl (show a < 2147483648 by omega)]
  rw [if_neg c3, if_neg c3, if_pos (w.k gk_0), if_pos n7, r7, if_pos k5, r2, if_pos (show ¬ 103 = 0 by decide)]
  show ∃ r, (if hs_kd s 102 = 8 then hs_bd (fX10_has 102 (nI a) a2 s) _ else none) = some (r, s) ∧ _
  rw [if_pos k8]
  unfold fX10_has njX12_element_38
  by_cases c4 : a2 < 0
  · exact ⟨-1, by rw [if_pos c4, hs_bd_s, if_pos (show (0 : Int32) = 0 from rfl)], by rw [if_pos c4]⟩
  obtain ⟨i, hi0, ei⟩ := nI_of c4
  subst ei
  obtain ⟨z, hz, hg⟩ := h.1.2.1.2.2.2.1 a c2
  rw [if_neg c4, if_neg c4, if_pos k8, sz, hs_bd_s, hg, if_pos hi, cl (show a < 2147483648 by omega), hg]
  by_cases c5 : i < z
  rotate_left
  · exact ⟨-1, by rw [if_pos ((lei (by omega) hi0).mpr (by omega)), hs_bd_s, if_pos (show (0 : Int32) = 0 from rfl)], by rw [if_neg (fun q => absurd ((lti hi0 (by omega)).mp q) (by omega))]⟩
  have e1 : (1001 : Int32) * nI a + nI i = nI (1001 * a + i) := ix 1001 a i
  refine ⟨hs_I s 314 (1001 * a + i), ?_, ?_⟩
  · rw [if_neg (fun q => absurd ((lei (by omega) hi0).mp q) (by omega)), hs_bd_s, if_neg i1_ne, if_pos (w.k gk_0), if_pos n7, r7, if_pos k5, r2, if_pos (show ¬ 103 = 0 by decide)]
    show (if hs_kd s 102 = 8 then hs_bd (fX10_get 102 (nI a) (nI i) s) _ else none) = _
    rw [if_pos k8, x_aget w X c2 (by omega), hs_bd_s, h.2.2.2.2.2.2 a z c2 hz hg i c5]
  · rw [if_pos ((lti hi0 (by omega)).mpr c5), e1, if_pos (hin (show 1001 * a + i < 4004 by omega) (by decide)), cl (show 1001 * a + i < 2147483648 by omega)]
theorem b_elementC {s : hs_S} (h : AM s) (a1 a2 : Int32) : Tq (fX11_element 0 a1 a2 s) (fun q => CJ q.2 ∧ Tq (fX12_element 285 a1 a2 q.2) (fun r => AM r.2 ∧ r.1 = q.1)) := by
  have e := tX12_element (hs_R s) h.1.1.2.1 a1 a2 (hs_I s)
  rw [← h.1.1.1.gm] at e
  obtain ⟨r, e1, e2⟩ := e_element h a1 a2
  exact b_pure (y := fun q => fX12_element 285 a1 a2 q) h e1 (b_id h e e2)
