/-! THE TWO AGREE, AND TELL ALIKE -/
def AL (s : hs_S) : Prop := AG s ∧ LG s
/-- a call of the class leaves alone what told() tells, or nothing is rewritten behind it -/
def cL (s q : hs_S) : Prop := hs_I q 67 4 = 0 ∨ (hs_I q 67 4 = hs_I s 67 4 ∧ hs_R q 0 1 = hs_R s 0 1 ∧ (∀ z, z < 8 → hs_I q (73 + 2 * z) = hs_I s (73 + 2 * z)) ∧ ∀ z, z < 8 → hs_I q (hs_R s 0 1 - 1 + 6 + 2 * z) = hs_I s (hs_R s 0 1 - 1 + 6 + 2 * z))
theorem cL.rf {s : hs_S} : cL s s := Or.inr ⟨rfl, rfl, fun _ _ => rfl, fun _ _ => rfl⟩
theorem isF_R {s : hs_S} (hX : RX (hs_R s)) : 1 ≤ hs_R s 0 1 - 1 ∧ hs_R s 0 1 - 1 + 22 ≤ 67 := (hX.2.2.2.2.2.2.2.2.2 1 (by decide)).lt
theorem LG.no {s : hs_S} (h : hs_I s 67 4 = 0) : LG s := fun N z hN e hz => by
  have := (eqi (a := 0) (b := N) (by decide) (by omega)).mp (h.symm.trans e)
  omega
theorem LG.to {s q z : hs_S} (h : LG s) (hX : RX (hs_R s)) (c : cL s q) (cc : cC s q) (rp : rP q z) (r : hs_I z 307 = hs_I q 307) : LG z := by
  have l := isF_R hX
  rcases c with c | ⟨c1, c2, c3, c4⟩
  · exact LG.no (by rw [rp.2.2.1 67 (by omega)]; exact c)
  · intro N y hN e hy
    rw [rp.2.2.1 67 (by omega), c1] at e
    obtain ⟨l1, l2⟩ := h N y hN e hy
    have e307 : hs_I z 307 = hs_I s 307 := r.trans (cc.2.1 307 (by omega))
    rw [rp.2.2.2, c2, rp.2.2.1 (73 + 2 * y) (by omega), rp.2.2.1 (hs_R s 0 1 - 1 + 6 + 2 * y) (by omega), c3 y (by omega), c4 y (by omega), e307]
    exact ⟨l1, l2⟩
theorem l_pair {s : hs_S} (h : AL s) {x : Option (Int32 × hs_S)} {y : hs_S → Option (Int32 × hs_S)} (hx : Tq x (fun q => CJ q.2 ∧ Tq (y q.2) (fun r => AG r.2))) (hc : Tq x (fun q => cC s q.2 ∧ cL s q.2)) (hr : ∀ q, CJ q → RJ (hs_I q) → Tq (y q) (fun r => rP q r.2 ∧ hs_I r.2 307 = hs_I q 307)) : Tq x (fun q => CJ q.2 ∧ Tq (y q.2) (fun r => AL r.2)) := by
  refine (hx.and hc).mono fun q hq => ?_
  obtain ⟨⟨J, ty⟩, c, m⟩ := hq
  exact ⟨J, (ty.and (hr q.2 J (h.1.2.1.cl c))).mono fun r hr2 => ⟨hr2.1, h.2.to h.1.2.2.1 m c hr2.2.1 hr2.2.2⟩⟩
theorem l_drop {x : Option (Int32 × hs_S)} {y : hs_S → Option (Int32 × hs_S)} (hx : Tq x (fun q => CJ q.2 ∧ Tq (y q.2) (fun r => AG r.2 ∧ r.1 = q.1))) : Tq x (fun q => CJ q.2 ∧ Tq (y q.2) (fun r => AG r.2)) := hx.mono fun q hq => ⟨hq.1, hq.2.mono fun r hr => hr.1⟩
/-! the class's calls -/
theorem k_feed {s : hs_S} (h : AG s) (w : Int64) (a : Int32) : Tq (fX11_feed 0 w a s) (fun q => cC s q.2 ∧ cL s q.2) := by
  obtain ⟨hJ, hr, hX, hno, ⟨t, T, hT, tA, tB⟩, hp, hF⟩ := h
  have i0 : isF (hs_R s 0 0 - 1) := hX.2.2.2.2.2.2.2.2.2 0 (by decide)
  have i1 : isF (hs_R s 0 1 - 1) := hX.2.2.2.2.2.2.2.2.2 1 (by decide)
  have n0 : ¬ hs_R s 0 0 = 0 := (hJ.1.f9_0 gk_0).1
  have n1 : ¬ hs_R s 0 1 = 0 := (hJ.1.f9_1 gk_0).1
  have ne : hs_R s 0 0 ≠ hs_R s 0 1 := hJ.2.2.1
  have dj := i0.dj i1 (by omega)
  generalize hA : hs_R s 0 0 - 1 = A at i0 tA tB dj
  have r0 : hs_R s 0 0 = A + 1 := by omega
  have lA := i0.lt
  have o : awO s A t (A + 6) := ⟨hJ.1, i0.s, hX.2.1 A i0.s, tA, ((sk i0.s).2.2.2.2.2 0 (by decide)).1⟩
  refine ((x_feed i0 w a o r0 hT.2.1).and (z_feed hJ w a (t := t) (by show hs_I s (hs_R s 0 0 - 1) 3 = nI t; rw [hA]; exact tA) hT.2.1)).mono fun q hq => ?_
  obtain ⟨c1, c2, -⟩ := hq
  refine ⟨c2, ?_⟩
  rcases c1 with ⟨-, e⟩ | ⟨r, -, -, -, ⟨-, e⟩ | ⟨-, -, e⟩⟩
  · rw [e]; exact cL.rf
  · rw [e]; exact cL.rf
  · have ce := e.all
    exact Or.inr ⟨by rw [ce 67 (by omega) (by omega)], by rw [e.1], fun z hz => ce _ (by omega) (by omega), fun z hz => ce _ (by omega) (by omega)⟩
theorem k_load {s : hs_S} (h : AG s) : Tq (fX11_load 0 s) (fun q => cC s q.2 ∧ cL s q.2) := by
  obtain ⟨hJ, hr, hX, hno, ⟨t, T, hT, tA, tB⟩, hp, hF⟩ := h
  have i0 : isF (hs_R s 0 0 - 1) := hX.2.2.2.2.2.2.2.2.2 0 (by decide)
  have i1 : isF (hs_R s 0 1 - 1) := hX.2.2.2.2.2.2.2.2.2 1 (by decide)
  have n0 : ¬ hs_R s 0 0 = 0 := (hJ.1.f9_0 gk_0).1
  have n1 : ¬ hs_R s 0 1 = 0 := (hJ.1.f9_1 gk_0).1
  have ne : hs_R s 0 0 ≠ hs_R s 0 1 := hJ.2.2.1
  have dj := i0.dj i1 (by omega)
  unfold cL
  generalize hA : hs_R s 0 0 - 1 = A at i0 tA tB dj
  generalize hB : hs_R s 0 1 - 1 = B at i1 dj
  have r0 : hs_R s 0 0 = A + 1 := by omega
  have r1 : hs_R s 0 1 = B + 1 := by omega
  have hAB : A ≠ B := by omega
  have lA := i0.lt
  have lB := i1.lt
  refine ((x_load i0 i1 hAB hJ hX r0 r1 tA hT.2.1 (fun i hi => ⟨tB i hi, (hT.2.2 i hi).2⟩) (hno A i0)).and (z_load hJ)).mono fun q hq => ?_
  obtain ⟨⟨J1, Ra, Rj, F, cs⟩, c2, -⟩ := hq
  refine ⟨c2, ?_⟩
  rcases cs with ⟨a1, -, a3, a4, a5, a6, a7⟩ | ⟨a1, a3, a4, a5, a6, a7⟩
  · exact Or.inl a6
  · exact Or.inr ⟨by rw [a7], by rw [a4, r1], fun z hz => F _ (by omega) (by omega) (by omega) (by omega), fun z hz => F _ (by omega) (by omega) (by omega) (by omega)⟩
theorem k_price {s : hs_S} (h : AG s) (v1 v2 : Int32) : Tq (fX11_price 0 v1 v2 s) (fun q => cC s q.2 ∧ cL s q.2) := by
  have l := isF_R h.2.2.1
  refine ((x_price h.1 v1 v2).and (z_price0 h.1 v1 v2)).mono fun q hq => ⟨hq.2.1, ?_⟩
  rcases hq.1 with ⟨-, e⟩ | ⟨k, v, -, e⟩
  · rw [e]; exact cL.rf
  · rw [e]
    have ne : ∀ b, b ≠ 90 → hs_I (hs_wI s 90 k (nI v)) b = hs_I s b := fun b hb => by
      funext i
      rw [hs_I_w, if_neg hb]
    exact Or.inr ⟨by show hs_I (hs_wI s 90 k (nI v)) 67 4 = _; rw [ne 67 (by decide)], rfl, fun z hz => ne _ (by omega), fun z hz => ne _ (by omega)⟩
theorem k_run {s : hs_S} (h : AG s) (v1 v2 v3 v4 : Int32) : Tq (fX11_run 0 v1 v2 v3 v4 s) (fun q => cC s q.2 ∧ cL s q.2) := by
  have l := isF_R h.2.2.1
  refine (x_run h.1 h.2.2.1 v1 v2 v3 v4).mono fun q hq => ?_
  obtain ⟨c1, c2, c3, c4⟩ := hq
  exact ⟨c1, Or.inr ⟨by rw [c4 67 (by decide)], by rw [c3], fun z hz => c4 _ (ow_lt _ (by omega)), fun z hz => c4 _ (ow_lt _ (by omega))⟩⟩
/-! the reference's calls -/
theorem j_feed {q : hs_S} (J : CJ q) (rj : RJ (hs_I q)) (w : Int64) (a : Int32) : Tq (fX12_feed 285 w a q) (fun r => rP q r.2 ∧ hs_I r.2 307 = hs_I q 307) := by
  have e := tX12_feed (hs_R q) J.2.1 w a (hs_I q)
  rw [← J.1.gm] at e
  obtain ⟨t, T, hT⟩ := rj.1
  refine (rf_e J e ((r_feed rj w a hT).and (q_feed w a hT)) fun z hz => ⟨hz.1.1.1, hz.1.1.2.1⟩).mono fun z hz => ⟨hz.1, ?_⟩
  rcases hz.2.2 with ⟨-, y⟩ | ⟨k, -, -, -, ⟨-, y⟩ | ⟨-, -, y1, y2, -⟩⟩
  · have y' : hs_I z.2 = hs_I q := congrArg Prod.snd y
    rw [y']
  · have y' : hs_I z.2 = hs_I q := congrArg Prod.snd y
    rw [y']
  · exact y1 307 (by decide)
theorem j_load {q : hs_S} (J : CJ q) (rj : RJ (hs_I q)) : Tq (fX12_load 285 q) (fun r => rP q r.2 ∧ hs_I r.2 307 = hs_I q 307) := by
  have e := tX12_load (hs_R q) J.2.1 (hs_I q)
  rw [← J.1.gm] at e
  obtain ⟨t, T, hT⟩ := rj.1
  exact (rf_e J e ((r_load rj).and (q_load hT)) fun z hz => ⟨hz.1.1, hz.1.2.1⟩).mono fun z hz => ⟨hz.1, hz.2.2.1 307 (by decide)⟩
theorem j_price {q : hs_S} (J : CJ q) (rj : RJ (hs_I q)) (a b : Int32) : Tq (fX12_price 285 a b q) (fun r => rP q r.2 ∧ hs_I r.2 307 = hs_I q 307) := by
  have e := tX12_price (hs_R q) J.2.1 a b (hs_I q)
  rw [← J.1.gm] at e
  refine (rf_e J e ((r_price rj a b).and (q_price a b (hs_I q))) fun z hz => ⟨hz.1.1, hz.1.2.1⟩).mono fun z hz => ⟨hz.1, ?_⟩
  rcases hz.2.2 with ⟨-, y⟩ | ⟨k, v, -, y⟩
  · have y' : hs_I z.2 = hs_I q := congrArg Prod.snd y
    rw [y']
  · have y' : hs_I z.2 = hm_w (hs_I q) 312 k (nI v) := congrArg Prod.snd y
    rw [y', hm_w_ne (by decide)]
theorem j_run {q : hs_S} (J : CJ q) (rj : RJ (hs_I q)) (a1 a2 a3 a4 : Int32) : Tq (fX12_run 285 a1 a2 a3 a4 q) (fun r => rP q r.2 ∧ hs_I r.2 307 = hs_I q 307) := by
  have e := tX12_run (hs_R q) J.2.1 a1 a2 a3 a4 (hs_I q)
  rw [← J.1.gm] at e
  exact (rf_e J e ((r_run rj a1 a2 a3 a4).and (q_run (fun c => (rj.2.2.2.2.2 c).1) rj.2.2.2.1 a1 a2 a3 a4)) fun z hz => ⟨hz.1.1, hz.1.2.1⟩).mono fun z hz => ⟨hz.1, hz.2.2.1 307 (by decide)⟩
/-! both -/
theorem l_feed {s : hs_S} (h : AL s) (w : Int64) (a : Int32) : Tq (fX11_feed 0 w a s) (fun q => CJ q.2 ∧ Tq (fX12_feed 285 w a q.2) (fun r => AL r.2)) := l_pair h (l_drop (a_feed h.1 w a)) (k_feed h.1 w a) (fun q J rj => j_feed J rj w a)
theorem l_load {s : hs_S} (h : AL s) : Tq (fX11_load 0 s) (fun q => CJ q.2 ∧ Tq (fX12_load 285 q.2) (fun r => AL r.2)) := l_pair h (a_load h.1) (k_load h.1) (fun q J rj => j_load J rj)
theorem l_price {s : hs_S} (h : AL s) (v1 v2 : Int32) : Tq (fX11_price 0 v1 v2 s) (fun q => CJ q.2 ∧ Tq (fX12_price 285 v1 v2 q.2) (fun r => AL r.2)) := l_pair h (l_drop (a_price h.1 v1 v2)) (k_price h.1 v1 v2) (fun q J rj => j_price J rj v1 v2)
theorem l_run {s : hs_S} (h : AL s) (v1 v2 v3 v4 : Int32) : Tq (fX11_run 0 v1 v2 v3 v4 s) (fun q => CJ q.2 ∧ Tq (fX12_run 285 v1 v2 v3 v4 q.2) (fun r => AL r.2)) :=
  l_pair h (((x_run h.1.1 h.1.2.2.1 v1 v2 v3 v4).and (a_run h.1 v1 v2 v3 v4)).mono fun q hq => ⟨hq.1.1.1, a_run12 hq.2 v1 v2 v3 v4⟩) (k_run h.1 v1 v2 v3 v4) (fun q J rj => j_run J rj v1 v2 v3 v4)
theorem l_clear {s : hs_S} (h : AL s) : Tq (fX11_clear 0 s) (fun q => CJ q ∧ Tq (fX12_clear 285 q) (fun r => AL r)) := by
  have h0 := h.1
  obtain ⟨hJ, hr, hX, hno, ⟨t, T, hT, tA, tB⟩, hp, hF⟩ := h0
  have i0 : isF (hs_R s 0 0 - 1) := hX.2.2.2.2.2.2.2.2.2 0 (by decide)
  have i1 : isF (hs_R s 0 1 - 1) := hX.2.2.2.2.2.2.2.2.2 1 (by decide)
  have n0 : ¬ hs_R s 0 0 = 0 := (hJ.1.f9_0 gk_0).1
  have n1 : ¬ hs_R s 0 1 = 0 := (hJ.1.f9_1 gk_0).1
  have ne : hs_R s 0 0 ≠ hs_R s 0 1 := hJ.2.2.1
  refine ((a_clear h.1).and (x_clear i0 i1 (by omega) hJ hX (by omega) (by omega))).mono fun q hq => ?_
  obtain ⟨⟨J, ty⟩, c2, -, -, -, -, -, c4, -⟩ := hq
  refine ⟨J, ?_⟩
  have rj1 := hr.cl c2
  have e := tX12_clear (hs_R q) J.2.1 (hs_I q)
  rw [← J.1.gm] at e
  refine (ty.and (rf_v (P := fun _ => True) J e ((r_clear rj1).mono fun z hz => ⟨hz.1, hz.2.1, trivial⟩))).mono fun z hz => ⟨hz.1, LG.no ?_⟩
  rw [hz.2.1.2.2.1 67 (by omega)]; exact c4
/-- a call of the reference alone -/
theorem l_rf {s : hs_S} (h : AL s) {x : Option (Int32 × hs_S)} {n : Option (Int32 × hm)} (e : x = hl_d (hs_R s) n) {Q : Int32 × hm → Prop} (hn : Tq n Q) (hk : ∀ q, Q q → RJ q.2 ∧ mK (hs_I s) q.2 ∧ rT (hs_I s) q.2 ∧ q.2 307 = hs_I s 307) : Tq x (fun q => AL q.2 ∧ Q (q.1, hs_I q.2)) :=
  ((a_rf h.1 e hn fun q hq => ⟨(hk q hq).1, (hk q hq).2.1, (hk q hq).2.2.1⟩).and (rf_e h.1.1 e hn fun q hq => ⟨(hk q hq).1, (hk q hq).2.1⟩)).mono fun q hq => ⟨⟨hq.1.1, h.2.to h.1.2.2.1 cL.rf (cC.rf h.1.1) hq.2.1 (hk _ hq.1.2).2.2.2⟩, hq.1.2⟩
theorem l_id {s : hs_S} (h : AL s) {x : Option (Int32 × hs_S)} {n : Option (Int32 × hm)} (e : x = hl_d (hs_R s) n) {r : Int32} (en : n = some (r, hs_I s)) : Tq x (fun q => AL q.2) :=
  (l_rf h e (Q := fun q => q = (r, hs_I s)) ⟨_, en, rfl⟩ fun q hq => by rw [hq]; exact ⟨h.1.2.1, fun _ _ => rfl, rT.rf, rfl⟩).mono fun q hq => hq.1
theorem l_byteAt {s : hs_S} (h : AL s) (a1 a2 a3 : Int32) : Tq (fX12_byteAt 285 a1 a2 a3 s) (fun q => AL q.2) := by
  have e := tX12_byteAt (hs_R s) h.1.1.2.1 a1 a2 a3 (hs_I s)
  rw [← h.1.1.1.gm] at e
  obtain ⟨r, e1⟩ := q_byteAt h.1.2.1.2.2.2.2.1 (fun c => (h.1.2.1.2.2.2.2.2 c).1) a1 a2 a3
  exact l_id h e e1
theorem l_handler {s : hs_S} (h : AL s) (a1 a2 a3 a4 : Int32) : Tq (fX12_handler 285 a1 a2 a3 a4 s) (fun q => AL q.2) := by
  have e := tX12_handler (hs_R s) h.1.1.2.1 a1 a2 a3 a4 (hs_I s)
  rw [← h.1.1.1.gm] at e
  obtain ⟨r, e1⟩ := q_handler h.1.2.1.2.2.2.2.1 (fun c => (h.1.2.1.2.2.2.2.2 c).1) a1 a2 a3 a4
  exact l_id h e e1
theorem l_element {s : hs_S} (h : AL s) (a1 a2 : Int32) : Tq (fX12_element 285 a1 a2 s) (fun q => AL q.2) := by
  have e := tX12_element (hs_R s) h.1.1.2.1 a1 a2 (hs_I s)
  rw [← h.1.1.1.gm] at e
  obtain ⟨r, e1⟩ := q_element h.1.2.1.2.2.2.1 a1 a2
  exact l_id h e e1
theorem l_answer {s : hs_S} (h : AL s) : Tq (fX12_answer 285 s) (fun q => AL q.2) := by
  have e := tX12_answer (hs_R s) h.1.1.2.1 (hs_I s)
  rw [← h.1.1.1.gm] at e
  exact l_id h e rfl
theorem l_counted {s : hs_S} (h : AL s) : Tq (fX12_counted 285 s) (fun q => AL q.2) := by
  have e := tX12_counted (hs_R s) h.1.1.2.1 (hs_I s)
  rw [← h.1.1.1.gm] at e
  exact l_id h e rfl
theorem l_steps {s : hs_S} (h : AL s) : Tq (fX12_steps 285 s) (fun q => AL q.2) := by
  have e := tX12_steps (hs_R s) h.1.1.2.1 (hs_I s)
  rw [← h.1.1.1.gm] at e
  exact l_id h e rfl
theorem l_block {s : hs_S} (h : AL s) (a1 a2 a3 : Int32) : Tq (fX12_block 285 a1 a2 a3 s) (fun q => AL q.2) := by
  have e := tX12_block (hs_R s) h.1.1.2.1 a1 a2 a3 (hs_I s)
  rw [← h.1.1.1.gm] at e
  obtain ⟨N, p, l, n, hh, c, R, hV⟩ := h.1.2.1.fv
  obtain ⟨P, hP⟩ := h.1.2.1.2.1
  exact (l_rf h e ((r_block h.1.2.1 a1 a2 a3).and (q_block hV hP a1 a2 a3)) fun q hq => ⟨hq.1.1, hq.1.2.1, rT.of hq.2.1 (Fo.of hq.2.1 (by decide)) (S := []) (by decide) (by decide) (by decide) (by decide), hq.2.1 307 (by decide)⟩).mono fun q hq => hq.1
/-- told() -/
theorem l_toldC {s : hs_S} (h : AL s) (a1 a2 a3 : Int32) : ∃ r, fX11_told 0 a1 a2 a3 s = some (r, s) ∧ Tq (fX12_told 285 a1 a2 a3 s) (fun q => AL q.2 ∧ q.1 = r) := by
  obtain ⟨r, e1, e2⟩ := e_told h.1 h.2 a1 a2 a3
  refine ⟨r, e1, ?_⟩
  have e := tX12_told (hs_R s) h.1.1.2.1 a1 a2 a3 (hs_I s)
  rw [← h.1.1.1.gm] at e
  exact (l_rf h e ((r_told h.1.2.1 a1 a2 a3).and e2) fun q hq => ⟨hq.1.1, hq.1.2.1, rT.of hq.2.2 (Fo.of hq.2.2 (by decide)) (S := []) (by decide) (by decide) (by decide) (by decide), hq.2.2 307 (by decide)⟩).mono fun q hq => ⟨hq.1, hq.2.2.1⟩
/-- rewrite() -/
theorem l_rewrite {s : hs_S} (h : AL s) : Tq (fX11_rewrite 0 s) (fun q => CJ q.2 ∧ Tq (fX12_rewrite 285 q.2) (fun r => AL r.2)) := by
  have h0 := h.1
  obtain ⟨hJ, hr, hX, hno, ⟨t, T, hT, tA, tB⟩, hp, hF⟩ := h0
  have l := isF_R hX
  have i1 : isF (hs_R s 0 1 - 1) := hX.2.2.2.2.2.2.2.2.2 1 (by decide)
  have n1 : ¬ hs_R s 0 1 = 0 := (hJ.1.f9_1 gk_0).1
  obtain ⟨P, hP⟩ := hr.2.1
  rcases hF with ⟨x1, x2, x3, x4⟩ | ⟨x1, u, tu, x2, x3, x4, x5, x6, x7⟩
  · have e0 : fX11_rewrite 0 s = some (-2, s) := by
      unfold fX11_rewrite
      rw [if_pos (hJ.1.k gk_0), if_pos (hJ.1.f9_1 gk_0).1, if_pos (hJ.1.k (hJ.1.f9_1 gk_0).2), if_pos x2]
    refine (l_drop (a_rewrite h.1)).and (Q := fun q => q = (-2, s)) ⟨_, e0, rfl⟩ |>.mono fun q hq => ?_
    obtain ⟨⟨J, ty⟩, eq⟩ := hq
    refine ⟨J, ?_⟩
    have eq2 : q.2 = s := congrArg Prod.snd eq
    have e := tX12_rewrite (hs_R q.2) J.2.1 (hs_I q.2)
    rw [← J.1.gm] at e
    have rj1 : RJ (hs_I q.2) := by rw [eq2]; exact hr
    refine (ty.and (rf_e J e (r_rewrite rj1) fun z hz => ⟨hz.1, hz.2.1⟩)).mono fun z hz => ⟨hz.1, LG.no ?_⟩
    rw [hz.2.1.2.2.1 67 (by omega), eq2]; exact x4
  have pP0 : pP s P := fun k hk => by rw [hp k hk]; exact (hP k hk).2
  have r1 : hs_R s 0 1 = (hs_R s 0 1 - 1) + 1 := by omega
  refine ((l_drop (a_rewrite h.1)).and ((x_rewrite i1 x2 (fun k hk => (hP k hk).1) hJ.1 hX r1 x6 pP0).and (z_rewrite hJ))).mono fun q hq => ?_
  obtain ⟨⟨J, ty⟩, ⟨w1, ⟨R1, F1⟩, ra, cs⟩, c2, -⟩ := hq
  refine ⟨J, ?_⟩
  have rj1 := hr.cl c2
  have e3 : ∀ a, 285 ≤ a → hs_I q.2 a = hs_I s a := c2.2.1
  have hF1 : s_Fu (hs_I q.2) u := x5.to (by rw [e3 285 (by omega)]) fun a y1 y2 => e3 a (by omega)
  have hP1 : s_Pr (hs_I q.2) P := fun k hk => by rw [e3 312 (by omega)]; exact hP k hk
  have x1' : ¬ hs_I q.2 285 3 = 0 := by rw [e3 285 (by omega)]; exact x1
  have e := tX12_rewrite (hs_R q.2) c2.1.2.1 (hs_I q.2)
  rw [← c2.1.1.gm] at e
  refine (ty.and (rf_e c2.1 e ((r_rewrite rj1).and ((q_rewriteA x1' x2 hF1 hP1).and (q_rewriteL x1' x2 hF1 hP1))) fun z hz => ⟨hz.1.1, hz.1.2.1⟩)).mono fun z hz => ?_
  obtain ⟨ag, p, -, ⟨-, -, -, cs2⟩, hL⟩ := hz
  refine ⟨ag, ?_⟩
  rcases cs with ⟨k1, k2⟩ | ⟨k1, -⟩
  rotate_left
  · exact LG.no (by rw [p.2.2.1 67 (by omega)]; exact k1)
  rcases cs2 with ⟨-, m, k', m1, m2, m3⟩ | ⟨l1, -, l3⟩
  · obtain ⟨a, k, y1, y2, -⟩ := k2 m m1
    have := LoN.uq (x2.mt m1) y1.lo m2
    omega
  intro N y hN eN hy
  have hN8 := x2.2.2.1
  rw [p.2.2.1 67 (by omega), k1] at eN
  have eN' : u 0 = N := (eqi (by omega) (by omega)).mp eN
  have hy' : y < u 0 := by omega
  have lg := hL l1 y hy'
  obtain ⟨b, far', S', b1, b2, b3⟩ := lg
  obtain ⟨a, k, y1, y2, y3⟩ := k2 y hy'
  obtain ⟨e', far, S, v1, v2, v3, v4, w2, w3, w4, w5, w6, w7, w8, w9, -⟩ := y1
  have M := x2.mt hy'
  have hb : ∀ i, i < s_n u (s_off u y) → eK (e' i) = b i := b_uq (fun i hi => (v1 i hi).2.2) (fun i hi => b1 i (by omega))
  obtain ⟨uf, uS⟩ := Lo_uq (fun j _ j2 => s_pl_cg hb true j2) M.2.2.2.2.2.2 v2 b2
  have q8 : lks (fun i => eB (e' i)) (lbk (s_c u (s_off u y)) far) (s_n u (s_off u y)) 0 = s_ws (s_c u (s_off u y)) (s_n u (s_off u y)) (lbk (s_c u (s_off u y)) far') (s_n u (s_off u y)) 0 := by
    rw [lks_0 M.2.2.2.2.1 (fun i hi => (v1 i hi).2.1)]
    exact s_ws_cg (fun i hi => by unfold lbk; rw [uf i hi]) _ 0
  obtain ⟨⟨m4, m5, m6, m8, m9, mt, e'', v, c1, m7⟩, -⟩ := x6.2 y hy'
  have b3' : hs_I z.2 307 y = nI (s_ws (s_c u (s_off u y)) (s_n u (s_off u y)) (lbk (s_c u (s_off u y)) far') (s_n u (s_off u y)) 0) := b3
  have z73 : hs_I z.2 (73 + 2 * y) = hs_I q.2 (73 + 2 * y) := p.2.2.1 _ (by omega)
  have zR : hs_R z.2 = hs_R s := p.2.2.2.trans R1
  have zf : hs_I z.2 (hs_R s 0 1 - 1 + 6 + 2 * y) = hs_I s (hs_R s 0 1 - 1 + 6 + 2 * y) := (p.2.2.1 _ (by omega)).trans (F1 _ (by omega))
  refine ⟨?_, ?_⟩
  · rw [b3', z73, w8, q8]
  · rw [zR, z73, zf, w7, m7]
    exact congrArg nI (t_ct_cg _ (b_uq (fun i hi => (v1 i hi).2.2) (fun i hi => (c1 i hi).2.2)))
/-- unwrite() -/
theorem l_unwrite {s : hs_S} (h : AL s) : Tq (fX11_unwrite 0 s) (fun q => CJ q.2 ∧ Tq (fX12_unwrite 285 q.2) (fun r => AL r.2)) := by
  have h0 := h.1
  obtain ⟨hJ, hr, hX, hno, ⟨t, T, hT, tA, tB⟩, hp, hF⟩ := h0
  have l := isF_R hX
  have i1 : isF (hs_R s 0 1 - 1) := hX.2.2.2.2.2.2.2.2.2 1 (by decide)
  have i2 : isF (hs_R s 0 2 - 1) := hX.2.2.2.2.2.2.2.2.2 2 (by decide)
  have n1 : ¬ hs_R s 0 1 = 0 := (hJ.1.f9_1 gk_0).1
  have n2 : ¬ hs_R s 0 2 = 0 := (hJ.1.f9_2 gk_0).1
  have q12 : hs_R s 0 1 ≠ hs_R s 0 2 := hJ.2.2.2.2.1
  have r3 : hs_R s 0 3 - 1 = 67 := by rw [hX.2.2.2.2.2.1]
  obtain ⟨P, hP⟩ := hr.2.1
  have j307 : ∀ q, CJ q → RJ (hs_I q) → Tq (fX12_unwrite 285 q) (fun r => rP q r.2 ∧ hs_I r.2 307 = hs_I q 307) := by
    intro q J rj
    have e := tX12_unwrite (hs_R q) J.2.1 (hs_I q)
    rw [← J.1.gm] at e
    obtain ⟨N, p, l, n, h, c, R, hV⟩ := rj.fv
    obtain ⟨P, hP⟩ := rj.2.1
    exact (rf_e J e ((r_unwrite rj).and (q_unwrite (fun c0 => hV (rj.2.2.2.2.2 c0).2) hP)) fun z hz => ⟨hz.1.1, hz.1.2.1⟩).mono fun z hz => ⟨hz.1, hz.2.2.1 307 (by decide)⟩
  by_cases h67 : hs_I s 67 4 = 0
  · have e0 : fX11_unwrite 0 s = some (-2, s) := by
      unfold fX11_unwrite
      rw [if_pos (hJ.1.k gk_0), if_pos (hJ.1.f9_3 gk_0).1, if_pos (hJ.1.k (hJ.1.f9_3 gk_0).2), r3, if_pos h67]
    exact l_pair h (l_drop (a_unwrite h.1)) ⟨_, e0, cC.rf hJ, cL.rf⟩ j307
  rcases hF with ⟨x1, x2, x3, x4⟩ | ⟨x1, u, tu, x2, x3, x4, x5, x6, x7⟩
  · exact absurd x4 h67
  have pP0 : pP s P := fun k hk => by rw [hp k hk]; exact (hP k hk).2
  have lg := h.2
  unfold LG at lg
  generalize hA : hs_R s 0 1 - 1 = A at i1 x6 l lg
  generalize hB : hs_R s 0 2 - 1 = B at i2
  have lB := i2.lt
  have dj := i1.dj i2 (by omega)
  refine ((l_drop (a_unwrite h.1)).and ((x_unwrite i1 i2 (by omega) x2 x3 x4 (fun k hk => (hP k hk).1) hJ hX (by omega) (by omega) x6 pP0 h67 (hno B i2)).and (z_unwrite hJ))).mono fun q hq => ?_
  obtain ⟨⟨J, ty⟩, ⟨J1, ⟨u', uu, v1, v2, v3, v4⟩, R1, R2, Rj, Ra, F⟩, c2, -⟩ := hq
  refine ⟨J, (ty.and (j307 q.2 J (hr.cl c2))).mono fun z hz => ⟨hz.1, ?_⟩⟩
  obtain ⟨-, p, e307⟩ := hz
  intro N y hN eN hy
  have hN8 := x2.2.2.1
  have c67 : hs_I q.2 67 = hs_I s 67 := F 67 (by omega) (by omega)
  rw [p.2.2.1 67 (by omega), c67] at eN
  obtain ⟨l1, l2⟩ := lg N y hN eN hy
  have hW : hs_I s 67 4 = nI (u 0) := by
    rcases x7 with ⟨-, y⟩ | ⟨-, y, -⟩
    · exact absurd y h67
    · exact y
  have eN' : u 0 = N := (eqi (by omega) (by omega)).mp (hW.symm.trans eN)
  have hy' : y < u 0 := by omega
  have z73 : hs_I z.2 (73 + 2 * y) = hs_I s (73 + 2 * y) := (p.2.2.1 _ (by omega)).trans (F _ (by omega) (by omega))
  have z307 : hs_I z.2 307 = hs_I s 307 := e307.trans (c2.2.1 307 (by omega))
  have zR : hs_R z.2 0 1 - 1 = B := by rw [p.2.2.2, R1, Nat.add_sub_cancel]
  obtain ⟨⟨m4, m5, m6, m8, m9, mt, e1, v, c1, m7⟩, -⟩ := x6.2 y hy'
  obtain ⟨⟨m4', m5', m6', m8', m9', mt', e2, v', c1', m7'⟩, -⟩ := v3.2 y (by rw [uu.1]; exact hy')
  refine ⟨by rw [z73, z307]; exact l1, ?_⟩
  rw [zR, z73, l2, m7, p.2.2.1 (B + 6 + 2 * y) (by omega), m7']
  exact congrArg nI (uu.ct x2 x4 hy' (fun i hi => (c1 i hi).2.2) (fun i hi => (c1' i hi).2.2)).symm
/-- when they are new -/
theorem pl_facts : ∃ g1 g4 : hs_S, fX11_init hs_0.1 (hs_new hs_0 9 0) = some g1 ∧ fX12_init g1.1 (hs_new g1 10 0) = some g4 ∧ g1.1 = 285 ∧ AL g4 := by
  obtain ⟨g1, g4, e1, e4, b0, ag⟩ := pc_facts
  refine ⟨g1, g4, e1, e4, b0, ag, LG.no ?_⟩
  have hr := pc_run
  have hp : pp_st = some (g1.1, g4) := by
    unfold pp_st
    rw [e1]
    show hs_bv (fX12_init g1.1 (hs_new g1 10 0)) (fun g4 => some (g1.1, g4)) = some (g1.1, g4)
    rw [e4]
    rfl
  unfold pc_all at hr
  rw [hp] at hr
  have hr2 : (pc_1 g4 && ((pc_S g4 1 && (pc_S g4 23 && (pc_S g4 45 && pc_S g4 67))) && (pc_2 g4 && pc_3 g4))) = true := hr
  simp only [Bool.and_eq_true] at hr2
  obtain ⟨-, -, -, b3⟩ := hr2
  unfold pc_3 at b3
  simp only [Bool.and_eq_true, decide_eq_true_eq] at b3
  exact b3.2.2.2.2.1
