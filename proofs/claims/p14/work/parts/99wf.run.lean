/-! THE TWO AGREE: run, clear, and when they are new -/
theorem AG.cm {s : hs_S} (h : AG s) (h22 : ¬ hs_I s 285 22 = 0) : ∃ N, hs_I s 67 4 = nI N ∧ 1 ≤ N ∧ N ≤ 8 ∧ hs_I s 285 4 = nI N ∧ ∀ m, m < N → ∃ n pm, CM s m n ∧ pm ≤ 4 ∧ hs_I s (73 + 2 * m) 4 = nI pm ∧ hs_I s 287 m = nI pm := by
  obtain ⟨hJ, hr, hX, -, -, -, hF⟩ := h
  rcases hF with ⟨x1, x2, x3, x4⟩ | ⟨x1, u, tu, x2, x3, x4, x5, x6, x7⟩
  · exact absurd x3 h22
  have hS := hX.2.1 67 isS_67
  obtain ⟨v1, v2, v3, v4, v5, v6, v7⟩ := x7.vw hS x2 x5 h22
  rcases x7 with ⟨y, -⟩ | ⟨-, y2, y3⟩
  · exact absurd y h22
  refine ⟨u 0, v3, v4, v5, v6, fun m hm8 => ?_⟩
  obtain ⟨a, n, hh, e, m1, m2, m3, m4, m5, m6, m7, m8⟩ := v7 m hm8
  obtain ⟨a', k', n', c', R', P', -, -, -, -, -, -, ⟨e', far', S', -, -, -, -, w2, w3, w4, -⟩, -⟩ := y3 m hm8
  have f : hs_I s 287 m = nI (s_par u m) := (x5.2 m hm8).1
  have p4 : s_par u m ≤ 4 := (x2.v.2.2 m hm8).1
  have sf := hS.2.2.2.2 m (by omega)
  exact ⟨n, s_par u m, ⟨a, hh, s_par u m, e, m1, sf.2.1, sf.2.2, by omega, m3, w4, p4, f, m4, m5, m6, m7, m8⟩, p4, w4, f⟩
theorem HM.of {s : hs_S} {g : hm} {N : Nat} {p l n h P : Nat → Nat} {c R : Nat → Nat → Nat} (hg : ∀ a, 285 ≤ a → g a = hs_I s a) (hW : s_WB g N p l n h c R P) (hC : ∀ m, m < N → ∃ n, CM s m n) : HM s N := by
  intro m hm8
  obtain ⟨n', C⟩ := hC m hm8
  clear hC
  refine ⟨n', C, fun z h' e hz hh => ?_⟩
  have h290 := (hW.1 m hm8).2.2
  have hM := (hW.2.1.2.2 m hm8).2.2.2.1
  have h8 := hM.2.2.2.1
  have eh : h' = h m := (eqi (by omega) (by omega)).mp (e.symm.trans (by rw [← hg 290 (by decide)]; exact h290))
  obtain ⟨b, far, S, wq⟩ := (hW.2.2.2 m hm8).1.q
  have h306 := (wq.2.2.2 z (by omega)).1 2 (by decide)
  rw [hg 306 (by decide)] at h306
  obtain ⟨t1, t2⟩ := hM.r3 (z := z) (by omega) (i := 2) (by decide)
  have le := s_S_le (S := S) (w := fun j => s_pl P (c m) (n m) b true j + s_ln (c m) far j) hM.2.2.2.2.1 (fun j j1 j2 => by rw [wq.1.2.1 j j1 j2, Nat.add_assoc]) (n m) _ (by omega) t1 t2
  have h4 := wq.2.1.1
  exact ⟨_, by omega, h306⟩
theorem AM.perf {s : hs_S} {g : hm} {N m : Nat} (h : AM s) (hg : ∀ a, 285 ≤ a → g a = hs_I s a) (hv : s_WV g) (h22 : ¬ hs_I s 285 22 = 0) (hN8 : N ≤ 8) (h4 : hs_I s 285 4 = nI N) (hC : ∀ m, m < N → ∃ n pm, CM s m n ∧ pm ≤ 4 ∧ hs_I s (73 + 2 * m) 4 = nI pm ∧ hs_I s 287 m = nI pm) (hm0 : m < N) (xx yy lim : Int32) (hl0 : ¬ lim < 0) (hl : lim ≤ (100000 : Int32)) : ∃ r s' g', fX6_perform 100 (nI m) xx yy lim s = some (r, s') ∧ nX12_run (nI m) xx yy lim g = some (r, g') ∧ EN s s' g' := by
  obtain ⟨N', p, l, n, hh, c, R, P, z1, z2⟩ := hv
  have hW : s_WB g N' p l n hh c R P := z2
  have hN' := hW.2.1.2.1
  have e285 := hg 285 (by decide)
  have eN : N' = N := (eqi (by omega) (by omega)).mp (z1.symm.trans (by rw [e285]; exact h4))
  subst eN
  obtain ⟨n0, pm, C, p1, p2, p3⟩ := hC m hm0
  have hM : HM s N' := HM.of hg hW (fun m hm8 => by
    obtain ⟨n1, _, C1, -⟩ := hC m hm8
    exact ⟨n1, C1⟩)
  exact run_sim h.1.1.1 h.2.1 (h.1.2.2.1.2.1 67 isS_67) hg hW z1 hM (by rw [e285]; exact h22) hm0 p2 p1 p3 xx yy lim hl0 hl
theorem b_runC {s : hs_S} (h : AM s) (v1 v2 v3 v4 : Int32) : Tq (fX11_run 0 v1 v2 v3 v4 s) (fun q => CJ q.2 ∧ Tq (fX12_run 285 v1 v2 v3 v4 q.2) (fun r => AM r.2 ∧ r.1 = q.1)) := by
  have w := h.1.1.1
  have hX := h.1.2.2.1
  have e := tX12_run (hs_R s) h.1.1.2.1 v1 v2 v3 v4 (hs_I s)
  rw [← w.gm] at e
  have r3 : hs_R s 0 3 - 1 = 67 := by rw [hX.2.2.2.2.2.1]
  have r7 : hs_R s 0 7 - 1 = 100 := by rw [h.2.1.1]
  have bad : ∀ r : Int32, fX11_run 0 v1 v2 v3 v4 s = some (r, s) → nX12_run v1 v2 v3 v4 (hs_I s) = some (r, hs_I s) → Tq (fX11_run 0 v1 v2 v3 v4 s) (fun q => CJ q.2 ∧ Tq (fX12_run 285 v1 v2 v3 v4 q.2) (fun r => AM r.2 ∧ r.1 = q.1)) := fun r e1 e2 => b_pure (y := fun q => fX12_run 285 v1 v2 v3 v4 q) (r := r) h e1 (b_id h e e2)
  by_cases h22 : hs_I s 285 22 = 0
  · have h67 : hs_I s 67 4 = 0 := by
      rcases h.1.w with ⟨-, y⟩ | ⟨y, -⟩
      · exact y
      · exact absurd h22 y
    refine bad (-2) ?_ ?_
    · unfold fX11_run
      rw [if_pos (w.k gk_0), if_pos (w.f9_3 gk_0).1, if_pos (w.k (w.f9_3 gk_0).2), r3, if_pos h67]
    · unfold nX12_run
      rw [if_pos h22]
  obtain ⟨N, n4, n1, n8, n5, hC⟩ := h.1.cm h22
  have h67 : ¬ hs_I s 67 4 = 0 := by rw [n4]; exact nI_ne (b := 0) (by omega) (by decide) (by omega)
  have pre : fX11_run 0 v1 v2 v3 v4 s = hs_bd (fX0_has 67 v1 s) fun r5 g4 => if r5 = 0 then some ((-3 : Int32), g4) else (if v4 < 0 then some ((-3 : Int32), g4) else (if v4 ≤ (100000 : Int32) then (if hs_kd g4 0 = 9 then if ¬ (hs_R g4 0 7) = 0 then if hs_kd g4 ((hs_R g4 0 7) - 1) = 5 then hs_bd (fX6_perform ((hs_R g4 0 7) - 1) v1 v2 v3 v4 g4) fun r11 g10 => some (r11, g10) else none else none else none) else some ((-3 : Int32), g4))) := by
    unfold fX11_run
    rw [if_pos (w.k gk_0), if_pos (w.f9_3 gk_0).1, if_pos (w.k (w.f9_3 gk_0).2), r3, if_neg h67]
  have z0 : (0 : Int32) = 0 := rfl
  by_cases c1 : v1 < 0
  · refine bad (-3) ?_ ?_
    · rw [pre, x_has0 c1, hs_bd_s, if_pos z0]
    · unfold nX12_run
      rw [if_neg h22, if_pos c1]
  obtain ⟨m, hm0, em⟩ := nI_of c1
  subst em
  by_cases c2 : m < N
  rotate_left
  · refine bad (-3) ?_ ?_
    · rw [pre, x_has1 w isS_67 n4 n8 hm0 (by omega), hs_bd_s, if_pos z0]
    · unfold nX12_run
      rw [if_neg h22, if_neg c1, n5, if_pos ((lei (by omega) hm0).mpr (by omega))]
  have u2 : ¬ nI N ≤ nI m := fun z => absurd ((lei (by omega) hm0).mp z) (by omega)
  by_cases c3 : v4 < 0
  · refine bad (-3) ?_ ?_
    · rw [pre, x_has2 w isS_67 n4 n8 c2, hs_bd_s, if_neg i1_ne, if_pos c3]
    · unfold nX12_run
      rw [if_neg h22, if_neg c1, n5, if_neg u2, if_pos c3]
  by_cases c4 : v4 ≤ (100000 : Int32)
  rotate_left
  · refine bad (-3) ?_ ?_
    · rw [pre, x_has2 w isS_67 n4 n8 c2, hs_bd_s, if_neg i1_ne, if_neg c3, if_neg c4]
    · unfold nX12_run
      rw [if_neg h22, if_neg c1, n5, if_neg u2, if_neg c3, if_neg c4]
  have cls : fX11_run 0 (nI m) v2 v3 v4 s = fX6_perform 100 (nI m) v2 v3 v4 s := by
    rw [pre, x_has2 w isS_67 n4 n8 c2, hs_bd_s, if_neg i1_ne, if_neg c3, if_pos c4, if_pos (w.k gk_0), if_pos (w.f9_7 gk_0).1, r7, if_pos (w.k mk0.1), hs_bd_id]
  have hv0 : s_WV (hs_I s) := (h.1.2.1.2.2.2.2.2 h22).1
  obtain ⟨r, s', g1, e1, -, -⟩ := AM.perf h (g := hs_I s) (fun _ _ => rfl) hv0 h22 n8 n5 hC c2 v2 v3 v4 c3 c4
  have ex : fX11_run 0 (nI m) v2 v3 v4 s = some (r, s') := cls.trans e1
  obtain ⟨q, eq, ⟨cc0, -, -, -⟩, ag0⟩ := (x_run h.1.1 hX (nI m) v2 v3 v4).and (a_run h.1 (nI m) v2 v3 v4)
  have qq : q = (r, s') := Option.some.inj (eq.symm.trans ex)
  have cc : cC s s' := by rw [qq] at cc0; exact cc0
  have ag : AG s' := by rw [qq] at ag0; exact ag0
  have eg : ∀ a, 285 ≤ a → hs_I s' a = hs_I s a := cc.2.1
  have rj' := h.1.2.1.cl cc
  have hv1 : s_WV (hs_I s') := (rj'.2.2.2.2.2 (by rw [eg 285 (by decide)]; exact h22)).1
  obtain ⟨r2, s2, g', e2, e3, en⟩ := AM.perf h eg hv1 h22 n8 n5 hC c2 v2 v3 v4 c3 c4
  have pp : (r2, s2) = (r, s') := Option.some.inj (e2.symm.trans e1)
  have a1 : r2 = r := congrArg Prod.fst pp
  have a2 : s2 = s' := congrArg Prod.snd pp
  rw [a1] at e3
  rw [a2] at en
  rw [ex]
  refine Tq.some ⟨cc.1, ?_⟩
  have e' := tX12_run (hs_R s') cc.1.2.1 (nI m) v2 v3 v4 (hs_I s')
  rw [← cc.1.1.gm] at e'
  have A := a_run12 ag (nI m) v2 v3 v4
  have B := rf_e cc.1 e' ((r_run rj' (nI m) v2 v3 v4).and (Q := fun q => q = (r, g')) ⟨_, e3, rfl⟩) fun q hq => ⟨hq.1.1, hq.1.2.1⟩
  refine (A.and B).mono fun z hz => ?_
  obtain ⟨ag2, rp, -, ez⟩ := hz
  have ez1 : z.1 = r := congrArg Prod.fst ez
  have ez2 : hs_I z.2 = g' := congrArg Prod.snd ez
  obtain ⟨x1, x2, x3, x4, x5, x6, x7, x8, x9, x10, x11⟩ := en
  have z100 : hs_I z.2 100 = hs_I s' 100 := rp.2.2.1 100 (by omega)
  have z103 : hs_I z.2 103 = hs_I s' 103 := rp.2.2.1 103 (by omega)
  have z104 : hs_I z.2 104 = hs_I s' 104 := rp.2.2.1 104 (by omega)
  refine ⟨⟨ag2, by rw [rp.2.2.2]; exact x2, ?_, ?_, ?_, fun a ha => ?_, fun a y ha hy hg i hi => ?_⟩, ez1⟩
  · rw [z100, ez2]; exact x7
  · rw [z100, ez2]; exact x8
  · rw [z100, ez2]; exact x9
  · rw [z103, ez2]; exact x10 a ha
  · rw [ez2] at hg
    rw [z104, ez2]
    exact x11 a y ha hy hg i hi
theorem m_clear {s : hs_S} (h : AM s) : Tq (fX11_clear 0 s) (fun q => cC s q ∧ MX (hs_R q) ∧ hs_I q 100 5 = 0 ∧ hs_I q 100 6 = 0 ∧ hs_I q 100 7 = 0 ∧ ∀ i, i < 4 → hs_I q 103 i = 0) := by
  have hJ := h.1.1
  have hX := h.1.2.2.1
  have w := hJ.1
  have i0 : isF (hs_R s 0 0 - 1) := hX.2.2.2.2.2.2.2.2.2 0 (by decide)
  have i1 : isF (hs_R s 0 1 - 1) := hX.2.2.2.2.2.2.2.2.2 1 (by decide)
  have r3 : hs_R s 0 3 - 1 = 67 := by rw [hX.2.2.2.2.2.1]
  have r7 : hs_R s 0 7 - 1 = 100 := by rw [h.2.1.1]
  refine ((z_clear hJ).and (Q := fun q => MX (hs_R q) ∧ hs_I q 100 5 = 0 ∧ hs_I q 100 6 = 0 ∧ hs_I q 100 7 = 0 ∧ ∀ i, i < 4 → hs_I q 103 i = 0) ?_).mono fun q hq => ⟨hq.1.1, hq.2⟩
  unfold fX11_clear
  obtain ⟨q1, e1, w1, R1, -⟩ := x_empty0 w i0.s
  rw [if_pos (w.k gk_0), if_pos (w.f9_0 gk_0).1, if_pos (w.k (w.f9_0 gk_0).2), e1]
  show Tq (if hs_kd q1 0 = 9 then _ else none) _
  obtain ⟨q2, e2, w2, R2, -⟩ := x_empty0 w1 i1.s
  have r1' : hs_R q1 0 1 - 1 = hs_R s 0 1 - 1 := by rw [R1]
  rw [if_pos (w1.k gk_0), if_pos (w1.f9_1 gk_0).1, if_pos (w1.k (w1.f9_1 gk_0).2), r1', e2]
  show Tq (if hs_kd q2 0 = 9 then _ else none) _
  obtain ⟨q3, e3, w3, R3, -⟩ := x_empty0 w2 isS_67
  have r3' : hs_R q2 0 3 - 1 = 67 := by rw [R2, R1]; exact r3
  rw [if_pos (w2.k gk_0), if_pos (w2.f9_3 gk_0).1, if_pos (w2.k (w2.f9_3 gk_0).2), r3', e3]
  show Tq (if hs_kd q3 0 = 9 then _ else none) _
  obtain ⟨q4, e4, ⟨w4, R4, f4⟩, -⟩ := z_first w3 (w3.f9_4 gk_0).2
  rw [if_pos (w3.k gk_0), if_pos (w3.f9_4 gk_0).1, if_pos (w3.k (w3.f9_4 gk_0).2), e4]
  show Tq (if hs_kd q4 0 = 9 then _ else none) _
  have R04 : hs_R q4 = hs_R s := by rw [R4, R3, R2, R1]
  have X4 : MX (hs_R q4) := by rw [R04]; exact h.2.1
  obtain ⟨q5, e5, w5, R5, f5, z5, z6, z7, z3⟩ := x_forget w4 X4
  have r7' : hs_R q4 0 7 - 1 = 100 := by rw [R04]; exact r7
  rw [if_pos (w4.k gk_0), if_pos (w4.f9_7 gk_0).1, if_pos (w4.k (w4.f9_7 gk_0).2), r7', e5]
  exact Tq.some ⟨by rw [R5]; exact X4, z5, z6, z7, z3⟩
theorem b_clear {s : hs_S} (h : AM s) : Tq (fX11_clear 0 s) (fun q => CJ q ∧ Tq (fX12_clear 285 q) (fun r => AM r)) := by
  refine ((a_clear h.1).and (m_clear h)).mono fun q hq => ?_
  obtain ⟨⟨J, ty⟩, cc, X, z5, z6, z7, z3⟩ := hq
  refine ⟨J, ?_⟩
  have e := tX12_clear (hs_R q) J.2.1 (hs_I q)
  rw [← J.1.gm] at e
  have rj := h.1.2.1.cl cc
  have hc := ((r_clear rj).and (q_clear (hs_I q))).mono (P := _) (Q := fun z => RJ z ∧ mK (hs_I q) z ∧ (z 285 36 = 0 ∧ z 285 37 = 0 ∧ z 285 38 = 0 ∧ ∀ i, i < 4 → z 313 i = 0)) fun z hz => by
    obtain ⟨⟨a1, a2, -⟩, -, -, -, -, -, b1, b2, b3, -, b4⟩ := hz
    exact ⟨a1, a2, b1, b2, b3, b4⟩
  refine (ty.and (rf_v (P := fun z => z 285 36 = 0 ∧ z 285 37 = 0 ∧ z 285 38 = 0 ∧ ∀ i, i < 4 → z 313 i = 0) J e hc)).mono fun z hz => ?_
  obtain ⟨ag, rp, y5, y6, y7, y3⟩ := hz
  refine ⟨ag, by rw [rp.2.2.2]; exact X, ?_, ?_, ?_, fun a ha => ?_, fun a y ha hy hg i hi => ?_⟩
  · rw [rp.2.2.1 100 (by omega), z5, y5]
  · rw [rp.2.2.1 100 (by omega), z6, y6]
  · rw [rp.2.2.1 100 (by omega), z7, y7]
  · rw [rp.2.2.1 103 (by omega), z3 a ha, y3 a ha]
  · rw [y3 a ha] at hg
    have := (eqi (a := 0) (b := y) (by decide) (by omega)).mp hg
    omega
/-! when they are new -/
def pd_M (g : hs_S) : Bool := decide (hs_R g 0 7 = 101) && (decide (hs_R g 100 0 = 68) && (decide (hs_R g 100 1 = 102) && (decide (hs_R g 100 2 = 103) && (decide (hs_R g 102 0 = 104) && (decide (hs_R g 102 1 = 105) && (List.range 60).all (fun f => decide (hs_R g 101 f = 106 + 3 * f) && (decide (hs_R g (105 + 3 * f) 0 = 107 + 3 * f) && decide (hs_R g (105 + 3 * f) 1 = 108 + 3 * f))))))))
def pd_3 (g : hs_S) : Bool := decide (hs_I g 100 5 = hs_I g 285 36) && (decide (hs_I g 100 6 = hs_I g 285 37) && (decide (hs_I g 100 7 = hs_I g 285 38) && (List.range 4).all (fun a => decide (hs_I g 103 a = 0) && decide (hs_I g 313 a = 0))))
def pd_all : Bool := match pp_st with
  | none => false
  | some (_, g) => pd_M g && pd_3 g
set_option maxRecDepth 100000 in
theorem pd_run : pd_all = true := by decide +kernel
theorem pd_facts : ∃ g1 g4 : hs_S, fX11_init hs_0.1 (hs_new hs_0 9 0) = some g1 ∧ fX12_init g1.1 (hs_new g1 10 0) = some g4 ∧ g1.1 = 285 ∧ AM g4 := by
  obtain ⟨g1, g4, e1, e4, b0, ag⟩ := pc_facts
  refine ⟨g1, g4, e1, e4, b0, ag, ?_⟩
  have hr := pd_run
  have hp : pp_st = some (g1.1, g4) := by
    unfold pp_st
    rw [e1]
    show hs_bv (fX12_init g1.1 (hs_new g1 10 0)) (fun g4 => some (g1.1, g4)) = some (g1.1, g4)
    rw [e4]
    rfl
  unfold pd_all at hr
  rw [hp] at hr
  have hr2 : (pd_M g4 && pd_3 g4) = true := hr
  simp only [Bool.and_eq_true] at hr2
  obtain ⟨b2, b3⟩ := hr2
  unfold pd_M at b2
  unfold pd_3 at b3
  simp only [Bool.and_eq_true, decide_eq_true_eq] at b2 b3
  obtain ⟨m1, m2, m3, m4, m5, m6, m7⟩ := b2
  obtain ⟨n1, n2, n3, n4⟩ := b3
  have z : ∀ a, a < 4 → hs_I g4 103 a = 0 ∧ hs_I g4 313 a = 0 := fun a ha => by
    have := all_r n4 ha
    simp only [Bool.and_eq_true, decide_eq_true_eq] at this
    exact this
  refine ⟨⟨m1, m2, m3, m4, m5, m6, fun f hf => ?_⟩, n1, n2, n3, fun a ha => (z a ha).1.trans (z a ha).2.symm, fun a y ha hy hg i hi => ?_⟩
  · have := all_r m7 hf
    simp only [Bool.and_eq_true, decide_eq_true_eq] at this
    exact this
  · rw [(z a ha).2] at hg
    have := (eqi (a := 0) (b := y) (by decide) (by omega)).mp hg
    omega
