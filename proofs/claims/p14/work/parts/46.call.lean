/-! ENTER, CALLS, ENDS, PAYS -/
theorem s_K.wf {g0 g : hm} {Q : Nat → Nat → Nat → Prop} {F st m x d j : Nat} {v : Int32} (k : s_K g0 Q g F st m x d) (hj : j = 36 ∨ j = 37 ∨ j = 39) : s_K g0 Q (hm_w g 285 j v) F st m x d := by
  obtain ⟨k1, k2, k3, k4, k5, k6⟩ := k
  exact ⟨k1.w3 (by omega), by rw [hm_w_ne (by decide)]; exact k2, by rw [hm_w_ne (by decide)]; exact k3, by rw [hm_w_ne (by decide)]; exact k4, by rw [hm_w_o (by omega)]; exact k5, by rw [hm_w_o (by omega)]; exact k6⟩
def s_Sp (g0 : hm) (Q : Nat → Nat → Nat → Prop) (q : hm) : Prop := q 285 47 = 0 ∧ q 285 46 = 1 ∧ ∃ D st', s_Rs g0 Q q D st'
theorem s_K.stop {g0 g : hm} {Q : Nat → Nat → Nat → Prop} {F st m x d : Nat} (k : s_K g0 Q g F st m x d) : s_Sp g0 Q (hm_w g 285 46 (1 : Int32)) :=
  ⟨by rw [hm_w_o (by decide)]; exact k.2.2.2.2.1, by rw [hm_w_eq], F + 1, st, k.1.w3 (by decide)⟩
theorem s_Sp.ou {g0 q : hm} {N : Nat} {p n h P : Nat → Nat} {c R : Nat → Nat → Nat} (k : s_Sp g0 (s_Sd g0 N p n h c R P) q) (st rk : Nat) : s_Ou g0 N p n h c R P q st rk := Or.inr (Or.inl k)
theorem s_K.pays {g0 g : hm} {Q : Nat → Nat → Nat → Prop} {F st m x d : Nat} (k : s_K g0 Q g F st m x d) (v : Int32) : Tq (nX12_pays v g) (fun q => (q.1 = 1 ∧ s_K g0 Q q.2 F st m x d) ∨ (q.1 = 0 ∧ s_Sp g0 Q q.2)) := by
  unfold nX12_pays
  refine Tq.br (fun _ => ?_) (fun _ => ?_)
  · rw [hm_bv_s]
    exact ⟨_, rfl, Or.inl ⟨rfl, (k.wf (by decide)).wf (by decide)⟩⟩
  · exact ⟨_, rfl, Or.inr ⟨rfl, k.stop⟩⟩
theorem q_en32 {D : Nat} (hD : D < 60) : ∀ (d k f : Nat) (g : hm), k + d = 20 → d < f → g 285 40 = nI D → Tq (nlX12_enter_32 f (nI k) g) (fun q => Fr [319] g q)
  | d, k, 0, g, _, hf, _ => absurd hf (Nat.not_lt_zero _)
  | 0, k, f + 1, g, hk, _, _ => by
    have u : (20 : Int32) ≤ nI k := (lei (a := 20) (by decide) (by omega)).mpr (by omega)
    rw [nlX12_enter_32, if_pos u]
    exact Tq.some Fr.rf
  | d + 1, k, f + 1, g, hk, hf, h40 => by
    have u : ¬ (20 : Int32) ≤ nI k := fun q => absurd ((lei (a := 20) (by decide) (by omega)).mp q) (by omega)
    have e2 : (20 : Int32) * nI D + nI k = nI (20 * D + k) := ix 20 D k
    rw [nlX12_enter_32, if_neg u, h40, e2, if_pos (hin (show 20 * D + k < 1200 by omega) (by decide)), nI_1]
    refine (q_en32 hD d (k + 1) f _ (by omega) (by omega) (by rw [hm_w_ne (by decide)]; exact h40)).mono fun q hq => ?_
    exact (Fr.rf.w (by decide)).trans hq
theorem q_enter {g0 g : hm} {Q : Nat → Nat → Nat → Prop} {D st m : Nat} (hR : s_Rs g0 Q g D st) (hD : D < 60) (hf : ∀ f, f < D → s_fr g f Q) : Tq (nX12_enter (nI m) g) (fun q => (s_Rs g0 Q q (D + 1) st ∧ q 315 D = nI m ∧ q 316 D = nI 0 ∧ q 317 D = nI 0 ∧ q 285 47 = g 285 47 ∧ q 285 46 = g 285 46) ∧ ∀ f, f < D → q 317 f = g 317 f) := by
  obtain ⟨x1, x2, x3, x4, x5, x6, x7, x8⟩ := hR
  have e0 : (0 : Int32) = nI 0 := rfl
  have hi : hs_in (nI D) 60 = true := hin hD (by decide)
  have w1 : hm_w g 315 D (nI m) 285 = g 285 := hm_w_ne (by decide)
  have w2 : hm_w (hm_w g 315 D (nI m)) 316 D (0 : Int32) 285 = g 285 := (hm_w_ne (by decide)).trans w1
  have w3 : hm_w (hm_w (hm_w g 315 D (nI m)) 316 D (0 : Int32)) 317 D (0 : Int32) 285 = g 285 := (hm_w_ne (by decide)).trans w2
  unfold nX12_enter
  rw [x3, if_pos hi, cl (show D < 2147483648 by omega), w1, x3, if_pos hi, hm_bv_s, cl (show D < 2147483648 by omega), w2, x3, if_pos hi, cl (show D < 2147483648 by omega)]
  generalize hg3 : hm_w (hm_w (hm_w g 315 D (nI m)) 316 D (0 : Int32)) 317 D (0 : Int32) = g3 at w3
  have A1 : g3 315 D = nI m := by rw [← hg3, hm_w_ne (by decide), hm_w_ne (by decide), hm_w_eq]
  have A2 : g3 316 D = nI 0 := by rw [← hg3, hm_w_ne (by decide), hm_w_eq, e0]
  have A3 : g3 317 D = nI 0 := by rw [← hg3, hm_w_eq, e0]
  have A4 : Fr [285, 313, 314, 315, 316, 317, 318, 319] g g3 := by rw [← hg3]; exact ((Fr.rf.w (by decide)).w (by decide)).w (by decide)
  have A5 : ∀ f, f < D → g3 315 f = g 315 f ∧ g3 316 f = g 316 f ∧ g3 317 f = g 317 f := by
    intro f hf
    rw [← hg3]
    refine ⟨?_, ?_, ?_⟩
    · rw [hm_w_ne (by decide), hm_w_ne (by decide), hm_w_o (by omega)]
    · rw [hm_w_ne (by decide), hm_w_o (by omega), hm_w_ne (by decide)]
    · rw [hm_w_o (by omega), hm_w_ne (by decide), hm_w_ne (by decide)]
  have A6 : g3 313 = g 313 := by rw [← hg3, hm_w_ne (by decide), hm_w_ne (by decide), hm_w_ne (by decide)]
  rw [e0]
  refine Tq.bv ((q_en32 hD 20 0 hs_N g3 (by omega) (by unfold hs_N; omega) (by rw [w3]; exact x3)).mono fun q hq => ?_)
  have B1 : q 285 = g 285 := (hq 285 (by decide)).trans w3
  rw [B1, x3, nI_1]
  refine Tq.some ⟨⟨⟨?_, ?_, ?_, ?_, ?_, x6, ?_, ?_⟩, ?_, ?_, ?_, ?_, ?_⟩, ?_⟩
  · exact ((x1.trans A4).trans (hq.mono (by decide))).w (by decide)
  · refine Fo.w (fun j hj => ?_) (by decide)
    rw [B1]; exact x2 j hj
  · rw [hm_w_eq]
  · omega
  · rw [hm_w_o (by decide), B1]; exact x5
  · intro a ha
    rw [hm_w_ne (by decide), hq 313 (by decide), A6]; exact x7 a ha
  · intro f hf2
    obtain ⟨y1, y2, y3⟩ := A5 f (by omega)
    refine (hf f (by omega)).mono ?_ ?_ ?_
    · rw [hm_w_ne (by decide), hq 315 (by decide)]; exact y1
    · rw [hm_w_ne (by decide), hq 316 (by decide)]; exact y2
    · rw [hm_w_ne (by decide), hq 317 (by decide)]; exact y3
  · rw [hm_w_ne (by decide), hq 315 (by decide)]; exact A1
  · rw [hm_w_ne (by decide), hq 316 (by decide)]; exact A2
  · rw [hm_w_ne (by decide), hq 317 (by decide)]; exact A3
  · rw [hm_w_o (by decide), B1]
  · rw [hm_w_o (by decide), B1]
  · intro f hf2
    rw [hm_w_ne (by decide), hq 317 (by decide)]; exact (A5 f hf2).2.2
theorem s_WB.start {g0 : hm} {N o : Nat} {p l n h P : Nat → Nat} {c R : Nat → Nat → Nat} (hW : s_WB g0 N p l n h c R P) (ho : o < N) : ∃ rk, rk ≤ 2 ∧ s_Gd g0 N p n h c R P rk o 0 0 := by
  obtain ⟨b, far, S, q⟩ := (hW.2.2.2 o ho).1.q
  obtain ⟨-, -, hl, hM, hD⟩ := hW.2.1.2.2 o ho
  have x : s_Cx g0 N p n h c R P o b far S 0 0 0 := ⟨ho, q, s_B_0 _, hM.1, Or.inl ⟨rfl, rfl⟩⟩
  have := x.to
  rw [q.1.1] at this
  exact this
theorem s_K.c50 {g0 : hm} {Q : Nat → Nat → Nat → Prop} {F st m x d o pm e : Nat} (ho : o < 8) (hpm : pm ≤ 4) (hp : g0 287 o = nI pm) (he : e ≤ 20) : ∀ (r i f : Nat) (g : hm), i + r = pm → r < f → s_K g0 Q g (F + 1) st m x d → g 317 F = nI e → Tq (nlX12_calls_50 f (nI o) (nI F) (nI i) g) (fun q => s_K g0 Q q (F + 1) st m x d)
  | r, i, 0, g, _, hf, _, _ => absurd hf (Nat.not_lt_zero _)
  | 0, i, f + 1, g, hi, _, k, _ => by
    have a : g 287 o = nI pm := by rw [k.1.1 287 (by decide)]; exact hp
    rw [nlX12_calls_50, if_pos (hin ho (by decide)), cl (show o < 2147483648 by omega), a, if_pos ((lei (by omega) (by omega)).mpr (by omega))]
    exact Tq.some k
  | r + 1, i, f + 1, g, hi, hf, k, h3 => by
    have a : g 287 o = nI pm := by rw [k.1.1 287 (by decide)]; exact hp
    have hF := k.d20.1
    have e1 : (24 : Int32) * nI F + nI e + nI i = nI (24 * F + e + i) := by rw [show (24 : Int32) * nI F + nI e = nI (24 * F + e) from ix 24 F e, nI_add]
    have e2 : nI (F + 1 + 1) - (1 : Int32) = nI (F + 1) := nI_pred _
    have e3 : (20 : Int32) * nI (F + 1) + nI i = nI (20 * (F + 1) + i) := ix 20 (F + 1) i
    rw [nlX12_calls_50, if_pos (hin ho (by decide)), cl (show o < 2147483648 by omega), a, if_neg (fun q => absurd ((lei (by omega) (by omega)).mp q) (by omega)), if_pos (hin (show F < 60 by omega) (by decide)), cl (show F < 2147483648 by omega), h3, e1, if_pos (hin (show 24 * F + e + i < 1440 by omega) (by decide)), k.1.2.2.1, e2, e3, if_pos (hin (show 20 * (F + 1) + i < 1200 by omega) (by decide)), hm_bv_s, nI_1]
    exact s_K.c50 ho hpm hp he r (i + 1) f _ (by omega) (by omega) (k.w1 (by decide)) (by rw [hm_w_ne (by decide)]; exact h3)
/-- calls() -/
theorem s_K.calls {g0 g : hm} {N m j t d0 F st : Nat} {p l n h P S : Nat → Nat} {c R : Nat → Nat → Nat} {b far : Nat → Bool} (hW : s_WB g0 N p l n h c R P) (x : s_Cx g0 N p n h c R P m b far S j t d0) (hc : c m j = 184) (k : s_K g0 (s_Sd g0 N p n h c R P) g F (st + 1) m (S j + s_pl P (c m) (n m) b true j) d0) (rk : Nat) : Tq (nX12_calls g) (fun q => s_Ou g0 N p n h c R P q st rk) := by
  have hF := k.d20.1
  obtain ⟨o1, o2, o3, o4, o5⟩ := x.dk hW
  have ho := o3.2.2.2.1 hc
  have hm8 := x.1
  have hJ : ¬ s_isJ (c m j) = true := by rw [hc]; decide
  have hsz : s_sz (c m j) = 2 := by rw [hc]; decide
  obtain ⟨y1, y2, y3⟩ := x.main hW hJ (i := 1) (by omega)
  have hcode : nX12_codeAt (1 : Int32) g = some (g0 304 (4001 * m + (S j + s_pl P (c m) (n m) b true j + 1)), g) := k.code (by omega) (i := 1) (by omega)
  have e1 : nI (F + 1) - (1 : Int32) = nI F := nI_pred F
  obtain ⟨hp1, hp2, -⟩ := hW.1 (c m (j + 1)) ho
  have hp4 := (hW.2.1.2.2 (c m (j + 1)) ho).1
  have htq : p (c m (j + 1)) ≤ d0 := by
    have := o1.1
    unfold s_tq at this
    rw [if_pos hc] at this
    exact this
  unfold nX12_calls
  by_cases c1 : F + 1 = 60
  · have u : g 285 40 = (60 : Int32) := by rw [k.1.2.2.1, c1]; rfl
    rw [if_pos u]
    exact ⟨_, rfl, (k.stop).ou st rk⟩
  have u : ¬ g 285 40 = (60 : Int32) := fun q => c1 ((eqi (b := 60) (by omega) (by decide)).mp (k.1.2.2.1.symm.trans q))
  have a287 : g 287 (c m (j + 1)) = nI (p (c m (j + 1))) := by rw [k.1.1 287 (by decide)]; exact hp1
  rw [if_neg u, hcode, hm_bd_s, y1, k.1.2.2.1, e1, if_pos (hin hF (by decide)), if_pos (hin (show c m (j + 1) < 8 by omega) (by decide)), hm_bv_s, cl (show F < 2147483648 by omega), cl (show c m (j + 1) < 2147483648 by omega), k.2.2.2.1, a287, pk_sub htq]
  have k2 := k.dp (d0 - p (c m (j + 1)))
  generalize hm_w g 317 F (nI (d0 - p (c m (j + 1)))) = g2 at k2
  have hfr : ∀ f, f < F + 1 → s_fr g2 f (s_Sd g0 N p n h c R P) := by
    intro f hf
    by_cases e : f = F
    · subst e
      exact ⟨m, _, _, k2.2.1, k2.2.2.1, k2.2.2.2.1, hm8, b, far, S, j, t, d0, x.2.1, x.2.2.1, x.2.2.2.1, x.2.2.2.2, hc, rfl, htq, rfl⟩
    · exact k2.1.2.2.2.2.2.2.2 f (by omega)
  refine Tq.bv ((q_enter (m := c m (j + 1)) k2.1 (by omega) hfr).mono fun q hq => ?_)
  have kq : s_K g0 (s_Sd g0 N p n h c R P) q (F + 1) (st + 1) (c m (j + 1)) 0 0 := ⟨hq.1.1, hq.1.2.1, hq.1.2.2.1, hq.1.2.2.2.1, hq.1.2.2.2.2.1.trans k2.2.2.2.2.1, hq.1.2.2.2.2.2.trans k2.2.2.2.2.2⟩
  have e0 : (0 : Int32) = nI 0 := rfl
  rw [e0]
  refine Tq.bv ((s_K.c50 (pm := p (c m (j + 1))) (e := d0 - p (c m (j + 1))) (by omega) hp4 hp1 (by omega) (p (c m (j + 1))) 0 hs_N q (by omega) (by unfold hs_N; omega) kq (by rw [hq.2 F (by omega)]; exact k2.2.2.2.1)).mono fun q2 hq2 => ?_)
  exact Tq.some (hq2.ou (hW.start ho) rk)
/-- ends() -/
theorem s_K.ends {g0 g : hm} {N m d F st x : Nat} {p l n h P : Nat → Nat} {c R : Nat → Nat → Nat} (hW : s_WB g0 N p l n h c R P) (hd : d ≤ 20) (k : s_K g0 (s_Sd g0 N p n h c R P) g F (st + 1) m x (d + 1)) (rk : Nat) : Tq (nX12_ends g) (fun q => s_Ou g0 N p n h c R P q st rk) := by
  obtain ⟨v, g1, e1, k1⟩ := k.pop (by omega)
  have hF := k1.d20.1
  have e2 : nI (F + 1) - (1 : Int32) = nI F := nI_pred F
  unfold nX12_ends
  rw [e1, hm_bd_s, k1.1.2.2.1, e2, hm_w_eq]
  have r1 := k1.1.less
  have r5 : hm_w g1 285 40 (nI F) 285 47 = 0 := by rw [hm_w_o (by decide)]; exact k1.2.2.2.2.1
  have r6 : hm_w g1 285 40 (nI F) 285 46 = 0 := by rw [hm_w_o (by decide)]; exact k1.2.2.2.2.2
  have r8 : ∀ f, f < F → s_fr (hm_w g1 285 40 (nI F)) f (s_Sd g0 N p n h c R P) := fun f hf => (k1.1.2.2.2.2.2.2.2 f (by omega)).mono (by rw [hm_w_ne (by decide)]) (by rw [hm_w_ne (by decide)]) (by rw [hm_w_ne (by decide)])
  generalize hm_w g1 285 40 (nI F) = g2 at r1 r5 r6 r8
  by_cases c0 : F = 0
  · have u : nI F = 0 := by rw [c0]; rfl
    rw [if_pos u]
    refine ⟨_, rfl, Or.inl ⟨?_, ?_, F, st + 1, r1.w3 (by decide), Or.inl c0⟩⟩
    · rw [hm_w_o (by decide)]; exact r5
    · rw [hm_w_o (by decide)]; exact r6
  · obtain ⟨G, rfl⟩ : ∃ G, F = G + 1 := ⟨F - 1, by omega⟩
    have u : ¬ nI (G + 1) = 0 := fun q => c0 ((eqi (b := 0) (by omega) (by decide)).mp q)
    have e3 : nI (G + 1) - (1 : Int32) = nI G := nI_pred G
    obtain ⟨m', x', d', f1, f2, f3, q1, b, far, S, j, t, d0, q2, q3, q4, q5, q6, q7, q8, q9⟩ := r8 G (by omega)
    have hx : s_Cx g0 N p n h c R P m' b far S j t d0 := ⟨q1, q2, q3, q4, q5⟩
    have k2 : s_K g0 (s_Sd g0 N p n h c R P) g2 G (st + 1) m' x' d' := ⟨r1, f1, f2, f3, r5, r6⟩
    have e4 : nI x' + (2 : Int32) = nI (x' + 2) := nI_add x' 2
    rw [if_neg u, e3, if_pos (hin (show G < 60 by omega) (by decide)), cl (show G < 2147483648 by omega), f2, e4, hm_bv_s]
    have hd0 := (hx.dk hW).2.1
    obtain ⟨g3, e5, k3⟩ := (k2.at (x' + 2)).push (by omega) v
    rw [e5, hm_bv_s]
    have hJ : ¬ s_isJ (c m' j) = true := by rw [q6]; decide
    have hsz : s_sz (c m' j) = 2 := by rw [q6]; decide
    have hS := (hx.S4 hW).2.1
    rw [s_ln_n hJ, hsz] at hS
    have hn := hx.next hW (by rw [q6]; decide)
    rw [hsz] at hn
    have hd2 : s_d2 (c m') p j d0 = d' + 1 := by
      unfold s_d2 s_tq
      rw [if_pos q6, q6, q9]
      rfl
    have hg := hn.to
    rw [hS, hd2, ← q7] at hg
    exact Tq.some (k3.ou hg rk)
