/-! load, unwrite, clear, price -/
theorem cC.tr {g q r : hs_S} (h : cC g q) (h' : cC q r) : cC g r := ⟨h'.1, fun a ha => (h'.2.1 a ha).trans (h.2.1 a ha), h'.2.2.trans h.2.2⟩
theorem z_tape0 {g : hs_S} (h : CJ g) : ∃ q, fX0_empty (hs_R g 0 0 - 1) g = some q ∧ cC g q ∧ hs_I q 90 = hs_I g 90 ∧ tU q = 0 := by
  obtain ⟨f1, f2⟩ := h.1.f9_0 gk_0
  obtain ⟨q, e, w, u⟩ := zfX0_empty (s := hs_R g 0 0 - 1) (b := true) h.1 f2 rfl
  obtain ⟨x1, x2, -⟩ := u.cj h w
  refine ⟨q, e, x1, x2, ?_⟩
  unfold fX0_empty at e
  rw [if_pos (h.1.k f2)] at e
  have e2 := Option.some.inj e
  rw [← e2]
  show hs_I (hs_wI (hs_wI g (hs_R g 0 0 - 1) 3 0) (hs_R g 0 0 - 1) 4 0) (hs_R g 0 0 - 1) 3 = 0
  rw [hs_I_w, if_pos rfl, if_neg (by decide), hs_I_w, if_pos rfl, if_pos rfl]
theorem z_load42 {g : hs_S} (h : CJ g) (v1 : Int32) : Tq (jX11_load_42 0 v1 g) (fun q => cC g q.2 ∧ hs_I q.2 90 = hs_I g 90 ∧ tU q.2 = 0) := by
  obtain ⟨f1, f2⟩ := h.1.f9_0 gk_0
  unfold jX11_load_42
  refine Tq.ck (h.1.k gk_0) (Tq.ck f1 (Tq.ck (h.1.k f2) ?_))
  obtain ⟨q, e, x1, x2, x3⟩ := z_tape0 h
  rw [e]
  show Tq (if v1 = (-1 : Int32) then _ else _) _
  refine Tq.br (fun _ => ?_) (fun _ => Tq.some ⟨x1, x2, x3⟩)
  obtain ⟨f3, f4⟩ := x1.1.1.f9_1 gk_0
  exact Tq.ck (x1.1.1.k gk_0) (Tq.ck f3 (Tq.ck (x1.1.1.k f4) (Tq.some ⟨x1, x2, x3⟩)))
theorem z_load {g : hs_S} (h : CJ g) : Tq (fX11_load 0 g) (fun q => cC g q.2 ∧ hs_I q.2 90 = hs_I g 90 ∧ tU q.2 = 0) := by
  obtain ⟨f1, f2⟩ := h.1.f9_0 gk_0
  obtain ⟨f3, f4⟩ := h.1.f9_5 gk_0
  unfold fX11_load
  refine Tq.ck (h.1.k gk_0) (Tq.ck f3 (Tq.ck f1 (Tq.ck (h.1.k f4) (Tq.cst (zfX2_firstWrong (s := 999) h.1 f4 f2) fun r g5 w5 u5 _ => ?_))))
  obtain ⟨x1, x2, -⟩ := u5.cj h w5
  have fin : ∀ (q : hs_S), cC g q → hs_I q 90 = hs_I g 90 → Tq (jX11_load_42 0 r q) (fun q => cC g q.2 ∧ hs_I q.2 90 = hs_I g 90 ∧ tU q.2 = 0) := fun q y1 y2 =>
    (z_load42 y1.1 r).mono fun z hz => ⟨y1.tr hz.1, hz.2.1.trans y2, hz.2.2⟩
  refine Tq.br (fun _ => ?_) (fun _ => fin g5 x1 x2)
  have h5 := x1.1
  obtain ⟨a1, a2⟩ := h5.1.f9_1 gk_0
  obtain ⟨b1, b2⟩ := h5.1.f9_0 gk_0
  obtain ⟨s1, s2, s3, s4, s5⟩ := h5.swap (i := 1) (j := 0) (by decide) (by decide) (by decide)
  have i5 : hs_I (hs_wR (hs_wR g5 0 1 (hs_R g5 0 0 - 1)) 0 0 (hs_R g5 0 1 - 1)) = hs_I g5 := rfl
  refine Tq.ck (h5.1.k gk_0) (Tq.ck a1 (Tq.ck b1 ?_))
  generalize hs_wR (hs_wR g5 0 1 (hs_R g5 0 0 - 1)) 0 0 (hs_R g5 0 1 - 1) = g6 at s1 s2 s3 s4 s5 i5
  obtain ⟨c1, c2⟩ := s1.1.f9_3 gk_0
  refine Tq.ck c1 (Tq.ck (s1.1.k c2) (Tq.csv (zfX0_empty (s := hs_R g6 0 3 - 1) (b := true) s1.1 c2 rfl) fun g7 w7 u7 => ?_))
  obtain ⟨y1, y2, -⟩ := u7.cj s1 w7
  have c56 : cC g5 g6 := ⟨s1, fun a _ => by rw [i5], s5 285 (by decide)⟩
  exact fin g7 ((x1.tr c56).tr y1) (y2.trans ((congrFun i5 90).trans x2))
theorem z_unwrite {g : hs_S} (h : CJ g) : Tq (fX11_unwrite 0 g) (fun q => cC g q.2 ∧ hs_I q.2 90 = hs_I g 90 ∧ tU q.2 = tU g) := by
  obtain ⟨a1, a2⟩ := h.1.f9_3 gk_0
  obtain ⟨b1, b2⟩ := h.1.f9_2 gk_0
  unfold fX11_unwrite
  refine Tq.ck (h.1.k gk_0) (Tq.ck a1 (Tq.ck (h.1.k a2) (Tq.br (fun _ => Tq.some ⟨⟨h, fun _ _ => rfl, rfl⟩, rfl, rfl⟩) (fun _ => ?_))))
  generalize hS : hs_R g 0 2 - 1 = S at b2
  have k9 : gm_k 0 ≠ 3 := by rw [gk_0]; decide
  refine Tq.ck b1 (Tq.ck (h.1.k b2) (Tq.csv (zfX0_empty (s := S) (b := false) h.1 b2 rfl) fun g6 w6 u6 => ?_))
  have e6 : hs_R g6 0 2 - 1 = S := by rw [u6.2 0 k9]; exact hS
  obtain ⟨c1, c2⟩ := w6.f9_2 gk_0
  obtain ⟨d1, d2⟩ := w6.f9_1 gk_0
  refine Tq.ck (w6.k gk_0) (Tq.ck c1 (Tq.ck d1 (Tq.ck (w6.k d2) (Tq.ck (w6.k c2) (Tq.csv (zfX0_append (s := S) (b := false) w6 c2 e6) fun g14 w14 u14 => ?_)))))
  have e14 : hs_R g14 0 2 - 1 = S := by rw [u14.2 0 k9]; exact e6
  refine Tq.csv (zlX11_unwrite_36 (s := S) hs_N _ _ _ w14 gk_0 e14 (cm_N _)) fun g34 w34 u34 => ?_
  obtain ⟨m1, m2⟩ := w34.f9_5 gk_0
  obtain ⟨n1, n2⟩ := w34.f9_2 gk_0
  refine Tq.ck (w34.k gk_0) (Tq.ck m1 (Tq.ck n1 (Tq.ck (w34.k m2) (Tq.cst (zfX2_firstWrong (s := S) w34 m2 n2) fun r g40 w40 u40 _ => ?_))))
  have u : cU S false g g40 := ((u6.trans u14).trans u34).trans u40
  obtain ⟨x1, x2, x3⟩ := u.cj h w40
  have hT : hs_R g 0 0 - 1 ≠ S := by
    rw [← hS]
    have h1 := (h.1.f9_0 gk_0).1
    have h3 := h.2.2.2.1
    omega
  have x3' := x3 hT
  obtain ⟨p1, p2⟩ := w40.f9_1 gk_0
  obtain ⟨r1, r2⟩ := w40.f9_2 gk_0
  refine Tq.ck (w40.k gk_0) (Tq.ck p1 (Tq.ck r1 ?_))
  obtain ⟨s1, s2, s3, s4, s5⟩ := x1.1.swap (i := 1) (j := 2) (by decide) (by decide) (by decide)
  have i5 : hs_I (hs_wR (hs_wR g40 0 1 (hs_R g40 0 2 - 1)) 0 2 (hs_R g40 0 1 - 1)) = hs_I g40 := rfl
  generalize hs_wR (hs_wR g40 0 1 (hs_R g40 0 2 - 1)) 0 2 (hs_R g40 0 1 - 1) = g41 at s1 s2 s3 s4 s5 i5
  obtain ⟨t1, t2⟩ := s1.1.f9_1 gk_0
  refine Tq.ck t1 (Tq.ck (s1.1.k t2) (Tq.cro (zfX0_codeBytes s1.1 t2) fun r _ => Tq.some ⟨?_, ?_, ?_⟩))
  · exact x1.tr ⟨s1, fun a _ => by rw [i5], s5 285 (by decide)⟩
  · exact (congrFun i5 90).trans x2
  · rw [← x3']
    show hs_I g41 (hs_R g41 0 0 - 1) 3 = hs_I g40 (hs_R g40 0 0 - 1) 3
    rw [i5, s2 0 (by decide) (by decide)]
/-- only the prices are written -/
theorem cA.cj {g q : hs_S} (h : CJ g) (a : cA 90 g q) : cC g q ∧ tU q = tU g := by
  have hT := (ck_lt (h.1.f9_0 gk_0).2 (by decide)).2
  refine ⟨⟨⟨a.1, by rw [a.2.1]; exact h.2.1, by rw [a.2.1]; exact h.2.2⟩, fun b hb => a.2.2 b (by omega), by rw [a.2.1]⟩, ?_⟩
  unfold tU
  rw [a.2.1, a.2.2 _ hT]
/-- fill, exactly -/
theorem yl_fill {v0 N : Nat} (k0 : gm_k v0 = 100) (hN : gm_n v0 = N) {v1 : Int32} {g0 : hs_S} : ∀ (d k n : Nat) (g : hs_S), k + d = N → d < n → cA v0 g0 g → (∀ i, i < k → hs_I g v0 i = v1) → Tq (lJ7_fill_53178_5 n v0 v1 (nI k) (nI N) g) (fun q => cA v0 g0 q ∧ ∀ i, i < N → hs_I q v0 i = v1)
  | d, k, 0, g, _, hn, _, _ => absurd hn (Nat.not_lt_zero _)
  | 0, k, n + 1, g, hk, _, h, hi => by
    have hl := gm_n_lt v0
    rw [lJ7_fill_53178_5, if_pos ((lei (by omega) (by omega)).mpr (by omega))]
    exact Tq.some ⟨h, fun i hi2 => hi i (by omega)⟩
  | d + 1, k, n + 1, g, hk, hn, h, hi => by
    have hl := gm_n_lt v0
    rw [lJ7_fill_53178_5, if_neg (fun q => absurd ((lei (by omega) (by omega)).mp q) (by omega))]
    refine Tq.ck (h.1.k k0) (Tq.ck ?_ ?_)
    · rw [h.1.ln, hN]; exact hin (by omega) (by omega)
    · rw [nI_1, cl (show k < 2147483648 by omega)]
      refine yl_fill k0 hN d (k + 1) n _ (by omega) (by omega) (h.w k0) fun i hi2 => ?_
      rw [hs_I_w, if_pos rfl]
      by_cases e : i = k
      · rw [if_pos e]
      · rw [if_neg e]; exact hi i (by omega)
theorem yf_fill {v0 N : Nat} (k0 : gm_k v0 = 100) (hN : gm_n v0 = N) {v1 : Int32} {g : hs_S} (w : WT g) : Tq (fJ7_fill_53178 v0 v1 g) (fun q => cA v0 g q ∧ ∀ i, i < N → hs_I q v0 i = v1) := by
  unfold fJ7_fill_53178
  have hl := gm_n_lt v0
  refine Tq.ck (w.k k0) ?_
  rw [w.ln, hN]
  obtain ⟨q, e, h⟩ := yl_fill (v1 := v1) (g0 := g) k0 hN N 0 hs_N g (by omega) (by unfold hs_N; omega) ⟨w, rfl, fun _ _ => rfl⟩ (fun i hi => absurd hi (Nat.not_lt_zero _))
  have e' : lJ7_fill_53178_5 hs_N v0 v1 (0 : Int32) (Int32.ofNat N) g = some q := e
  rw [e']
  exact Tq.some h
/-- put, exactly -/
theorem yf_put {g : hs_S} {v0 k : Nat} {v2 : Int32} (w : WT g) (k0 : gm_k v0 = 100) (hk : k < gm_n v0) : fX9_put v0 (nI k) v2 g = some (hs_wI g v0 k v2) := by
  have hl := gm_n_lt v0
  unfold fX9_put
  have u : ¬ Int32.ofNat (gm_n v0) ≤ nI k := fun q => absurd ((lei (a := gm_n v0) (by omega) (by omega)).mp q) (by omega)
  rw [if_neg (nI_pos (by omega)), if_pos (w.k k0), w.ln, if_neg u, if_pos (hin hk (by omega)), cl (show k < 2147483648 by omega)]
theorem yf_at {g : hs_S} {v0 k : Nat} (w : WT g) (k0 : gm_k v0 = 100) (hk : k < gm_n v0) : fX9_at v0 (nI k) g = some (hs_I g v0 k, g) := by
  have hl := gm_n_lt v0
  unfold fX9_at
  have u : ¬ Int32.ofNat (gm_n v0) ≤ nI k := fun q => absurd ((lei (a := gm_n v0) (by omega) (by omega)).mp q) (by omega)
  rw [if_neg (nI_pos (by omega)), if_pos (w.k k0), w.ln, if_neg u, if_pos (hin hk (by omega)), cl (show k < 2147483648 by omega)]
/-- the first prices -/
theorem z_first {g : hs_S} (w : WT g) {v0 : Nat} (k0 : gm_k v0 = 7) : Tq (fX8_becomeFirst v0 g) (fun q => cA 90 g q ∧ ∀ i, i < 256 → hs_I q 90 i = nI (s_p0 i)) := by
  obtain ⟨f1, f2⟩ := w.f7_0 k0
  unfold fX8_becomeFirst
  refine Tq.ck (w.k k0) (Tq.ck f1 ?_)
  rw [f2]
  obtain ⟨q, e, a, ha⟩ := yf_fill (v1 := 1) gm_k_90 gk_90n w
  rw [e]
  have f3 : ¬ hs_R q v0 0 = 0 := by rw [a.2.1]; exact f1
  have f4 : hs_R q v0 0 - 1 = 90 := by rw [a.2.1]; exact f2
  refine Tq.ck (a.1.k k0) (Tq.ck f3 ?_)
  rw [f4]
  have e2 : fX9_put 90 (184 : Int32) (5 : Int32) q = some (hs_wI q 90 184 5) := yf_put (k := 184) a.1 gm_k_90 (by rw [gk_90n]; decide)
  rw [e2]
  refine Tq.some ⟨a.w gm_k_90, fun i hi => ?_⟩
  rw [hs_I_w, if_pos rfl]
  unfold s_p0
  by_cases e : i = 184
  · rw [if_pos e, if_pos e]; rfl
  · rw [if_neg e, if_neg e]; exact ha i hi
theorem z_clear {g : hs_S} (h : CJ g) : Tq (fX11_clear 0 g) (fun q => cC g q ∧ (∀ i, i < 256 → hs_I q 90 i = nI (s_p0 i)) ∧ tU q = 0) := by
  obtain ⟨a1, a2⟩ := h.1.f9_0 gk_0
  unfold fX11_clear
  refine Tq.ck (h.1.k gk_0) (Tq.ck a1 (Tq.ck (h.1.k a2) ?_))
  obtain ⟨g4, e4, x1, x2, x3⟩ := z_tape0 h
  rw [e4]
  obtain ⟨b1, b2⟩ := x1.1.1.f9_1 gk_0
  refine Tq.ck (x1.1.1.k gk_0) (Tq.ck b1 (Tq.ck (x1.1.1.k b2) (Tq.csv (zfX0_empty (s := hs_R g4 0 1 - 1) (b := true) x1.1.1 b2 rfl) fun g10 w10 u10 => ?_)))
  obtain ⟨y1, y2, y3⟩ := u10.cj x1.1 w10
  have y3' : tU g10 = 0 := by
    rw [y3, x3]
    have h1 := (x1.1.1.f9_0 gk_0).1
    have h3 := x1.1.2.2.1
    omega
  obtain ⟨c1, c2⟩ := y1.1.1.f9_3 gk_0
  refine Tq.ck (y1.1.1.k gk_0) (Tq.ck c1 (Tq.ck (y1.1.1.k c2) (Tq.csv (zfX0_empty (s := hs_R g10 0 3 - 1) (b := true) y1.1.1 c2 rfl) fun g16 w16 u16 => ?_)))
  obtain ⟨z1, z2, z3⟩ := u16.cj y1.1 w16
  have z3' : tU g16 = 0 := by
    rw [z3, y3']
    have h1 := (y1.1.1.f9_0 gk_0).1
    have h3 := y1.1.2.2.2.2.2.1
    omega
  obtain ⟨d1, d2⟩ := z1.1.1.f9_4 gk_0
  refine Tq.ck (z1.1.1.k gk_0) (Tq.ck d1 (Tq.ck (z1.1.1.k d2) ?_))
  obtain ⟨g22, e22, v1, v2⟩ := z_first z1.1.1 d2
  rw [e22]
  obtain ⟨q1, q2⟩ := v1.cj z1.1
  obtain ⟨m1, m2⟩ := q1.1.1.f9_7 gk_0
  refine Tq.ck (q1.1.1.k gk_0) (Tq.ck m1 (Tq.ck (q1.1.1.k m2) (Tq.csv (zfX6_forget (s := 999) (b := true) q1.1.1 m2) fun g28 w28 u28 => Tq.some ?_)))
  obtain ⟨n1, n2, n3⟩ := u28.cj q1.1 w28
  refine ⟨(((x1.tr y1).tr z1).tr q1).tr n1, fun i hi => by rw [n2]; exact v2 i hi, ?_⟩
  rw [n3, q2, z3']
  have := (ck_lt (q1.1.1.f9_0 gk_0).2 (by decide)).1
  omega
/-- price(), as far as it concerns the tape -/
theorem z_price0 {g : hs_S} (h : CJ g) (v1 v2 : Int32) : Tq (fX11_price 0 v1 v2 g) (fun q => cC g q.2 ∧ tU q.2 = tU g) := by
  have h0 : cC g g := ⟨h, fun _ _ => rfl, rfl⟩
  obtain ⟨a1, a2⟩ := h.1.f9_4 gk_0
  obtain ⟨f1, f2⟩ := h.1.f7_0 a2
  unfold fX11_price
  refine Tq.cro (zfX4_sizeOf h.1) fun r _ => ?_
  refine Tq.br (fun _ => Tq.some ⟨h0, rfl⟩) (fun _ => Tq.br (fun _ => Tq.some ⟨h0, rfl⟩) (fun _ => Tq.br (fun _ => ?_) (fun _ => Tq.some ⟨h0, rfl⟩)))
  refine Tq.ck (h.1.k gk_0) (Tq.ck a1 (Tq.ck (h.1.k a2) (Tq.cro (zfX8_of h.1 a2) fun r8 _ => ?_)))
  refine Tq.ck (h.1.k gk_0) (Tq.ck a1 (Tq.ck (h.1.k a2) ?_))
  unfold fX8_become
  rw [if_pos (h.1.k a2), if_pos f1, f2]
  obtain ⟨q, e, hq⟩ := xfX9_put (v1 := v1) (v2 := v2) h.1 gm_k_90
  rw [e]
  have hc : cA 90 g q := by
    rcases hq with hq | ⟨i, hq⟩
    · rw [hq]; exact ⟨h.1, rfl, fun _ _ => rfl⟩
    · rw [hq]; exact cA.w gm_k_90 ⟨h.1, rfl, fun _ _ => rfl⟩
  exact Tq.some (hc.cj h)
