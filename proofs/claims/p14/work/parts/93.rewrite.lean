/-! THE CLASS BETWEEN TWO CALLS, EXACTLY -/
def isF (A : Nat) : Prop := A = 1 ∨ A = 23 ∨ A = 45
theorem isF.s {A : Nat} (h : isF A) : isS A := by
  rcases h with h | h | h
  · exact Or.inl h
  · exact Or.inr (Or.inl h)
  · exact Or.inr (Or.inr (Or.inl h))
theorem isS_67 : isS 67 := Or.inr (Or.inr (Or.inr rfl))
/-- how all lies -/
def RX (R : Nat → Nat → Nat) : Prop := CO R ∧ (∀ A, isS A → SF R A) ∧ DR R ∧ LR R ∧ R 91 0 = 93 ∧ R 0 3 = 68 ∧ R 0 4 = 90 ∧ R 0 5 = 92 ∧ R 0 6 = 96 ∧ ∀ j, j < 3 → isF (R 0 j - 1)
theorem s_AC.mt {u : Nat → Nat} {t m : Nat} (h : s_AC u t) (hm0 : m < u 0) : s_Mt (s_n u (s_off u m)) (u (s_off u m + 1)) (u 0) (s_h u (s_off u m)) (s_c u (s_off u m)) (s_R u (s_off u m)) := (h.v.2.2 m hm0).2.2.2.1
/-- the FILE in the set at A is that of the bytes u -/
def cF (s : hs_S) (A : Nat) (u : Nat → Nat) : Prop := hs_I s A 4 = nI (u 0) ∧ ∀ j, j < u 0 → MV s A j u (s_off u j) ∧ dep s A u j
theorem cF.fr {s q : hs_S} {A : Nat} {u : Nat → Nat} (h : cF s A u) (hA : isS A) (hN : u 0 ≤ 8) (hR : SF (hs_R s) A) (hRe : hs_R q = hs_R s) (hb : ∀ b, A ≤ b → b < A + 22 → hs_I q b = hs_I s b) : cF q A u := by
  refine ⟨by rw [hb A (Nat.le_refl _) (by omega)]; exact h.1, fun j hj => ?_⟩
  obtain ⟨h1, D, h2, h3⟩ := h.2 j hj
  refine ⟨h1.fr hRe (by rw [(hR.2.2.2.2 j (by omega)).2.1]; rfl) (fun i _ => by rw [hb _ (by omega) (by omega)]) (hb _ (by omega) (by omega)) (fun i _ _ => by rw [hb _ (by omega) (by omega)]), D, h2, by rw [hb _ (by omega) (by omega)]; exact h3⟩
theorem x_cb4 {s : hs_S} {A N : Nat} {k : Nat → Nat} (w : WT s) (hA : isS A) (hR : SF (hs_R s) A) (hN : N ≤ 8) (h4 : hs_I s A 4 = nI N) (h3 : ∀ j, j < N → hs_I s (A + 6 + 2 * j) 3 = nI (k j)) : ∀ (d m f : Nat), m + d = N → d < f → lX0_codeBytes_4 f A (nI (s_to k m)) (nI m) s = some (nI (s_to k N), s)
  | d, m, 0, _, hf => absurd hf (Nat.not_lt_zero _)
  | 0, m, f + 1, hm0, _ => by
    rw [lX0_codeBytes_4, if_pos (w.k (sk hA).1), h4, if_pos ((lei (by omega) (by omega)).mpr (by omega)), show m = N by omega]
  | d + 1, m, f + 1, hm0, hf => by
    have k6 := ((sk hA).2.2.2.2.2 m (by omega)).1
    rw [lX0_codeBytes_4, if_pos (w.k (sk hA).1), h4, if_neg (fun z => absurd ((lei (by omega) (by omega)).mp z) (by omega)), x_mth w hA hR (by omega), hs_bd_s, if_pos (w.k k6), h3 m (by omega), nI_add, nI_1]
    exact x_cb4 w hA hR hN h4 h3 d (m + 1) f (by omega) (by omega)
theorem x_codeBytes {s : hs_S} {A N : Nat} {k : Nat → Nat} (w : WT s) (hA : isS A) (hR : SF (hs_R s) A) (hN : N ≤ 8) (h4 : hs_I s A 4 = nI N) (h3 : ∀ j, j < N → hs_I s (A + 6 + 2 * j) 3 = nI (k j)) : fX0_codeBytes A s = some (nI (s_to k N), s) := by
  unfold fX0_codeBytes
  have h := x_cb4 w hA hR hN h4 h3 N 0 hs_N (by omega) (by unfold hs_N; omega)
  have h' : lX0_codeBytes_4 hs_N A (0 : Int32) (0 : Int32) s = some (nI (s_to k N), s) := h
  rw [h', hs_bd_s]
/-- method m of the FILE is laid out -/
theorem x_planM {s : hs_S} {A m t : Nat} {u P : Nat → Nat} {pd : Bool} (w : WT s) (hX : RX (hs_R s)) (hA : isF A) (hac : s_AC u t) (hm0 : m < u 0) (hmv : MV s A m u (s_off u m)) (hP : pP s P) (hP1 : ∀ k, k < 256 → P k ≤ 1000) :
    Tq (fX5_plan 95 (A + 6 + 2 * m) 89 (s_bI pd) s) (fun q => yF s q.2 ∧ ∃ e far S, mv s (A + 6 + 2 * m) (s_off u m + 4) (s_n u (s_off u m)) e ∧ cl1 (s_c u (s_off u m)) e (s_n u (s_off u m)) (s_bl (s_c u (s_off u m)) (s_n u (s_off u m)) (s_h u (s_off u m)) (s_R u (s_off u m))) ∧ hs_I s (A + 6 + 2 * m) 7 = nI (s_ct (fun i => eK (e i)) (s_n u (s_off u m))) ∧ q.1 = nI (S (s_n u (s_off u m))) ∧ lyS q.2 (A + 6 + 2 * m) (s_off u m + 4) (s_n u (s_off u m)) e P (s_c u (s_off u m)) far pd ∧ lyC (s_n u (s_off u m)) (u (s_off u m + 1)) (u 0) e P (s_c u (s_off u m)) ∧ plS q.2 (s_n u (s_off u m)) (s_c u (s_off u m)) S ∧ s_Lo (s_c u (s_off u m)) (s_pl P (s_c u (s_off u m)) (s_n u (s_off u m)) (fun i => eK (e i)) pd) (s_n u (s_off u m)) far S ∧ lyP (s_c u (s_off u m)) (s_pl P (s_c u (s_off u m)) (s_n u (s_off u m)) (fun i => eK (e i)) pd) (s_n u (s_off u m)) far S ∧ wyS q.2 (s_n u (s_off u m)) (s_c u (s_off u m)) (s_pl P (s_c u (s_off u m)) (s_n u (s_off u m)) (fun i => eK (e i)) pd) S) := by
  have M := hac.mt hm0
  have hN8 := hac.2.2.1
  have hA67 : A < 46 := by rcases hA with h | h | h <;> omega
  obtain ⟨e, v, hcl, h7⟩ := hmv.2.2.2.2.2.2
  have hrow : hs_R s (A + 6 + 2 * m) 0 - 1 = A + 5 := by rw [((hX.2.1 A hA.s).2.2.2.2 m (by omega)).2.1]; rfl
  refine (x_plan (P := P) (pd := pd) M.2.1 M.1 hcl (fun i hi hb => s_bl_B M hi hb) M.2.2.2.2.1 M.2.2.2.2.2.2 hP1 (by omega) w hX.2.2.2.1 v (by rw [hrow]; omega) hP).mono fun q hq => ?_
  obtain ⟨q1, far, S, q2, q3, q4, q5, q6, q7⟩ := hq
  exact ⟨q1, e, far, S, v, hcl, h7, q2, q3, ⟨M.2.1, M.2.2.2.2.1, fun i hi => ⟨(hcl i hi).1, (hcl i hi).2.1⟩, hP1⟩, q4, q5, q6, q7⟩
/-- method z of what is rewritten, at a, of k bytes -/
def wM (s : hs_S) (z a k p l n h : Nat) (c R P : Nat → Nat) : Prop := ∃ (e : Nat → Nat) (far : Nat → Bool) (S : Nat → Nat), cl1 c e n (s_bl c n h R) ∧ s_Lo c (s_pl P c n (fun i => eK (e i)) true) n far S ∧ S n = k ∧
  (∀ j, s_B c j → j < n → ∀ o, o < s_pl P c n (fun i => eK (e i)) true j + s_ln c far j → hs_I s 72 (a + (S j + o)) = nI (s_em P c n (fun i => eK (e i)) true far S j o)) ∧
  hs_I s (73 + 2 * z) 2 = nI a ∧ hs_I s (73 + 2 * z) 3 = nI k ∧ hs_I s (73 + 2 * z) 4 = nI p ∧ hs_I s (73 + 2 * z) 5 = nI l ∧ hs_I s (73 + 2 * z) 6 = nI h ∧ hs_I s (73 + 2 * z) 7 = nI (s_ct (fun i => eK (e i)) n) ∧ hs_I s (73 + 2 * z) 8 = nI (lks (fun i => eB (e i)) (lbk c far) n 0) ∧ hs_I s (73 + 2 * z) 9 = nI (lks (fun i => eB (e i)) (ljk c far) n 0) ∧ hs_I s (73 + 2 * z) 10 = 0 ∧
  ∀ q, q < h → (∀ i, i < 3 → hs_I s (74 + 2 * z) (4 * q + i) = nI (S (R (4 * q + i)))) ∧ hs_I s (74 + 2 * z) (4 * q + 3) = nI (R (4 * q + 3))
theorem wM.fr {s q : hs_S} {z a k p l n h N : Nat} {c R P : Nat → Nat} (x : wM s z a k p l n h c R P) (hM : s_Mt n l N h c R) (h1 : ∀ i, i < a + k → hs_I q 72 i = hs_I s 72 i) (h2 : hs_I q (73 + 2 * z) = hs_I s (73 + 2 * z)) (h3 : hs_I q (74 + 2 * z) = hs_I s (74 + 2 * z)) : wM q z a k p l n h c R P := by
  obtain ⟨e, far, S, x1, x2, x3, x4, x5⟩ := x
  unfold wM
  rw [h2, h3]
  refine ⟨e, far, S, x1, x2, x3, fun j j1 j2 o ho => ?_, x5⟩
  have lt := x2.lt hM.2.2.2.2.1 j1 j2 ho
  rw [h1 _ (by omega)]
  exact x4 j j1 j2 o ho
/-- only what is rewritten and the layout's cells are changed -/
def rwF (s q : hs_S) : Prop := hs_R q = hs_R s ∧ ∀ b, (b < 67 ∨ (89 ≤ b ∧ b < 95) ∨ 100 ≤ b) → hs_I q b = hs_I s b
theorem rwF.tr {s q r : hs_S} (h : rwF s q) (h' : rwF q r) : rwF s r := ⟨h'.1.trans h.1, fun b hb => (h'.2 b hb).trans (h.2 b hb)⟩
def wMu (s : hs_S) (z a k : Nat) (u P : Nat → Nat) : Prop := wM s z a k (u (s_off u z)) (u (s_off u z + 1)) (s_n u (s_off u z)) (s_h u (s_off u z)) (s_c u (s_off u z)) (s_R u (s_off u z)) P
theorem wMu.lo {s : hs_S} {z a k : Nat} {u P : Nat → Nat} (h : wMu s z a k u P) : LoN P u true z k := by
  obtain ⟨e, far, S, x1, x2, x3, -⟩ := h
  exact ⟨fun i => eK (e i), far, S, fun i hi => (x1 i hi).2.2, x2, x3⟩
theorem gm_n_72 : gm_n 72 = 32000 := by decide +kernel
theorem x_rw22 {A t : Nat} {u P : Nat → Nat} (hA : isF A) (hac : s_AC u t) (hP1 : ∀ k, k < 256 → P k ≤ 1000) : ∀ (d m f tot : Nat) (s : hs_S), m + d = u 0 → d < f → WT s → RX (hs_R s) → hs_R s 0 1 = A + 1 → cF s A u → pP s P → hs_I s 67 3 = nI tot → tot ≤ 4000 * m → (∀ z, z < m → ∃ a k, wMu s z a k u P ∧ k ≤ 4000 ∧ a + k ≤ tot) →
    Tq (lX11_rewrite_22 f 0 (nI m) s) (fun q => WT q.2.2 ∧ rwF s q.2.2 ∧ hs_I q.2.2 67 4 = hs_I s 67 4 ∧ ((q.1 = 0 ∧ ∀ z, z < u 0 → ∃ a k, wMu q.2.2 z a k u P ∧ k ≤ 4000 ∧ a + k ≤ 32000) ∨ (q.1 = 1 ∧ ∃ m', q.2.1 = nI m' ∧ m' < u 0 ∧ (∀ z, z < m' → ∃ k, LoN P u true z k ∧ k ≤ 4000) ∧ ∃ k, LoN P u true m' k ∧ 4000 < k)))
  | d, m, 0, tot, s, _, hf, _, _, _, _, _, _, _, _ => absurd hf (Nat.not_lt_zero _)
  | 0, m, f + 1, tot, s, hm0, _, w, hX, r1, hF, hP, h3, ht, hW => by
    have hN8 := hac.2.2.1
    have r1' : hs_R s 0 1 - 1 = A := by rw [r1]; rfl
    have r1n : ¬ hs_R s 0 1 = 0 := by rw [r1]; omega
    rw [lX11_rewrite_22, if_pos (w.k gk_0), if_pos r1n, r1', if_pos (w.k (sk hA.s).1), hF.1, if_pos ((lei (by omega) (by omega)).mpr (by omega))]
    refine Tq.some ⟨w, ⟨rfl, fun _ _ => rfl⟩, rfl, Or.inl ⟨rfl, fun z hz => ?_⟩⟩
    obtain ⟨a, k, x1, x2, x3⟩ := hW z (by omega)
    exact ⟨a, k, x1, x2, by omega⟩
  | d + 1, m, f + 1, tot, s, hm0, hf, w, hX, r1, hF, hP, h3, ht, hW => by
    have hN8 := hac.2.2.1
    have hA67 : A < 46 := by rcases hA with h | h | h <;> omega
    have hmN : m < u 0 := by omega
    have M := hac.mt hmN
    have r1' : hs_R s 0 1 - 1 = A := by rw [r1]; rfl
    have r1n : ¬ hs_R s 0 1 = 0 := by rw [r1]; omega
    obtain ⟨x0, xS, xD, xL, x91, x3, x4, x5, x6, -⟩ := id hX
    have r6' : hs_R s 0 6 - 1 = 95 := by rw [x6]
    have r6n : ¬ hs_R s 0 6 = 0 := by rw [x6]; decide
    have r4' : hs_R s 0 4 - 1 = 89 := by rw [x4]
    have r4n : ¬ hs_R s 0 4 = 0 := by rw [x4]; decide
    have r3' : hs_R s 0 3 - 1 = 67 := by rw [x3]
    have r3n : ¬ hs_R s 0 3 = 0 := by rw [x3]; decide
    have e1 : (1 : Int32) = s_bI true := rfl
    rw [lX11_rewrite_22, if_pos (w.k gk_0), if_pos r1n, r1', if_pos (w.k (sk hA.s).1), hF.1, if_neg (fun z => absurd ((lei (by omega) (by omega)).mp z) (by omega)), if_pos r6n, x_mth w hA.s (xS A hA.s) (by omega), hs_bd_s, if_pos (w.k gk_0), if_pos r4n, r6', if_pos (w.k gk_95.1), r4', e1]
    obtain ⟨⟨r, q⟩, E, yf, e, far, S, v, hcl, h7, q1, L, C, pS, Lo, yP, yW⟩ := x_planM (pd := true) w hX hA hac hmN (hF.2 m hmN).1 hP hP1
    have yf : yF s q := yf
    have q1 : r = nI (S (s_n u (s_off u m))) := q1
    have L : lyS q (A + 6 + 2 * m) (s_off u m + 4) (s_n u (s_off u m)) e P (s_c u (s_off u m)) far true := L
    have wq := L.1
    have hnB := s_chain_n M.2.2.2.2.1 (s_n u (s_off u m)) 0 (by omega) (by omega) (s_B_0 _)
    have hSn := yP.2.2 _ hnB (Nat.le_refl _)
    have lon : LoN P u true m (S (s_n u (s_off u m))) := ⟨fun i => eK (e i), far, S, fun i hi => (hcl i hi).2.2, Lo, rfl⟩
    have rq : rwF s q := ⟨yf.1, fun b hb => yf.2 b (by omega)⟩
    have hXq : RX (hs_R q) := by rw [yf.1]; exact hX
    rw [E, hs_bd_s, q1]
    by_cases c1 : S (s_n u (s_off u m)) ≤ 4000
    rotate_left
    · have u1 : ¬ nI (S (s_n u (s_off u m))) ≤ (4000 : Int32) := fun z => c1 ((lei (b := 4000) (by omega) (by decide)).mp z)
      rw [if_neg u1]
      refine Tq.some ⟨wq, rq, by rw [yf.2 67 (by omega)], Or.inr ⟨rfl, m, rfl, hmN, fun z hz => ?_, _, lon, by omega⟩⟩
      obtain ⟨a, k, y1, y2, y3⟩ := hW z hz
      exact ⟨k, y1.lo, y2⟩
    have u1 : nI (S (s_n u (s_off u m))) ≤ (4000 : Int32) := (lei (b := 4000) (by omega) (by decide)).mpr c1
    have Rq : hs_R q = hs_R s := yf.1
    rw [if_pos u1, if_pos (wq.k gk_0), Rq, if_pos r6n, if_pos r1n, r1', if_pos (wq.k (sk hA.s).1), x_mth wq hA.s (hXq.2.1 A hA.s) (by omega), hs_bd_s, if_pos (wq.k gk_0), Rq, if_pos r3n, r3', if_pos (wq.k (sk isS_67).1), x_mth wq isS_67 (hXq.2.1 67 isS_67) (by omega), hs_bd_s, r6', if_pos (wq.k gk_95.1)]
    have kT := ((sk isS_67).2.2.2.2.2 m (by omega)).1
    have kt := ((sk isS_67).2.2.2.2.2 m (by omega)).2
    have km := ((sk hA.s).2.2.2.2.2 m (by omega)).2
    have hrow : hs_R q (A + 6 + 2 * m) 0 - 1 = A + 5 := by rw [Rq, ((xS A hA.s).2.2.2.2 m (by omega)).2.1]; rfl
    have W : wiS q (A + 6 + 2 * m) (s_off u m + 4) (s_n u (s_off u m)) (u (s_off u m + 1)) (u 0) 67 tot (67 + 6 + 2 * m) e P (s_c u (s_off u m)) S far true := ⟨L, C, yW, yP, M.2.2.2.2.2.2, ⟨wq, isS_67, hXq.2.1 67 isS_67, by rw [yf.2 67 (by omega)]; exact h3, kT⟩, by omega, by omega, by omega, by rw [hrow]; omega, by rw [hrow]; omega⟩
    have mvm := (hF.2 m hmN).1
    obtain ⟨q2, E2, W2⟩ := x_write (tm := A + 7 + 2 * m) (tt := 67 + 7 + 2 * m) (h := s_h u (s_off u m)) (R := s_R u (s_off u m)) W pS (by rw [gm_n_72]; omega) M.2.2.2.1 (by rw [yf.2 _ (by omega)]; exact mvm.2.2.1) (by rw [Rq, ((xS A hA.s).2.2.2.2 m (by omega)).2.2]; omega) (by rw [Rq, ((xS 67 isS_67).2.2.2.2 m (by omega)).2.2]; omega) km.1 km.2 ⟨kt.1, by omega, by omega⟩ kt.2 (by omega) (by omega) (by omega) (by omega) (fun z hz => by rw [yf.2 _ (by omega)]; exact mvm.2.2.2.2.2.1 z hz) (fun z hz i hi => M.r3 hz hi)
    obtain ⟨b1, b2, b3, b4, b5, b6, b7, b8, b9, b10, b11, b12, b13, b14, b15, b16, b17⟩ := W2
    rw [E2]
    show Tq (lX11_rewrite_22 f 0 (nI m + (1 : Int32)) q2) _
    rw [nI_1]
    have rq2 : rwF s q2 := ⟨b1.trans Rq, fun b hb => by rw [b3 b (by omega) (by omega) (by omega) (by omega) (by omega)]; exact rq.2 b hb⟩
    have new : wMu q2 m tot (S (s_n u (s_off u m))) u P := by
      refine ⟨e, far, S, hcl, Lo, rfl, b7, b8, b9, ?_, ?_, b12, ?_, b14, b15, b16, b17⟩
      · have := b10
        rw [yf.2 _ (by omega), mvm.1] at this
        exact this
      · have := b11
        rw [yf.2 _ (by omega), mvm.2.1] at this
        exact this
      · have := b13
        rw [yf.2 _ (by omega), h7] at this
        exact this
    refine (x_rw22 hA hac hP1 d (m + 1) f (tot + S (s_n u (s_off u m))) q2 (by omega) (by omega) b2 (by rw [rq2.1]; exact hX) (by rw [rq2.1]; exact r1) (hF.fr hA.s hN8 (xS A hA.s) rq2.1 (fun b h1 h2 => rq2.2 b (by omega))) (fun k hk => by rw [rq2.2 90 (by omega)]; exact hP k hk) b5 (by omega) (fun z hz => ?_)).mono fun z hz => ⟨hz.1, rq2.tr hz.2.1, by rw [hz.2.2.1, b4 4 (by decide), yf.2 67 (by omega)], hz.2.2.2⟩
    by_cases ez : z = m
    · subst ez
      exact ⟨tot, _, new, c1, Nat.le_refl _⟩
    · obtain ⟨a, k, y1, y2, y3⟩ := hW z (by omega)
      have Mz := hac.mt (show z < u 0 by omega)
      refine ⟨a, k, wM.fr y1 Mz (fun i hi => by rw [b6 i (by omega), yf.2 72 (by omega)]) ?_ ?_, y2, by omega⟩
      · rw [b3 _ (by omega) (by omega) (by omega) (by omega) (by omega), yf.2 _ (by omega)]
      · rw [b3 _ (by omega) (by omega) (by omega) (by omega) (by omega), yf.2 _ (by omega)]
