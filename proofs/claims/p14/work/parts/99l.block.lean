/-! BLOCK: the two answer alike -/
theorem s_ct_cg {b b' : Nat → Bool} : ∀ n, (∀ i, i < n → b i = b' i) → s_ct b n = s_ct b' n
  | 0, _ => rfl
  | n + 1, h => by
    show s_ct b n + (if b n = true then 1 else 0) = s_ct b' n + (if b' n = true then 1 else 0)
    rw [s_ct_cg n (fun i hi => h i (by omega)), h n (by omega)]
theorem s_ct_inj {b : Nat → Bool} {i j : Nat} (hi : b i = true) (hj : b j = true) (h : s_ct b i = s_ct b j) : i = j := by
  have step : ∀ x y, b x = true → x < y → s_ct b x < s_ct b y := fun x y hx hxy => by
    have h1 := s_ct_mono b (show x + 1 ≤ y by omega)
    have h2 : s_ct b (x + 1) = s_ct b x + (if b x = true then 1 else 0) := rfl
    rw [if_pos hx] at h2
    omega
  by_cases c1 : i < j
  · have := step i j hi c1
    omega
  · by_cases c2 : j < i
    · have := step j i hj c2
      omega
    · omega
theorem s_bok.uq {N : Nat} {n h : Nat → Nat} {c R : Nat → Nat → Nat} {P : Nat → Nat} {a1 a2 a3 r r' : Int32} (hN : N ≤ 8) (hn : ∀ m, m < N → n m ≤ 2000) (x : s_bok N n h c R P a1 a2 a3 r) (y : s_bok N n h c R P a1 a2 a3 r') : r = r' := by
  obtain ⟨m, k, w, i, b, x1, x2, x3, x4, x5, x6, x7, x8, x9, x10, x11⟩ := x
  obtain ⟨m', k', w', i', b', y1, y2, y3, y4, y5, y6, y7, y8, y9, y10, y11⟩ := y
  have e1 : m = m' := (eqi (by omega) (by omega)).mp (x2.symm.trans y2)
  subst e1
  have hm2 := hn m x1
  have l1 := s_ct_le b (n m)
  have l2 := s_ct_le b' (n m)
  have e2 : k = k' := (eqi (by omega) (by omega)).mp (x3.symm.trans y3)
  have e3 : w = w' := (eqi (by omega) (by omega)).mp (x4.symm.trans y4)
  subst e2; subst e3
  have hb : ∀ z, z < n m → b z = b' z := b_uq (fun z hz => x6 z (by omega)) (fun z hz => y6 z (by omega))
  have hi : i = i' := by
    refine s_ct_inj (b := b) x9 (by rw [hb i' y8]; exact y9) ?_
    rw [x10, s_ct_cg i' (fun z hz => hb z (by omega)), y10]
  subst hi
  rw [x11, y11, s_sum_cg hb]
/-- where block k begins -/
theorem x_bb4 {s : hs_S} {M a n k : Nat} {e : Nat → Nat} (w : WT s) (v : mv s M a n e) (hn : n ≤ 32000) : ∀ (d p f : Nat), p + d = n → d < f → s_ct (fun i => eK (e i)) p ≤ k → k < s_ct (fun i => eK (e i)) n → ∃ i, p ≤ i ∧ i < n ∧ eK (e i) = true ∧ s_ct (fun i => eK (e i)) i = k ∧ lX7_blockBegin_4 f M (nI k) (nI (s_ct (fun i => eK (e i)) p)) (nI p) s = some (1, nI i, s)
  | d, p, 0, _, hf, _, _ => absurd hf (Nat.not_lt_zero _)
  | 0, p, f + 1, h1, _, h3, h4 => by
    rw [show p = n by omega] at h3
    omega
  | d + 1, p, f + 1, h1, hf, h3, h4 => by
    have l0 := s_ct_le (fun i => eK (e i)) n
    have l1 := s_ct_le (fun i => eK (e i)) p
    rw [lX7_blockBegin_4, if_pos (w.k v.1), v.2.2.1, if_neg (fun z => absurd ((lei (by omega) (by omega)).mp z) (by omega)), x_blk_in w v (show p < n by omega), hs_bd_s]
    have st : s_ct (fun i => eK (e i)) (p + 1) = s_ct (fun i => eK (e i)) p + (if eK (e p) = true then 1 else 0) := rfl
    by_cases c : eK (e p) = true
    · rw [c]
      rw [if_pos c] at st
      have u : ¬ s_bI true = 0 := by decide
      rw [if_neg u]
      by_cases c2 : s_ct (fun i => eK (e i)) p = k
      · rw [if_pos (by rw [c2])]
        exact ⟨p, Nat.le_refl _, by omega, c, c2, rfl⟩
      · rw [if_neg (fun z => c2 ((eqi (by omega) (by omega)).mp z))]
        unfold jX7_blockBegin_30
        obtain ⟨i, i1, i2, i3, i4, i5⟩ := x_bb4 w v hn d (p + 1) f (by omega) (by omega) (by omega) h4
        refine ⟨i, by omega, i2, i3, i4, ?_⟩
        rw [st] at i5
        show lX7_blockBegin_4 f M (nI k) (nI (s_ct (fun i => eK (e i)) p) + (1 : Int32)) (nI p + (1 : Int32)) s = _
        rw [nI_1, nI_1]
        exact i5
    · have c' : eK (e p) = false := by simpa using c
      rw [c']
      rw [if_neg c] at st
      have u : s_bI false = 0 := by decide
      rw [if_pos u]
      unfold jX7_blockBegin_30
      obtain ⟨i, i1, i2, i3, i4, i5⟩ := x_bb4 w v hn d (p + 1) f (by omega) (by omega) (by omega) h4
      refine ⟨i, by omega, i2, i3, i4, ?_⟩
      rw [st, Nat.add_zero] at i5
      show lX7_blockBegin_4 f M (nI k) (nI (s_ct (fun i => eK (e i)) p)) (nI p + (1 : Int32)) s = _
      rw [nI_1]
      exact i5
theorem x_bb {s : hs_S} {M a n k : Nat} {e : Nat → Nat} (w : WT s) (v : mv s M a n e) (hk : k < s_ct (fun i => eK (e i)) n) : ∃ i, i < n ∧ eK (e i) = true ∧ s_ct (fun i => eK (e i)) i = k ∧ fX7_blockBegin M (nI k) s = some (nI i, s) := by
  have hn := (v.lt w).1
  obtain ⟨i, i1, i2, i3, i4, i5⟩ := x_bb4 (k := k) w v (by omega) n 0 hs_N (by omega) (by unfold hs_N; omega) (Nat.zero_le _) hk
  refine ⟨i, i2, i3, i4, ?_⟩
  unfold fX7_blockBegin
  have i5' : lX7_blockBegin_4 hs_N M (nI k) (0 : Int32) (0 : Int32) s = some (1, nI i, s) := i5
  rw [i5', hs_b3_s, if_neg (by decide)]
/-- block() of the class -/
theorem x_block {s : hs_S} {tu : Nat} {u P : Nat → Nat} (hJ : CJ s) (hX : RX (hs_R s)) (hac : s_AC u tu) (hF : cF s (hs_R s 0 1 - 1) u) (hP : pP s P) (a1 a2 a3 : Int32) :
    ∃ r, fX11_block 0 a1 a2 a3 s = some (r, s) ∧ (s_bok (u 0) (fun m => s_n u (s_off u m)) (fun m => s_h u (s_off u m)) (fun m => s_c u (s_off u m)) (fun m => s_R u (s_off u m)) P a1 a2 a3 r ∨ ((¬ ∃ r, s_bok (u 0) (fun m => s_n u (s_off u m)) (fun m => s_h u (s_off u m)) (fun m => s_c u (s_off u m)) (fun m => s_R u (s_off u m)) P a1 a2 a3 r) ∧ r = -3)) := by
  have w := hJ.1
  have i1 : isF (hs_R s 0 1 - 1) := hX.2.2.2.2.2.2.2.2.2 1 (by decide)
  obtain ⟨f1, f2⟩ := w.f9_1 gk_0
  obtain ⟨g1, g2⟩ := w.f9_4 gk_0
  have r4 : hs_R s 0 4 - 1 = 89 := by rw [hX.2.2.2.2.2.2.1]
  generalize hA : hs_R s 0 1 - 1 = A at i1 hF f2
  have hR := hX.2.1 A i1.s
  have N1 := hac.2.1
  have N8 := hac.2.2.1
  have h4 := hF.1
  have k0 := (sk i1.s).1
  have hN0 : ¬ hs_I s A 4 = 0 := by rw [h4]; exact n0_ne N1 N8
  unfold fX11_block
  rw [if_pos (w.k gk_0), if_pos f1, hA, if_pos (w.k k0), if_neg hN0]
  by_cases c1 : a1 < 0
  · refine ⟨-3, by rw [x_has0 c1, hs_bd_s, if_pos (show (0 : Int32) = 0 from rfl)], Or.inr ⟨?_, rfl⟩⟩
    rintro ⟨r, m, k, w', i, b, x1, x2, -⟩
    rw [x2] at c1
    exact nI_pos (by omega) c1
  obtain ⟨m, hm0, em⟩ := nI_of c1
  subst em
  by_cases c2 : m < u 0
  rotate_left
  · refine ⟨-3, by rw [x_has1 w i1.s h4 N8 hm0 (by omega), hs_bd_s, if_pos (show (0 : Int32) = 0 from rfl)], Or.inr ⟨?_, rfl⟩⟩
    rintro ⟨r, m', k, w', i, b, x1, x2, -⟩
    have := (eqi hm0 (by omega)).mp x2
    omega
  rw [x_has2 w i1.s h4 N8 c2, hs_bd_s, if_neg i1_ne]
  by_cases c3 : a2 < 0
  · refine ⟨-3, by rw [if_pos c3], Or.inr ⟨?_, rfl⟩⟩
    rintro ⟨r, m', k, w', i, b, x1, x2, x3, x4, x5, x6, x7, -⟩
    rw [x3] at c3
    have hm' : m' = m := ((eqi hm0 (by omega)).mp x2).symm
    have l := s_ct_le b (s_n u (s_off u m'))
    have l2 := (hac.mt x1).2.1
    have x7' : k < s_ct b (s_n u (s_off u m')) := x7
    exact nI_pos (by omega) c3
  obtain ⟨k, hk0, ek⟩ := nI_of c3
  subst ek
  obtain ⟨⟨m4, m5, m6, m8, m9, mt, e, v, cl0, m7⟩, -⟩ := hF.2 m c2
  have M := hac.mt c2
  have hn2 := M.2.1
  have lct := s_ct_le (fun i => eK (e i)) (s_n u (s_off u m))
  rw [if_neg c3, if_pos (w.k gk_0), if_pos f1, hA, if_pos (w.k k0), x_mth w i1.s hR (by omega), hs_bd_s, if_pos (w.k v.1), m7]
  have same : ∀ b : Nat → Bool, (∀ i, i ≤ s_n u (s_off u m) → (b i = true ↔ s_bl (s_c u (s_off u m)) (s_n u (s_off u m)) (s_h u (s_off u m)) (s_R u (s_off u m)) i)) → ∀ i, i < s_n u (s_off u m) → b i = eK (e i) := fun b hb => b_uq (fun i hi => hb i (by omega)) (fun i hi => (cl0 i hi).2.2)
  by_cases c5 : k < s_ct (fun i => eK (e i)) (s_n u (s_off u m))
  rotate_left
  · refine ⟨-3, by rw [if_pos ((lei (by omega) hk0).mpr (by omega))], Or.inr ⟨?_, rfl⟩⟩
    rintro ⟨r, m', k', w', i, b, x1, x2, x3, x4, x5, x6, x7, -⟩
    have hm' : m = m' := (eqi hm0 (by omega)).mp x2
    subst hm'
    have l := s_ct_le b (s_n u (s_off u m))
    have x7' : k' < s_ct b (s_n u (s_off u m)) := x7
    have hk' : k = k' := (eqi hk0 (by omega)).mp x3
    rw [s_ct_cg _ (same b x6)] at x7'
    omega
  rw [if_neg (fun z => absurd ((lei (by omega) (by omega)).mp z) (by omega))]
  by_cases c6 : a3 < 0
  · refine ⟨-3, by rw [if_pos c6], Or.inr ⟨?_, rfl⟩⟩
    rintro ⟨r, m', k', w', i, b, x1, x2, x3, x4, x5, -⟩
    rw [x4] at c6
    exact nI_pos (by omega) c6
  obtain ⟨x, hx0, ex⟩ := nI_of c6
  subst ex
  rw [if_neg c6]
  by_cases c7 : x ≤ 1
  rotate_left
  · have c7b : ¬ nI x ≤ (1 : Int32) := fun q => absurd ((lei (b := 1) (by omega) (by decide)).mp q) (by omega)
    refine ⟨-3, by rw [if_neg c7b], Or.inr ⟨?_, rfl⟩⟩
    rintro ⟨r, m', k', w', i, b, x1, x2, x3, x4, x5, -⟩
    have := (eqi hx0 (by omega)).mp x4
    omega
  have c7b : nI x ≤ (1 : Int32) := (lei (b := 1) (by omega) (by decide)).mpr c7
  obtain ⟨i, y1, y2, y3, y4⟩ := x_bb w v c5
  have hBb : ∀ i, i < s_n u (s_off u m) → s_bl (s_c u (s_off u m)) (s_n u (s_off u m)) (s_h u (s_off u m)) (s_R u (s_off u m)) i → s_B (s_c u (s_off u m)) i := fun i hi h => s_bl_B M hi h
  have hB0 := hBb i y1 ((cl0 i y1).2.2.mp y2)
  have xs := x_sum w v cl0 hBb M.2.2.2.2.1 hP y1 hB0
  classical
  have bok : ∀ r, (r = if x = 0 then nI i else nI (s_sum P (s_c u (s_off u m)) (s_n u (s_off u m)) (fun i => eK (e i)) i)) → s_bok (u 0) (fun m => s_n u (s_off u m)) (fun m => s_h u (s_off u m)) (fun m => s_c u (s_off u m)) (fun m => s_R u (s_off u m)) P (nI m) (nI k) (nI x) r := by
    intro r hr
    have hb' : ∀ j, j ≤ s_n u (s_off u m) → ((fun j => decide (s_bl (s_c u (s_off u m)) (s_n u (s_off u m)) (s_h u (s_off u m)) (s_R u (s_off u m)) j)) j = true ↔ s_bl (s_c u (s_off u m)) (s_n u (s_off u m)) (s_h u (s_off u m)) (s_R u (s_off u m)) j) := fun j _ => decide_eq_true_iff
    have sm := same _ hb'
    refine ⟨m, k, x, i, _, c2, rfl, rfl, rfl, c7, hb', ?_, y1, ?_, ?_, ?_⟩
    · rw [s_ct_cg _ sm]; exact c5
    · rw [sm i y1]; exact y2
    · rw [s_ct_cg i (fun j hj => sm j (by omega))]; exact y3
    · rw [hr]
      show _ = if x = 0 then nI i else nI (s_sum P (s_c u (s_off u m)) (s_n u (s_off u m)) _ i)
      rw [s_sum_cg sm]
  rw [if_pos c7b, if_pos (w.k gk_0), if_pos f1, hA, if_pos (w.k k0), x_mth w i1.s hR (by omega), hs_bd_s, if_pos (w.k v.1), y4, hs_bd_s]
  by_cases c8 : x = 0
  · refine ⟨nI i, ?_, Or.inl (bok _ (by rw [if_pos c8]))⟩
    have u0 : nI x = 0 := by rw [c8]; rfl
    rw [if_pos u0]
  · refine ⟨nI (s_sum P (s_c u (s_off u m)) (s_n u (s_off u m)) (fun i => eK (e i)) i), ?_, Or.inl (bok _ (by rw [if_neg c8]))⟩
    have u0 : ¬ nI x = 0 := fun z => c8 ((eqi (b := 0) hx0 (by decide)).mp z)
    rw [if_neg u0, if_pos (w.k gk_0), if_pos f1, hA, if_pos (w.k k0), x_mth w i1.s hR (by omega), hs_bd_s, if_pos (w.k gk_0), if_pos g1, if_pos (w.k v.1), r4, xs, hs_bd_s]
theorem a_blockC {s : hs_S} (h : AG s) (a1 a2 a3 : Int32) : Tq (fX11_block 0 a1 a2 a3 s) (fun q => CJ q.2 ∧ Tq (fX12_block 285 a1 a2 a3 q.2) (fun r => AG r.2 ∧ r.1 = q.1)) := by
  have h0 := h
  obtain ⟨hJ, hr, hX, hno, hT, hp, hF⟩ := h
  have e := tX12_block (hs_R s) hJ.2.1 a1 a2 a3 (hs_I s)
  rw [← hJ.1.gm] at e
  obtain ⟨P, hP⟩ := hr.2.1
  have pP0 : pP s P := fun k hk => by rw [hp k hk]; exact (hP k hk).2
  rcases hF with ⟨x1, x2, x3, x4⟩ | ⟨x1, u, tu, x2, x3, x4, x5, x6, x7⟩
  · have e0 : fX11_block 0 a1 a2 a3 s = some (-2, s) := by
      unfold fX11_block
      rw [if_pos (hJ.1.k gk_0), if_pos (hJ.1.f9_1 gk_0).1, if_pos (hJ.1.k (hJ.1.f9_1 gk_0).2), if_pos x2]
    refine ⟨_, e0, hJ, ?_⟩
    show Tq (fX12_block 285 a1 a2 a3 s) _
    obtain ⟨N, p, l, n, hh, c, R, hV⟩ := hr.fv
    refine (a_rf h0 e ((r_block hr a1 a2 a3).and (q_block hV hP a1 a2 a3)) fun q hq => ⟨hq.1.1, hq.1.2.1, rT.of hq.2.1 (Fo.of hq.2.1 (by decide)) (S := []) (by decide) (by decide) (by decide) (by decide)⟩).mono fun q hq => ⟨hq.1, ?_⟩
    rcases hq.2.2.2 with ⟨-, y⟩ | ⟨y, -⟩
    · exact y
    · exact absurd x1 y
  · obtain ⟨r, e0, hr0⟩ := x_block hJ hX x2 x6 pP0 a1 a2 a3
    refine ⟨_, e0, hJ, ?_⟩
    show Tq (fX12_block 285 a1 a2 a3 s) (fun z => AG z.2 ∧ z.1 = r)
    refine (a_rf h0 e ((r_block hr a1 a2 a3).and (q_block (fun _ => ⟨x5, x2.v⟩) hP a1 a2 a3)) fun q hq => ⟨hq.1.1, hq.1.2.1, rT.of hq.2.1 (Fo.of hq.2.1 (by decide)) (S := []) (by decide) (by decide) (by decide) (by decide)⟩).mono fun q hq => ⟨hq.1, ?_⟩
    rcases hq.2.2.2 with ⟨y, -⟩ | ⟨-, y1, y2⟩
    · exact absurd y x1
    · rcases hr0 with z | ⟨z1, z2⟩
      · exact s_bok.uq x2.2.2.1 (fun m hm8 => (x2.mt hm8).2.1) (y1 ⟨_, z⟩) z
      · rw [z2]; exact y2 z1
