def cIv (D G : Nat → Int32) (n h : Nat) (c par R : Nat → Nat) : Prop := (∀ i, i < n → s_dv (D i)) ∧ (∀ i, i < n → ∀ d, d ≤ 20 → D i = nI d → s_B c i ∧ ∃ τ, s_Rc c par h R τ i d) ∧ D 0 = nI 0 ∧ (∀ q, q < h → D (R (4 * q + 2)) = nI 1) ∧
  ∀ i, i < n → ¬ G i = 0 → ∃ d, d ≤ 20 ∧ D i = nI d ∧ s_o1 c par n i d ∧ ∀ j, j < n → s_go c i j → D j = nI (s_d2 c par i d)
theorem c_closed {D G : Nat → Int32} {n l N h : Nat} {c par R : Nat → Nat} (hM : s_Mt n l N h c R) (hI : cIv D G n h c par R) (hcl : ∀ i, i < n → D i = -1 ∨ ¬ G i = 0) : ∀ τ k d, s_Rc c par h R τ k d → k < n ∧ d ≤ 20 ∧ s_B c k ∧ D k = nI d ∧ s_o1 c par n k d := by
  obtain ⟨n1, n2, hN, hh, hch, hhk, hjk⟩ := hM
  obtain ⟨v1, v2, v3, v4, v5⟩ := hI
  have fin : ∀ k d, k < n → d ≤ 20 → D k = nI d → k < n ∧ d ≤ 20 ∧ s_B c k ∧ D k = nI d ∧ s_o1 c par n k d := by
    intro k d hk hd e
    have hG : ¬ G k = 0 := (hcl k hk).resolve_left (by rw [e]; exact nI_m1 (by omega))
    obtain ⟨d', x1, x2, x3, -⟩ := v5 k hk hG
    have : d = d' := (eqi (by omega) (by omega)).mp (e.symm.trans x2)
    subst this
    exact ⟨hk, hd, (v2 k hk d hd e).1, e, x3⟩
  intro τ
  induction τ with
  | zero =>
    rintro k d (⟨rfl, rfl⟩ | ⟨q, hq, rfl, rfl⟩)
    · exact fin 0 0 (by omega) (by omega) v3
    · have ha : s_is c n (R (4 * q + 2)) := (hhk q hq).2.1
      exact fin _ 1 (by have := ha.2.1; omega) (by omega) (v4 q hq)
  | succ τ ih =>
    rintro k d (x | ⟨k', d', x, hgo, rfl⟩)
    · exact ih k d x
    · obtain ⟨h1, h2, h3, h4, h5⟩ := ih k' d' x
      have hG : ¬ G k' = 0 := (hcl k' h1).resolve_left (by rw [h4]; exact nI_m1 (by omega))
      obtain ⟨e, x1, x2, x3, x4⟩ := v5 k' h1 hG
      have : d' = e := (eqi (by omega) (by omega)).mp (h4.symm.trans x2)
      subst this
      have hk : k < n := by
        rcases hgo with ⟨w1, w2⟩ | ⟨w1, w2⟩
        · rw [w2]; exact h5.2.2 w1
        · have u := hjk k' h1 h3 w1
          have u1 := u.1
          have u2 := u.2.1
          rw [w2]; omega
      exact fin k _ hk x3.2.1 (x4 k hk hgo)
/-- the lowest place that is known and not gone -/
theorem x_low0 {n : Nat} (hn : n ≤ 2000) : ∀ (d lo f : Nat) (s : hs_S), lo + d = n → d < f → WT s → DR (hs_R s) → hs_I s 92 2 = nI lo →
    Tq (lX1_findLowest_0 f 92 (nI n) s) (fun q => WT q.2 ∧ dF s q.2 ∧ hs_I q.2 93 = hs_I s 93 ∧ hs_I q.2 94 = hs_I s 94 ∧ ∃ lo', hs_I q.2 92 2 = nI lo' ∧ lo' ≤ n ∧ (∀ i, lo ≤ i → i < lo' → hs_I s 93 i = -1 ∨ ¬ hs_I s 94 i = 0) ∧ ((q.1 = 1 ∧ lo' < n ∧ ¬ hs_I s 93 lo' = -1 ∧ hs_I s 94 lo' = 0) ∨ (q.1 = 0 ∧ lo' = n)))
  | d, lo, 0, s, _, hf, _, _, _ => absurd hf (Nat.not_lt_zero _)
  | 0, lo, f + 1, s, hd, _, w, hD, hlo => by
    rw [lX1_findLowest_0, if_pos (w.k gk_92), hlo, if_pos ((lei (by omega) (by omega)).mpr (by omega))]
    exact Tq.some ⟨w, dF.rf, rfl, rfl, lo, hlo, by omega, fun i h1 h2 => absurd h2 (by omega), Or.inr ⟨rfl, by omega⟩⟩
  | d + 1, lo, f + 1, s, hd, hf, w, hD, hlo => by
    have r0 : hs_R s 92 0 - 1 = 93 := by rw [hD.1]
    have r0n : ¬ hs_R s 92 0 = 0 := by rw [hD.1]; decide
    have r1 : hs_R s 92 1 - 1 = 94 := by rw [hD.2]
    have r1n : ¬ hs_R s 92 1 = 0 := by rw [hD.2]; decide
    have on : (hs_I s 93 lo = -1 ∨ ¬ hs_I s 94 lo = 0) → Tq (jX1_findLowest_39 (fun g => lX1_findLowest_0 f 92 (nI n) g) 92 (nI n) s) (fun q => WT q.2 ∧ dF s q.2 ∧ hs_I q.2 93 = hs_I s 93 ∧ hs_I q.2 94 = hs_I s 94 ∧ ∃ lo', hs_I q.2 92 2 = nI lo' ∧ lo' ≤ n ∧ (∀ i, lo ≤ i → i < lo' → hs_I s 93 i = -1 ∨ ¬ hs_I s 94 i = 0) ∧ ((q.1 = 1 ∧ lo' < n ∧ ¬ hs_I s 93 lo' = -1 ∧ hs_I s 94 lo' = 0) ∨ (q.1 = 0 ∧ lo' = n))) := by
      intro hc
      unfold jX1_findLowest_39
      rw [if_pos (w.k gk_92), hlo, nI_1]
      have w1 : WT (hs_wI s 92 2 (nI (lo + 1))) := w.w (dg_o (s := 0) (b := false) (by omega))
      have a3 : hs_I (hs_wI s 92 2 (nI (lo + 1))) 93 = hs_I s 93 := funext fun i => by rw [hs_I_w, if_neg (by decide)]
      have a4 : hs_I (hs_wI s 92 2 (nI (lo + 1))) 94 = hs_I s 94 := funext fun i => by rw [hs_I_w, if_neg (by decide)]
      refine (x_low0 hn d (lo + 1) f _ (by omega) (by omega) w1 hD (hs_I_eq _ _ _ _)).mono fun q hq => ?_
      obtain ⟨q1, q2, q3, q4, lo', q5, q6, q7, q8⟩ := hq
      rw [a3] at q3 q7 q8
      rw [a4] at q4 q7 q8
      refine ⟨q1, (dF.rf.w (by omega)).tr q2, q3, q4, lo', q5, q6, fun i h1 h2 => ?_, q8⟩
      by_cases e : i = lo
      · rw [e]; exact hc
      · exact q7 i (by omega) h2
    rw [lX1_findLowest_0, if_pos (w.k gk_92), hlo, if_neg (fun q => absurd ((lei (by omega) (by omega)).mp q) (by omega)), if_pos r0n, r0, yf_at w gk_93.1 (by rw [gk_93.2.1]; omega), hs_bd_s]
    by_cases c1 : hs_I s 93 lo = -1
    · rw [if_pos c1]; exact on (Or.inl c1)
    rw [if_neg c1, if_pos (w.k gk_92), if_pos r1n, r1, hlo, yf_at w gk_93.2.2.1 (by rw [gk_93.2.2.2]; omega), hs_bd_s]
    by_cases c2 : hs_I s 94 lo = 0
    · rw [if_pos c2]
      exact Tq.some ⟨w, dF.rf, rfl, rfl, lo, hlo, by omega, fun i h1 h2 => absurd h2 (by omega), Or.inl ⟨rfl, by omega, c1, c2⟩⟩
    · rw [if_neg c2]; exact on (Or.inr c2)
theorem s_cn_0 {G : Nat → Int32} {n : Nat} (h : s_cn G 0 n = 0) : ∀ i, i < n → ¬ G i = 0 := by
  induction n with
  | zero => intro i hi; omega
  | succ n ih =>
    intro i hi
    have h' : s_cn G 0 n + (if G (0 + n) = 0 then 1 else 0) = 0 := h
    by_cases e : i = n
    · intro q
      rw [Nat.zero_add, ← e, if_pos q] at h'
      omega
    · exact ih (by omega) i (by omega)
theorem x_p73 {A M a n l N h : Nat} {e c par R : Nat → Nat} (hA : isS A) (hM : s_Mt n l N h c R) (hc : ∀ i, i < n → e i % 256 = c i) (hpl : ∀ o, o < N → par o ≤ 4) : ∀ (f τ lo : Nat) (s : hs_S), τ ≤ n → n < f + τ → WT s → SF (hs_R s) A → DR (hs_R s) → mv s M a n e → (∀ o, o < N → hs_I s (A + 6 + 2 * o) 4 = nI (par o)) → hs_I s (A + 2) 4 = 0 → hs_R s M 0 - 1 < 92 → cIv (hs_I s 93) (hs_I s 94) n h c par R → (∀ i, n ≤ i → i < 2000 → hs_I s 93 i = -1) → hs_I s 92 2 = nI lo → lo ≤ n → (∀ i, i < lo → hs_I s 93 i = -1 ∨ ¬ hs_I s 94 i = 0) → s_cn (hs_I s 94) 0 n + τ = n →
    Tq (lX1_wrongPlace_73 f 92 A M (nI τ) s) (fun q => WT q.2.2 ∧ dF s q.2.2 ∧ ((q.1 = 0 ∧ cIv (hs_I q.2.2 93) (hs_I q.2.2 94) n h c par R ∧ (∀ i, i < n → hs_I q.2.2 93 i = -1 ∨ ¬ hs_I q.2.2 94 i = 0) ∧ ∀ i, n ≤ i → i < 2000 → hs_I q.2.2 93 i = -1) ∨ (q.1 = 1 ∧ (∃ x, x ≤ 2000 ∧ q.2.1 = nI x) ∧ ¬ s_DOK c par n h R)))
  | 0, τ, lo, s, h1, h2, _, _, _, _, _, _, _, _, _, _, _, _, _ => absurd h2 (by omega)
  | f + 1, τ, lo, s, h1, h2, w, hR, hD, v, hpar, hnone, hrow, hI, hhi, hlo, hl, hcl, hcn => by
    obtain ⟨n1, n2, hN, hh, hch, hhk, hjk⟩ := id hM
    obtain ⟨v1, v2, v3, v4, v5⟩ := id hI
    rw [lX1_wrongPlace_73, if_pos (w.k v.1), v.2.2.1]
    by_cases hτ : τ < n
    rotate_left
    · rw [if_pos ((lei (by omega) (by omega)).mpr (by omega))]
      have z0 : s_cn (hs_I s 94) 0 n = 0 := by omega
      exact Tq.some ⟨w, dF.rf, Or.inl ⟨rfl, hI, fun i hi => Or.inr (s_cn_0 z0 i hi), hhi⟩⟩
    rw [if_neg (fun q => absurd ((lei (by omega) (by omega)).mp q) (by omega)), if_pos (w.k gk_92)]
    unfold fX1_findLowest
    obtain ⟨⟨t1, s1⟩, E1, w1, f1, a3, a4, lo1, l1, l2, l3, l4⟩ := x_low0 n2 (n - lo) lo hs_N s (by omega) (by unfold hs_N; omega) w hD hlo
    have a3 : hs_I s1 93 = hs_I s 93 := a3
    have a4 : hs_I s1 94 = hs_I s 94 := a4
    have l1 : hs_I s1 92 2 = nI lo1 := l1
    have f1 : dF s s1 := f1
    have w1 : WT s1 := w1
    rw [E1, hs_bd_s]
    have closed : ∀ i, i < lo1 → hs_I s 93 i = -1 ∨ ¬ hs_I s 94 i = 0 := fun i hi => by
      by_cases q : i < lo
      · exact hcl i q
      · exact l3 i (by omega) hi
    rcases l4 with ⟨q1, q2, q3, q4⟩ | ⟨q1, q2⟩
    rotate_left
    · have q1' : t1 = 0 := q1
      rw [if_pos q1', hs_bd_s, if_pos rfl]
      refine Tq.some ⟨w1, f1, Or.inl ⟨rfl, ?_, fun i hi => ?_, fun i i1 i2 => ?_⟩⟩
      · show cIv (hs_I s1 93) (hs_I s1 94) n h c par R
        rw [a3, a4]; exact hI
      · show hs_I s1 93 i = -1 ∨ ¬ hs_I s1 94 i = 0
        rw [a3, a4]; exact closed i (by omega)
      · show hs_I s1 93 i = -1
        rw [a3]; exact hhi i i1 i2
    have q1' : t1 = 1 := q1
    rw [if_neg (by rw [q1']; decide), hs_bd_s, if_neg (by decide), if_pos (w1.k gk_92), l1]
    have ⟨d, hd, hdk⟩ : ∃ d, d ≤ 20 ∧ hs_I s 93 lo1 = nI d := (v1 lo1 q2).resolve_left q3
    obtain ⟨hB, τ0, hτ0⟩ := v2 lo1 q2 d hd hdk
    have hok := hch lo1 hB q2
    have hA92 : A < 68 := by rcases hA with q | q | q | q <;> omega
    obtain ⟨⟨r2, s2⟩, E2, w2, f2, g2, h2'⟩ := x_goOn (par := par) w1 hA (by rw [f1.1]; exact hR) (by rw [f1.1]; exact hD) (v.df f1 hrow) hc n2 q2 hok hN (hjk lo1 q2 hB) (fun o ho => ⟨by rw [f1.2 _ (by omega) (by omega) (by omega)]; exact hpar o ho, hpl o ho⟩) (by rw [f1.2 _ (by omega) (by omega) (by omega)]; exact hnone) hd (by rw [a3]; exact hdk) l1 (by omega) (by rw [f1.1]; exact hrow)
    rw [a3] at h2'
    rw [a4] at g2
    have g2 : ∀ i, hs_I s2 94 i = if i = lo1 then 1 else hs_I s 94 i := g2
    have f2' : dF s s2 := f1.tr f2
    rw [E2, hs_bd_s]
    rcases h2' with ⟨r0, ho1, hcm, hgo, hno, lo2, m1, m2, m3⟩ | ⟨r0, why⟩
    · have r0' : r2 = -1 := r0
      have hgo : ∀ i, i < n → s_go c lo1 i → hs_I s2 93 i = nI (s_d2 c par lo1 d) := hgo
      have hno : ∀ i, ¬ (i < n ∧ s_go c lo1 i) → hs_I s2 93 i = hs_I s 93 i := hno
      rw [if_pos r0', nI_1]
      have keep : ∀ i, i < n → ¬ hs_I s 93 i = -1 → hs_I s2 93 i = hs_I s 93 i := by
        intro i hi hne
        by_cases z : s_go c lo1 i
        · rw [hgo i hi z]
          exact ((hcm i hi z).resolve_left hne).symm
        · exact hno i fun q => z q.2
      have hIq : cIv (hs_I s2 93) (hs_I s2 94) n h c par R := by
        refine ⟨fun i hi => ?_, fun i hi e0 he0 he1 => ?_, ?_, fun z hz => ?_, fun i hi hGi => ?_⟩
        · by_cases z : s_go c lo1 i
          · rw [hgo i hi z]; exact Or.inr ⟨_, ho1.2.1, rfl⟩
          · rw [hno i fun q => z q.2]; exact v1 i hi
        · by_cases z : s_go c lo1 i
          · rw [hgo i hi z] at he1
            have := (eqi (by have := ho1.2.1; omega) (by omega)).mp he1
            subst this
            refine ⟨?_, τ0 + 1, Or.inr ⟨lo1, d, hτ0, z, rfl⟩⟩
            rcases z with ⟨-, z2⟩ | ⟨z1, z2⟩
            · rw [z2]; exact s_B_next hB
            · rw [z2]; exact (hjk lo1 q2 hB z1).2.2
          · rw [hno i fun q => z q.2] at he1
            exact v2 i hi e0 he0 he1
        · rw [keep 0 (by omega) (by rw [v3]; exact nI_m1 (by decide))]; exact v3
        · have ha : s_is c n (R (4 * z + 2)) := (hhk z hz).2.1
          rw [keep (R (4 * z + 2)) (by have := ha.2.1; omega) (by rw [v4 z hz]; exact nI_m1 (by decide))]
          exact v4 z hz
        · rw [g2] at hGi
          by_cases z : i = lo1
          · subst z
            refine ⟨d, hd, ?_, ho1, fun j hj hgj => hgo j hj hgj⟩
            rw [keep i hi (by rw [hdk]; exact nI_m1 (by omega))]; exact hdk
          · rw [if_neg z] at hGi
            obtain ⟨d', x1, x2, x3, x4⟩ := v5 i hi hGi
            refine ⟨d', x1, ?_, x3, fun j hj hgj => ?_⟩
            · rw [keep i hi (by rw [x2]; exact nI_m1 (by omega))]; exact x2
            · have x5 := x4 j hj hgj
              rw [keep j hj (by rw [x5]; exact nI_m1 (by have := x3.2.1; omega))]; exact x5
      have hcn' : s_cn (hs_I s2 94) 0 n + 1 = s_cn (hs_I s 94) 0 n :=
        s_cn_set q2 (by rw [Nat.zero_add]; exact q4) (by rw [Nat.zero_add, g2, if_pos rfl]; decide) (fun i hi hne => by rw [Nat.zero_add, g2, if_neg hne])
      refine (x_p73 hA hM hc hpl f (τ + 1) lo2 s2 (by omega) (by omega) w2 (by rw [f2'.1]; exact hR) (by rw [f2'.1]; exact hD) (v.df f2' hrow) (fun o ho => by rw [f2'.2 _ (by omega) (by omega) (by omega)]; exact hpar o ho) (by rw [f2'.2 _ (by omega) (by omega) (by omega)]; exact hnone) (by rw [f2'.1]; exact hrow) hIq (fun i i1 i2 => by rw [hno i fun q => absurd q.1 (by omega)]; exact hhi i i1 i2) m1 (by omega) (fun i hi => ?_) (by omega)).mono fun q hq => ⟨hq.1, f2'.tr hq.2.1, hq.2.2⟩
      have hi1 : i < lo1 := by omega
      rw [g2, if_neg (by omega)]
      rcases closed i hi1 with q | q
      · left
        by_cases z : i < n ∧ s_go c lo1 i
        · exact absurd (m3 i z.1 z.2 q) (by omega)
        · rw [hno i z]; exact q
      · exact Or.inr q
    · have r0' : ¬ r2 = -1 := by
        obtain ⟨x, x1, x2⟩ := r0
        have x2 : r2 = nI x := x2
        rw [x2]; exact nI_m1 (by omega)
      rw [if_neg r0']
      refine Tq.some ⟨w2, f2', Or.inr ⟨rfl, r0, fun hDk => ?_⟩⟩
      rcases why with q | ⟨i, hi, p1, p2⟩
      · exact q (hDk.2.1 τ0 lo1 d hτ0)
      · rcases v1 i hi with y | ⟨e0, y0, y⟩
        · exact p2 (Or.inl y)
        · obtain ⟨-, τ', hτ'⟩ := v2 i hi e0 y0 y
          have := hDk.2.2 τ' i e0 (τ0 + 1) (s_d2 c par lo1 d) hτ' (Or.inr ⟨lo1, d, hτ0, p1, rfl⟩)
          exact p2 (Or.inr (by rw [y, this]))
/-- the handlers' places -/
theorem x_p32 {v1 M tb h n : Nat} {R : Nat → Nat} (kM : gm_k M = 6) (kt : gm_k tb = 100) (nt : gm_n tb = 32) (ht3 : tb < 92) (hh : h ≤ 8) (hRn : ∀ z, z < h → R (4 * z + 2) < n) (hn : n ≤ 2000) : ∀ (d k f : Nat) (s : hs_S), k + d = h → d < f → WT s → DR (hs_R s) → hs_R s M 1 = tb + 1 → hs_I s M 6 = nI h → (∀ i, i < 4 * h → hs_I s tb i = nI (R i)) →
    Tq (lX1_wrongPlace_32 f 92 v1 M (nI k) s) (fun q => (q.1 = 1 ∧ ∃ z, z < h ∧ R (4 * z + 2) = 0) ∨ (q.1 = 0 ∧ WT q.2 ∧ dF s q.2 ∧ hs_I q.2 92 = hs_I s 92 ∧ hs_I q.2 94 = hs_I s 94 ∧ (∀ z, k ≤ z → z < h → R (4 * z + 2) ≠ 0) ∧ ∀ i, ((∃ z, k ≤ z ∧ z < h ∧ i = R (4 * z + 2)) → hs_I q.2 93 i = nI 1) ∧ ((¬ ∃ z, k ≤ z ∧ z < h ∧ i = R (4 * z + 2)) → hs_I q.2 93 i = hs_I s 93 i)))
  | d, k, 0, s, _, hf, _, _, _, _, _ => absurd hf (Nat.not_lt_zero _)
  | 0, k, f + 1, s, hk, _, w, _, _, h6, _ => by
    rw [lX1_wrongPlace_32, if_pos (w.k kM), h6, if_pos ((lei (by omega) (by omega)).mpr (by omega))]
    exact Tq.some (Or.inr ⟨rfl, w, dF.rf, rfl, rfl, fun z z1 z2 => absurd z2 (by omega), fun i => ⟨fun ⟨z, z1, z2, _⟩ => absurd z2 (by omega), fun _ => rfl⟩⟩)
  | d + 1, k, f + 1, s, hk, hf, w, hD, hR1, h6, ht => by
    have e2 : fX7_handlerNumber M (nI k) (2 : Int32) s = some (nI (R (4 * k + 2)), s) := by
      have := x_hnum (i := 2) w kM hR1 kt nt (show k < 8 by omega) (by decide)
      rw [ht _ (by omega)] at this
      exact this
    have hb := hRn k (by omega)
    have r0 : hs_R s 92 0 - 1 = 93 := by rw [hD.1]
    have r0n : ¬ hs_R s 92 0 = 0 := by rw [hD.1]; decide
    rw [lX1_wrongPlace_32, if_pos (w.k kM), h6, if_neg (fun q => absurd ((lei (by omega) (by omega)).mp q) (by omega)), e2, hs_bd_s]
    by_cases c0 : R (4 * k + 2) = 0
    · have x : nI (R (4 * k + 2)) = 0 := by rw [c0]; rfl
      rw [if_pos x]
      exact Tq.some (Or.inl ⟨rfl, k, by omega, c0⟩)
    have x : ¬ nI (R (4 * k + 2)) = 0 := fun q => c0 ((eqi (b := 0) (by omega) (by decide)).mp q)
    rw [if_neg x, if_pos (w.k gk_92), if_pos r0n, r0, yf_put w gk_93.1 (by rw [gk_93.2.1]; omega)]
    have w1 : WT (hs_wI s 93 (R (4 * k + 2)) 1) := w.w (dg_o (s := 0) (b := false) (by omega))
    have f1 : dF s (hs_wI s 93 (R (4 * k + 2)) 1) := dF.rf.w (by omega)
    have hM92 : M ≠ 93 := fun e => by rw [e, gk_93.1] at kM; exact absurd kM (by decide)
    show Tq (lX1_wrongPlace_32 f 92 v1 M (nI k + (1 : Int32)) (hs_wI s 93 (R (4 * k + 2)) 1)) _
    rw [nI_1]
    refine (x_p32 kM kt nt ht3 hh hRn hn d (k + 1) f _ (by omega) (by omega) w1 hD hR1 (by rw [hs_I_w, if_neg hM92]; exact h6) (fun i hi => by rw [hs_I_w, if_neg (by omega)]; exact ht i hi)).mono fun q hq => ?_
    rcases hq with hq | ⟨q1, q2, q3, q4, q5, q6, q7⟩
    · exact Or.inl hq
    · refine Or.inr ⟨q1, q2, f1.tr q3, q4.trans (funext fun i => by rw [hs_I_w, if_neg (by decide)]), q5.trans (funext fun i => by rw [hs_I_w, if_neg (by decide)]), fun z z1 z2 => ?_, fun i => ⟨fun ⟨z, z1, z2, z3⟩ => ?_, fun hn2 => ?_⟩⟩
      · by_cases e : z = k
        · rw [e]; exact c0
        · exact q6 z (by omega) z2
      · by_cases y : ∃ z, k + 1 ≤ z ∧ z < h ∧ i = R (4 * z + 2)
        · exact (q7 i).1 y
        · rw [(q7 i).2 y]
          have ez : z = k := by
            by_cases e : z = k
            · exact e
            · exact absurd ⟨z, by omega, z2, z3⟩ y
          rw [hs_I_w, if_pos rfl, if_pos (by rw [z3, ez])]
          rfl
      · rw [(q7 i).2 (fun ⟨z, z1, z2, z3⟩ => hn2 ⟨z, by omega, z2, z3⟩), hs_I_w, if_pos rfl, if_neg (fun e => hn2 ⟨k, Nat.le_refl _, by omega, e⟩)]
