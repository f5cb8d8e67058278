/-! THE CALLS OF THE CLASS -/
theorem gk_0 : gm_k 0 = 9 := by decide +kernel
theorem gk_90n : gm_n 90 = 256 := by decide +kernel
def CQ (R : Nat → Nat → Nat) : Prop := R 0 0 ≠ R 0 1 ∧ R 0 0 ≠ R 0 2 ∧ R 0 1 ≠ R 0 2 ∧ R 0 0 ≠ R 0 3 ∧ R 0 1 ≠ R 0 3 ∧ R 0 2 ≠ R 0 3 ∧ ∀ j, j < 3 → gm_n (R (R 0 j - 1) 0 - 1) = 6000
/-- between two calls -/
def CJ (s : hs_S) : Prop := WT s ∧ hs_R s 285 = hm_R ∧ CQ (hs_R s)
/-- how many bytes the tape holds -/
def tU (s : hs_S) : Int32 := hs_I s (hs_R s 0 0 - 1) 3
/-- a call's end: between two calls again, the reference as it was -/
def cC (g q : hs_S) : Prop := CJ q ∧ (∀ a, 285 ≤ a → hs_I q a = hs_I g a) ∧ hs_R q 285 = hs_R g 285
theorem cU.cj {s : Nat} {b : Bool} {g q : hs_S} (h : CJ g) (w : WT q) (u : cU s b g q) : cC g q ∧ hs_I q 90 = hs_I g 90 ∧ (hs_R g 0 0 - 1 ≠ s → tU q = tU g) := by
  have r0 : hs_R q 0 = hs_R g 0 := u.2 0 (by rw [gk_0]; decide)
  have r285 : hs_R q 285 = hs_R g 285 := u.2 285 (by rw [gk_285]; decide)
  have k0 : ∀ j, j < 3 → gm_k (hs_R g 0 j - 1) = 0 := by
    intro j hj
    obtain e | e | e : j = 0 ∨ j = 1 ∨ j = 2 := by omega
    · rw [e]; exact (h.1.f9_0 gk_0).2
    · rw [e]; exact (h.1.f9_1 gk_0).2
    · rw [e]; exact (h.1.f9_2 gk_0).2
  refine ⟨⟨⟨w, r285.trans h.2.1, ?_⟩, fun a ha => funext fun j => u.1 a j (Or.inl ha), r285⟩, funext fun j => u.1 90 j (Or.inr (Or.inl rfl)), fun hs => ?_⟩
  · obtain ⟨q1, q2, q3, q4, q5, q6, q7⟩ := h.2.2
    unfold CQ
    rw [r0]
    refine ⟨q1, q2, q3, q4, q5, q6, fun j hj => ?_⟩
    rw [u.2 (hs_R g 0 j - 1) (by rw [k0 j hj]; decide)]
    exact q7 j hj
  · unfold tU
    rw [r0]
    exact u.1 _ 3 (Or.inr (Or.inr (Or.inl ⟨k0 0 (by decide), rfl, hs⟩)))
/-- rewrite, run -/
theorem z_rewrite {g : hs_S} (h : CJ g) : Tq (fX11_rewrite 0 g) (fun q => cC g q.2 ∧ hs_I q.2 90 = hs_I g 90 ∧ tU q.2 = tU g) := by
  refine (zfX11_rewrite h.1 gk_0 rfl).mono fun q hq => ?_
  obtain ⟨x1, x2, x3⟩ := hq.1.2.cj h hq.1.1
  refine ⟨x1, x2, x3 ?_⟩
  have h1 := (h.1.f9_0 gk_0).1
  have h2 := (h.1.f9_3 gk_0).1
  have h3 := h.2.2.2.2.2.1
  omega
theorem z_run {g : hs_S} (h : CJ g) (v1 v2 v3 v4 : Int32) : Tq (fX11_run 0 v1 v2 v3 v4 g) (fun q => cC g q.2 ∧ hs_I q.2 90 = hs_I g 90 ∧ tU q.2 = tU g) := by
  refine (zfX11_run (s := 999) (b := false) h.1 gk_0).mono fun q hq => ?_
  obtain ⟨x1, x2, x3⟩ := hq.1.2.cj h hq.1.1
  refine ⟨x1, x2, x3 ?_⟩
  have h1 := (ck_lt (h.1.f9_0 gk_0).2 (by decide)).1
  omega
/-! feed -/
theorem z_feed37 (v1 : Int64) : ∀ (d n t : Nat) (v4 : Int32) (g : hs_S), d < n → v4 + 1 = nI d → d ≤ 8 → CJ g → tU g = nI t → t + d ≤ 6000 → Tq (lX11_feed_37 n 0 v1 v4 g) (fun q => cC g q ∧ hs_I q 90 = hs_I g 90 ∧ tU q = nI (t + d))
  | d, 0, t, v4, g, hn, _, _, _, _, _ => absurd hn (Nat.not_lt_zero _)
  | 0, n + 1, t, v4, g, _, hv, _, h, ht, _ => by
    have e : v4 = -1 := by
      have h1 : v4 + 1 - 1 = nI 0 - 1 := by rw [hv]
      rw [Int32.add_sub_cancel] at h1
      exact h1
    have u : v4 < 0 := by rw [e]; decide
    rw [lX11_feed_37, if_pos u]
    exact Tq.some ⟨⟨h, fun _ _ => rfl, rfl⟩, rfl, ht⟩
  | d + 1, n + 1, t, v4, g, hn, hv, hd, h, ht, htd => by
    have e : v4 = nI d := by
      have h1 : v4 + 1 - 1 = nI (d + 1) - 1 := by rw [hv]
      rw [Int32.add_sub_cancel, nI_pred] at h1
      exact h1
    have u : ¬ v4 < 0 := by rw [e]; exact nI_pos (by omega)
    obtain ⟨f1, f2⟩ := h.1.f9_0 gk_0
    rw [lX11_feed_37, if_neg u]
    refine Tq.ck (h.1.k gk_0) (Tq.ck f1 (Tq.ck (h.1.k f2) ?_))
    obtain ⟨q, e1, h1⟩ := xfX0_append (v1 := ((v1 >>> (((8 : Int32) * v4).toInt64 &&& 63)).toInt32)) h.1 f2
    obtain ⟨q', e2, w2, u2⟩ := zfX0_append (s := hs_R g 0 0 - 1) (b := true) (v1 := ((v1 >>> (((8 : Int32) * v4).toInt64 &&& 63)).toInt32)) h.1 f2 rfl
    have e3 : q' = q := Option.some.inj (e2.symm.trans e1)
    subst e3
    rw [e1]
    obtain ⟨x1, x2, -⟩ := u2.cj h w2
    have hrow := h.2.2.2.2.2.2.2.2 0 (by decide)
    have ht' : hs_I g (hs_R g 0 0 - 1) 3 = nI t := ht
    have r0 : hs_R q' 0 = hs_R g 0 := u2.2 0 (by rw [gk_0]; decide)
    have ht1 : tU q' = nI (t + 1) := by
      unfold tU
      rw [r0]
      rcases h1 with ⟨-, h1⟩ | ⟨-, g1, -, h1⟩
      · rw [hrow, ht'] at h1
        have h2 : nI 6000 ≤ nI t := h1
        exact absurd ((lei (by decide) (by omega)).mp h2) (by omega)
      · rw [h1, hs_I_w, if_pos rfl, if_pos rfl, ht', nI_1]
    show Tq (lX11_feed_37 n 0 v1 (v4 + (-1 : Int32)) q') _
    refine (z_feed37 v1 d n (t + 1) (v4 + (-1 : Int32)) q' (by omega) ?_ (by omega) x1.1 ht1 (by omega)).mono fun r hr => ?_
    · rw [e, Int32.add_assoc]
      show nI d + (-1 + 1) = nI d
      rw [show (-1 : Int32) + 1 = 0 by decide, Int32.add_zero]
    · obtain ⟨y1, y2, y3⟩ := hr
      refine ⟨⟨y1.1, fun a ha => (y1.2.1 a ha).trans (x1.2.1 a ha), y1.2.2.trans x1.2.2⟩, y2.trans x2, ?_⟩
      rw [y3]
      congr 1
      omega
/-- feed(): exact in what it answers -/
theorem z_feed {g : hs_S} (h : CJ g) (v1 : Int64) (v3 : Int32) {t : Nat} (ht : tU g = nI t) (ht6 : t ≤ 6000) : Tq (fX11_feed 0 v1 v3 g) (fun q => cC g q.2 ∧ hs_I q.2 90 = hs_I g 90 ∧
    (((¬ ∃ r, 1 ≤ r ∧ r ≤ 8 ∧ v3 = nI r) ∧ q.1 = -3 ∧ tU q.2 = nI t) ∨ ∃ r, 1 ≤ r ∧ r ≤ 8 ∧ v3 = nI r ∧ ((6000 < t + r ∧ q.1 = -4 ∧ tU q.2 = nI t) ∨ (t + r ≤ 6000 ∧ q.1 = nI (t + r) ∧ tU q.2 = nI (t + r))))) := by
  have h0 : cC g g := ⟨h, fun _ _ => rfl, rfl⟩
  unfold fX11_feed
  by_cases c1 : v3 < (1 : Int32)
  · rw [if_pos c1]
    refine Tq.some ⟨h0, rfl, Or.inl ⟨?_, rfl, ht⟩⟩
    rintro ⟨r, r1, r2, rfl⟩
    exact absurd ((lti (b := 1) (by omega) (by decide)).mp c1) (by omega)
  rw [if_neg c1]
  have c0 : ¬ v3 < 0 := fun q => c1 (of_lt (by have := lt_toInt q; rw [ti_0] at this; rw [ti_1]; omega))
  obtain ⟨r, hr0, rfl⟩ := nI_of c0
  have r1 : 1 ≤ r := by
    by_cases e : 1 ≤ r
    · exact e
    · exact absurd ((lti (b := 1) (by omega) (by decide)).mpr (by omega)) c1
  by_cases c2 : nI r ≤ (8 : Int32)
  rotate_left
  · rw [if_neg c2]
    refine Tq.some ⟨h0, rfl, Or.inl ⟨?_, rfl, ht⟩⟩
    rintro ⟨r', r1', r2', e⟩
    exact c2 (by rw [e]; exact (lei (b := 8) (by omega) (by decide)).mpr r2')
  have r2 := (lei (b := 8) (by omega) (by decide)).mp c2
  obtain ⟨f1, f2⟩ := h.1.f9_0 gk_0
  have ht' : hs_I g (hs_R g 0 0 - 1) 3 = nI t := ht
  rw [if_pos c2]
  refine Tq.ck (h.1.k gk_0) (Tq.ck f1 (Tq.ck (h.1.k f2) ?_))
  rw [ht', nI_add]
  by_cases c3 : t + r ≤ 6000
  · have u : nI (t + r) ≤ (6000 : Int32) := (lei (b := 6000) (by omega) (by decide)).mpr c3
    rw [if_pos u]
    obtain ⟨q, e, x1, x2, x3⟩ := z_feed37 v1 r hs_N t (nI r - 1) g (by unfold hs_N; omega) (by rw [Int32.sub_add_cancel]) r2 h ht c3
    rw [e]
    obtain ⟨f3, f4⟩ := x1.1.1.f9_0 gk_0
    exact Tq.ck (x1.1.1.k gk_0) (Tq.ck f3 (Tq.ck (x1.1.1.k f4) (Tq.some ⟨x1, x2, Or.inr ⟨r, r1, r2, rfl, Or.inr ⟨c3, x3, x3⟩⟩⟩)))
  · have u : ¬ nI (t + r) ≤ (6000 : Int32) := fun q => c3 ((lei (b := 6000) (by omega) (by decide)).mp q)
    rw [if_neg u]
    exact Tq.some ⟨h0, rfl, Or.inr ⟨r, r1, r2, rfl, Or.inl ⟨by omega, rfl, ht⟩⟩⟩
/-! the object's references -/
theorem CR.w9 {R : Nat → Nat → Nat} (h : CR R) {j m : Nat} (hj : j < 3) (hm0 : gm_k m = 0) : CR (fun b i => if b = 0 then (if i = j then m + 1 else R b i) else R b i) := by
  have o : ∀ a i, (a ≠ 0 ∨ i ≠ j) → (fun b i => if b = 0 then (if i = j then m + 1 else R b i) else R b i) a i = R a i := by
    intro a i hi
    show (if a = 0 then (if i = j then m + 1 else R a i) else R a i) = R a i
    by_cases e : a = 0
    · rw [if_pos e, if_neg (hi.resolve_left (fun z => z e))]
    · rw [if_neg e]
  have oj : (fun b i => if b = 0 then (if i = j then m + 1 else R b i) else R b i) 0 j = m + 1 := by
    show (if 0 = 0 then (if j = j then m + 1 else R 0 j) else R 0 j) = m + 1
    rw [if_pos rfl, if_pos rfl]
  generalize (fun b i => if b = 0 then (if i = j then m + 1 else R b i) else R b i) = R' at o oj
  have ne : ∀ a, gm_k a ≠ 9 → a ≠ 0 := fun a ha e => ha (by rw [e]; exact gk_0)
  have A : ∀ a i, a ≠ 0 → rA R a i → rA R' a i := fun a i ha x => by
    unfold rA
    rw [o a i (Or.inl ha)]; exact x
  have K : ∀ a i k, (a ≠ 0 ∨ i ≠ j) → rK R a i k → rK R' a i k := fun a i k ha x => by
    unfold rK
    rw [o a i ha]; exact x
  have L : ∀ a i k n k2, k ≠ 9 → a ≠ 0 → rL R a i k n k2 → rL R' a i k n k2 := fun a i k n k2 hk ha x => by
    unfold rL
    rw [o a i (Or.inl ha)]
    exact ⟨x.1, x.2.1, x.2.2.1, fun z hz => K _ z k2 (Or.inl (ne _ (by rw [x.2.1]; exact hk))) (x.2.2.2 z hz)⟩
  have K9 : ∀ i, i < 3 → rK R 0 i 0 → rK R' 0 i 0 := fun i hi x => by
    by_cases e : i = j
    · subst e
      unfold rK
      rw [oj]; exact ⟨by omega, hm0⟩
    · exact K 0 i 0 (Or.inr e) x
  intro a
  obtain ⟨h0, h1, h2, h3, h4, h5, h6, h7, h8, h9⟩ := h a
  refine ⟨fun k => ?_, fun k => ?_, fun k => ?_, fun k => ?_, fun k => ?_, fun k => ?_, fun k => ?_, fun k => ?_, fun k => ?_, fun k => ?_⟩
  · have n := ne a (by rw [k]; decide)
    obtain ⟨x1, x2, x3⟩ := h0 k
    exact ⟨A a 0 n x1, L a 1 102 8 6 (by decide) n x2, K a 2 6 (Or.inl n) x3⟩
  · have n := ne a (by rw [k]; decide)
    obtain ⟨x1, x2⟩ := h1 k
    exact ⟨A a 0 n x1, A a 1 n x2⟩
  · have n := ne a (by rw [k]; decide)
    exact K a 0 1 (Or.inl n) (h2 k)
  · have n := ne a (by rw [k]; decide)
    obtain ⟨x1, x2, x3⟩ := h3 k
    exact ⟨A a 0 n x1, A a 1 n x2, K a 3 6 (Or.inl n) x3⟩
  · have n := ne a (by rw [k]; decide)
    obtain ⟨x1, x2, x3, x4⟩ := h4 k
    exact ⟨A a 0 n x1, A a 1 n x2, A a 2 n x3, A a 3 n x4⟩
  · have n := ne a (by rw [k]; decide)
    obtain ⟨x1, x2, x3⟩ := h5 k
    exact ⟨K a 0 0 (Or.inl n) x1, L a 1 103 60 3 (by decide) n x2, K a 2 8 (Or.inl n) x3⟩
  · have n := ne a (by rw [k]; decide)
    obtain ⟨x1, x2⟩ := h6 k
    exact ⟨A a 0 n x1, A a 1 n x2⟩
  · have n := ne a (by rw [k]; decide)
    rw [o a 0 (Or.inl n)]; exact h7 k
  · have n := ne a (by rw [k]; decide)
    obtain ⟨x1, x2⟩ := h8 k
    exact ⟨A a 0 n x1, A a 1 n x2⟩
  · obtain ⟨x0, x1, x2, x3, x4, x5, x6, x7⟩ := h9 k
    by_cases e : a = 0
    · subst e
      exact ⟨K9 0 (by omega) x0, K9 1 (by omega) x1, K9 2 (by omega) x2, K 0 3 0 (Or.inr (by omega)) x3, K 0 4 7 (Or.inr (by omega)) x4, K 0 5 2 (Or.inr (by omega)) x5, K 0 6 4 (Or.inr (by omega)) x6, K 0 7 5 (Or.inr (by omega)) x7⟩
    · exact ⟨K a 0 0 (Or.inl e) x0, K a 1 0 (Or.inl e) x1, K a 2 0 (Or.inl e) x2, K a 3 0 (Or.inl e) x3, K a 4 7 (Or.inl e) x4, K a 5 2 (Or.inl e) x5, K a 6 4 (Or.inl e) x6, K a 7 5 (Or.inl e) x7⟩
theorem WT.w9 {g : hs_S} (w : WT g) {j m : Nat} (hj : j < 3) (hm0 : gm_k m = 0) : WT (hs_wR g 0 j m) := ⟨w.1, w.2.1, w.2.2.1, w.2.2.2.1.w9 hj hm0, w.2.2.2.2⟩
theorem hs_R_w (g : hs_S) (a j m b i : Nat) : hs_R (hs_wR g a j m) b i = if b = a then (if i = j then m + 1 else hs_R g b i) else hs_R g b i := rfl
/-- two of the three sets change places -/
theorem CJ.swap {g : hs_S} (h : CJ g) {i j : Nat} (hi : i < 3) (hj : j < 3) (hij : i ≠ j) : CJ (hs_wR (hs_wR g 0 i (hs_R g 0 j - 1)) 0 j (hs_R g 0 i - 1)) ∧ (∀ k, k ≠ i → k ≠ j → hs_R (hs_wR (hs_wR g 0 i (hs_R g 0 j - 1)) 0 j (hs_R g 0 i - 1)) 0 k = hs_R g 0 k) ∧ hs_R (hs_wR (hs_wR g 0 i (hs_R g 0 j - 1)) 0 j (hs_R g 0 i - 1)) 0 i = hs_R g 0 j ∧ hs_R (hs_wR (hs_wR g 0 i (hs_R g 0 j - 1)) 0 j (hs_R g 0 i - 1)) 0 j = hs_R g 0 i ∧ ∀ a, a ≠ 0 → hs_R (hs_wR (hs_wR g 0 i (hs_R g 0 j - 1)) 0 j (hs_R g 0 i - 1)) a = hs_R g a := by
  have kk : ∀ k, k < 3 → ¬ hs_R g 0 k = 0 ∧ gm_k (hs_R g 0 k - 1) = 0 := by
    intro k hk
    obtain e | e | e : k = 0 ∨ k = 1 ∨ k = 2 := by omega
    · rw [e]; exact h.1.f9_0 gk_0
    · rw [e]; exact h.1.f9_1 gk_0
    · rw [e]; exact h.1.f9_2 gk_0
  have a1 : ∀ k, k ≠ i → k ≠ j → hs_R (hs_wR (hs_wR g 0 i (hs_R g 0 j - 1)) 0 j (hs_R g 0 i - 1)) 0 k = hs_R g 0 k := fun k k1 k2 => by
    rw [hs_R_w, if_pos rfl, if_neg k2, hs_R_w, if_pos rfl, if_neg k1]
  have a2 : hs_R (hs_wR (hs_wR g 0 i (hs_R g 0 j - 1)) 0 j (hs_R g 0 i - 1)) 0 i = hs_R g 0 j := by
    rw [hs_R_w, if_pos rfl, if_neg hij, hs_R_w, if_pos rfl, if_pos rfl]
    have := (kk j hj).1
    omega
  have a3 : hs_R (hs_wR (hs_wR g 0 i (hs_R g 0 j - 1)) 0 j (hs_R g 0 i - 1)) 0 j = hs_R g 0 i := by
    rw [hs_R_w, if_pos rfl, if_pos rfl]
    have := (kk i hi).1
    omega
  have a4 : ∀ a, a ≠ 0 → hs_R (hs_wR (hs_wR g 0 i (hs_R g 0 j - 1)) 0 j (hs_R g 0 i - 1)) a = hs_R g a := fun a ha => by
    funext z
    rw [hs_R_w, if_neg ha, hs_R_w, if_neg ha]
  have w1 := (h.1.w9 hi (kk j hj).2).w9 hj (kk i hi).2
  generalize hs_wR (hs_wR g 0 i (hs_R g 0 j - 1)) 0 j (hs_R g 0 i - 1) = q at a1 a2 a3 a4 w1
  refine ⟨⟨w1, (a4 285 (by decide)).trans h.2.1, ?_⟩, a1, a2, a3, a4⟩
  obtain ⟨q1, q2, q3, q4, q5, q6, q7⟩ := h.2.2
  have pm : ∀ k, k < 3 → ∃ k', k' < 3 ∧ hs_R q 0 k = hs_R g 0 k' ∧ ((k = i ∧ k' = j) ∨ (k = j ∧ k' = i) ∨ (k ≠ i ∧ k ≠ j ∧ k' = k)) := by
    intro k hk
    by_cases e1 : k = i
    · exact ⟨j, hj, by rw [e1]; exact a2, Or.inl ⟨e1, rfl⟩⟩
    · by_cases e2 : k = j
      · exact ⟨i, hi, by rw [e2]; exact a3, Or.inr (Or.inl ⟨e2, rfl⟩)⟩
      · exact ⟨k, hk, a1 k e1 e2, Or.inr (Or.inr ⟨e1, e2, rfl⟩)⟩
  have di : ∀ k k', k < 3 → k' < 3 → k ≠ k' → hs_R g 0 k ≠ hs_R g 0 k' := by
    intro k k' h1 h2 h3
    obtain e | e | e : k = 0 ∨ k = 1 ∨ k = 2 := by omega
    all_goals
      obtain f | f | f : k' = 0 ∨ k' = 1 ∨ k' = 2 := by omega
      all_goals
        subst e; subst f
        first
        | exact absurd rfl h3
        | assumption
        | exact fun z => absurd z.symm (by assumption)
  have d3 : ∀ k, k < 3 → hs_R g 0 k ≠ hs_R g 0 3 := by
    intro k h1
    obtain e | e | e : k = 0 ∨ k = 1 ∨ k = 2 := by omega
    · rw [e]; exact q4
    · rw [e]; exact q5
    · rw [e]; exact q6
  have dq : ∀ k k', k < 3 → k' < 3 → k ≠ k' → hs_R q 0 k ≠ hs_R q 0 k' := by
    intro k k' h1 h2 h3
    obtain ⟨m, m1, m2, m3⟩ := pm k h1
    obtain ⟨m', n1, n2, n3⟩ := pm k' h2
    rw [m2, n2]
    exact di m m' m1 n1 (by omega)
  have dq3 : ∀ k, k < 3 → hs_R q 0 k ≠ hs_R q 0 3 := by
    intro k h1
    obtain ⟨m, m1, m2, m3⟩ := pm k h1
    rw [m2, a1 3 (by omega) (by omega)]
    exact d3 m m1
  refine ⟨dq 0 1 (by decide) (by decide) (by decide), dq 0 2 (by decide) (by decide) (by decide), dq 1 2 (by decide) (by decide) (by decide), dq3 0 (by decide), dq3 1 (by decide), dq3 2 (by decide), fun k hk => ?_⟩
  obtain ⟨m, m1, m2, m3⟩ := pm k hk
  have hne : hs_R g 0 m - 1 ≠ 0 := fun e => by
    have := (kk m m1).2
    rw [e, gk_0] at this
    exact absurd this (by decide)
  rw [m2, a4 _ hne]
  exact q7 m m1
