/-! A METHOD'S NUMBERS -/
def okN (u : Nat → Nat) (t o : Nat) : Prop := o < t ∧ u o ≤ 4 ∧ o + 1 < t ∧ u o ≤ u (o + 1) ∧ u (o + 1) ≤ 20 ∧ o + 3 < t ∧ 1 ≤ s_n u o ∧ s_n u o ≤ 2000 ∧ o + 4 + s_n u o < t ∧ s_h u o ≤ 8 ∧ s_e u o ≤ t
theorem sv.w {s : hs_S} {A t M i : Nat} {u : Nat → Nat} {z : Int32} (v : sv s A t u) (h1 : A ≠ M) (h2 : A + 5 ≠ M) : sv (hs_wI s M i z) A t u := by
  refine ⟨?_, v.2.1, fun k hk => ?_⟩
  · rw [hs_I_w, if_neg h1]; exact v.1
  · rw [hs_I_w, if_neg h2]; exact v.2.2 k hk
/-- the numbers of the method at M, written -/
def nF (s q : hs_S) (M p l n a h : Nat) : Prop := hs_R q = hs_R s ∧ (∀ b, b ≠ M → hs_I q b = hs_I s b) ∧ hs_I q M 4 = nI p ∧ hs_I q M 5 = nI l ∧ hs_I q M 3 = nI n ∧ hs_I q M 2 = nI a ∧ hs_I q M 6 = nI h ∧ ∀ i, 7 ≤ i → hs_I q M i = hs_I s M i
theorem gk_91 : gm_k 91 = 2 := by decide +kernel
theorem x_count {s : hs_S} {A j t a n : Nat} {u : Nat → Nat} (w : WT s) (hA : isS A) (hR : SF (hs_R s) A) (hj : j < 8) (v : sv s A t u) (h2 : hs_I s (A + 6 + 2 * j) 2 = nI a) (h3 : hs_I s (A + 6 + 2 * j) 3 = nI n) (ha : a + n ≤ 100000) :
    Tq (fX2_wrongHandlerCount 91 A (A + 6 + 2 * j) s) (fun q => (a + n < t ∧ u (a + n) ≤ 8 ∧ a + n + 1 + 7 * u (a + n) ≤ t ∧ q = (-1, hs_wI s (A + 6 + 2 * j) 6 (nI (u (a + n))))) ∨ (¬ (a + n < t ∧ u (a + n) ≤ 8 ∧ a + n + 1 + 7 * u (a + n) ≤ t) ∧ ¬ q.1 = -1)) := by
  obtain ⟨k1, k2, k3, k4, k5, k6⟩ := sk hA
  obtain ⟨m1, m2, m3⟩ := k6 j hj
  have l1 := v.lt hA
  have hne : A ≠ A + 6 + 2 * j := by omega
  unfold fX2_wrongHandlerCount
  rw [if_pos (w.k m1), if_pos (w.k k1), h2, h3, nI_add, v.1]
  by_cases c1 : a + n < t
  rotate_left
  · rw [if_neg (fun q => c1 ((lti (by omega) (by omega)).mp q))]
    exact Tq.some (Or.inr ⟨fun q => c1 q.1, nI_m1 (by omega)⟩)
  have hu : u (a + n) < 256 := by
    have := l1.2 (a + n)
    unfold uE at this
    rw [if_pos c1] at this
    exact this
  rw [if_pos ((lti (by omega) (by omega)).mpr c1), x_sval w hA hR v (by omega)]
  have e1 : uE u t (a + n) = u (a + n) := by unfold uE; rw [if_pos c1]
  rw [e1]
  show Tq (if hs_kd s (A + 6 + 2 * j) = 6 then _ else none) _
  rw [if_pos (w.k m1), hs_I_eq]
  by_cases c2 : u (a + n) ≤ 8
  rotate_left
  · have x2 : ¬ nI (u (a + n)) ≤ (8 : Int32) := fun q => c2 ((lei (b := 8) (by omega) (by decide)).mp q)
    rw [if_neg x2]
    exact Tq.some (Or.inr ⟨fun q => c2 q.2.1, nI_m1 (by omega)⟩)
  have x2 : nI (u (a + n)) ≤ (8 : Int32) := (lei (b := 8) (by omega) (by decide)).mpr c2
  have w1 : WT (hs_wI s (A + 6 + 2 * j) 6 (nI (u (a + n)))) := w.w (oW.h (s := 0) m1)
  rw [if_pos x2, if_pos (w1.k gk_91)]
  obtain ⟨⟨r, s'⟩, e, e2, e3⟩ := zfX2_endOf w1 gk_91 m1
  have e2' : s' = hs_wI s (A + 6 + 2 * j) 6 (nI (u (a + n))) := e2
  have e3' : r = en (hs_wI s (A + 6 + 2 * j) 6 (nI (u (a + n)))) (A + 6 + 2 * j) := e3
  have e4 : r = nI (a + n + 1 + 7 * u (a + n)) := by
    rw [e3']
    unfold en
    rw [hs_I_w, if_pos rfl, if_neg (by decide), hs_I_w, if_pos rfl, if_neg (by decide), hs_I_w, if_pos rfl, if_pos rfl, h2, h3, nI_add, nI_1, show (7 : Int32) = nI 7 from rfl, pk_mul, nI_add]
  rw [e, e2', e4]
  show Tq (if hs_kd (hs_wI s (A + 6 + 2 * j) 6 (nI (u (a + n)))) A = 0 then _ else none) _
  rw [if_pos (w1.k k1), hs_I_w, if_neg hne, v.1]
  by_cases c3 : a + n + 1 + 7 * u (a + n) ≤ t
  · rw [if_pos ((lei (by omega) (by omega)).mpr c3)]
    exact Tq.some (Or.inl ⟨c1, c2, c3, rfl⟩)
  · rw [if_neg (fun q => c3 ((lei (by omega) (by omega)).mp q))]
    exact Tq.some (Or.inr ⟨fun q => c3 q.2.2, nI_m1 (by omega)⟩)
theorem x_number {s : hs_S} {A j t o : Nat} {u : Nat → Nat} (w : WT s) (hA : isS A) (hR : SF (hs_R s) A) (hj : j < 8) (v : sv s A t u) (ho : o ≤ 40000) :
    Tq (fX2_wrongNumber 91 A (A + 6 + 2 * j) (nI o) s) (fun q => (okN u t o ∧ q.1 = -1 ∧ nF s q.2 (A + 6 + 2 * j) (u o) (u (o + 1)) (s_n u o) (o + 4) (s_h u o)) ∨ (¬ okN u t o ∧ ¬ q.1 = -1)) := by
  obtain ⟨k1, k2, k3, k4, k5, k6⟩ := sk hA
  obtain ⟨m1, m2, m3⟩ := k6 j hj
  have l1 := v.lt hA
  have hn1 : A ≠ A + 6 + 2 * j := by omega
  have hn2 : A + 5 ≠ A + 6 + 2 * j := by omega
  have uu : ∀ i, i < t → uE u t i = u i ∧ u i < 256 := fun i hi => by
    have := l1.2 i
    unfold uE at this ⊢
    rw [if_pos hi] at this ⊢
    exact ⟨rfl, this⟩
  generalize hM : A + 6 + 2 * j = M at m1 hn1 hn2
  unfold fX2_wrongNumber
  rw [if_pos (w.k k1), x_sval w hA hR v (by omega)]
  show Tq (if hs_kd s M = 6 then _ else none) _
  rw [if_pos (w.k m1), v.1]
  by_cases c1 : o < t
  rotate_left
  · rw [if_pos ((lei (by omega) (by omega)).mpr (by omega))]
    exact Tq.some (Or.inr ⟨fun q => c1 q.1, nI_m1 (by omega)⟩)
  rw [if_neg (fun q => absurd ((lei (by omega) (by omega)).mp q) (by omega)), (uu o c1).1, hs_I_eq]
  have b0 := (uu o c1).2
  by_cases c2 : u o ≤ 4
  rotate_left
  · have x : ¬ nI (u o) ≤ (4 : Int32) := fun q => c2 ((lei (b := 4) (by omega) (by decide)).mp q)
    rw [if_neg x]
    exact Tq.some (Or.inr ⟨fun q => c2 q.2.1, nI_m1 (by omega)⟩)
  have x2 : nI (u o) ≤ (4 : Int32) := (lei (b := 4) (by omega) (by decide)).mpr c2
  have w1 : WT (hs_wI s M 4 (nI (u o))) := w.w (oW.m (s := 0) (b := false) m1 (by decide))
  have v1 : sv (hs_wI s M 4 (nI (u o))) A t u := v.w hn1 hn2
  have hR1 : SF (hs_R (hs_wI s M 4 (nI (u o)))) A := hR
  rw [if_pos x2, if_pos (w1.k k1), nI_1, x_sval w1 hA hR1 v1 (by omega)]
  show Tq (if hs_kd (hs_wI s M 4 (nI (u o))) M = 6 then _ else none) _
  rw [if_pos (w1.k m1)]
  by_cases c3 : o + 1 < t
  rotate_left
  · rw [if_neg (fun q => c3 ((lti (by omega) (by omega)).mp q))]
    exact Tq.some (Or.inr ⟨fun q => c3 q.2.2.1, nI_m1 (by omega)⟩)
  have b1 := (uu (o + 1) c3).2
  rw [if_pos ((lti (by omega) (by omega)).mpr c3), (uu (o + 1) c3).1, hs_I_eq, hs_I_ne (show (4 : Nat) ≠ 5 by decide), hs_I_eq]
  by_cases c4 : u (o + 1) < u o
  · rw [if_pos ((lti (by omega) (by omega)).mpr c4)]
    exact Tq.some (Or.inr ⟨fun q => absurd q.2.2.2.1 (by omega), nI_m1 (by omega)⟩)
  rw [if_neg (fun q => c4 ((lti (by omega) (by omega)).mp q))]
  by_cases c5 : u (o + 1) ≤ 20
  rotate_left
  · have x : ¬ nI (u (o + 1)) ≤ (20 : Int32) := fun q => c5 ((lei (b := 20) (by omega) (by decide)).mp q)
    rw [if_neg x]
    exact Tq.some (Or.inr ⟨fun q => c5 q.2.2.2.2.1, nI_m1 (by omega)⟩)
  have x5 : nI (u (o + 1)) ≤ (20 : Int32) := (lei (b := 20) (by omega) (by decide)).mpr c5
  have w2 : WT (hs_wI (hs_wI s M 4 (nI (u o))) M 5 (nI (u (o + 1)))) := w1.w (oW.m (s := 0) (b := false) m1 (by decide))
  have v2 : sv (hs_wI (hs_wI s M 4 (nI (u o))) M 5 (nI (u (o + 1)))) A t u := v1.w hn1 hn2
  have hR2 : SF (hs_R (hs_wI (hs_wI s M 4 (nI (u o))) M 5 (nI (u (o + 1))))) A := hR
  have e2 : nI o + (2 : Int32) = nI (o + 2) := nI_add o 2
  have e4 : nI o + (4 : Int32) = nI (o + 4) := nI_add o 4
  rw [if_pos x5, if_pos (w2.k k1), e2, e4, x_spair w2 hA hR2 v2 (by omega)]
  show Tq (if hs_kd (hs_wI (hs_wI s M 4 (nI (u o))) M 5 (nI (u (o + 1)))) M = 6 then _ else none) _
  rw [if_pos (w2.k m1), nI_1]
  by_cases c6 : o + 2 + 1 < t
  rotate_left
  · rw [if_neg (fun q => c6 ((lti (by omega) (by omega)).mp q))]
    exact Tq.some (Or.inr ⟨fun q => c6 q.2.2.2.2.2.1, nI_m1 (by omega)⟩)
  have hn : 256 * uE u t (o + 2) + uE u t (o + 2 + 1) = s_n u o := by
    rw [(uu (o + 2) (by omega)).1, (uu (o + 2 + 1) c6).1]
    rfl
  have b2 := (uu (o + 2) (by omega)).2
  have b3 := (uu (o + 2 + 1) c6).2
  have hnb : s_n u o < 65536 := by
    unfold s_n
    have : u (o + 3) < 256 := b3
    omega
  rw [if_pos ((lti (by omega) (by omega)).mpr c6), hn, hs_I_ne (show (3 : Nat) ≠ 2 by decide), hs_I_eq]
  generalize hw3 : hs_wI (hs_wI (hs_wI (hs_wI s M 4 (nI (u o))) M 5 (nI (u (o + 1)))) M 3 (nI (s_n u o))) M 2 (nI (o + 4)) = s3
  by_cases c7 : s_n u o < 1
  · have x : nI (s_n u o) < (1 : Int32) := (lti (b := 1) (by omega) (by decide)).mpr c7
    rw [if_pos x]
    exact Tq.some (Or.inr ⟨fun q => absurd q.2.2.2.2.2.2.1 (by omega), nI_m1 (by omega)⟩)
  have x7 : ¬ nI (s_n u o) < (1 : Int32) := fun q => c7 ((lti (b := 1) (by omega) (by decide)).mp q)
  rw [if_neg x7]
  by_cases c8 : s_n u o ≤ 2000
  rotate_left
  · have x : ¬ nI (s_n u o) ≤ (2000 : Int32) := fun q => c8 ((lei (b := 2000) (by omega) (by decide)).mp q)
    rw [if_neg x]
    exact Tq.some (Or.inr ⟨fun q => c8 q.2.2.2.2.2.2.2.1, nI_m1 (by omega)⟩)
  have x8 : nI (s_n u o) ≤ (2000 : Int32) := (lei (b := 2000) (by omega) (by decide)).mpr c8
  have w3 : WT s3 := by
    rw [← hw3]
    refine (w2.w (oW.v (s := 0) m1 (of_lt ?_))).w (oW.v (s := 0) m1 (of_lt ?_))
    · rw [nI_toInt (by omega), ti_m]; omega
    · rw [nI_toInt (by omega), ti_m]; omega
  have v3 : sv s3 A t u := by rw [← hw3]; exact (v2.w hn1 hn2).w hn1 hn2
  have hR3 : SF (hs_R s3) A := by rw [← hw3]; exact hR
  have i2 : hs_I s3 M 2 = nI (o + 4) := by rw [← hw3, hs_I_w, if_pos rfl, if_pos rfl]
  have i3 : hs_I s3 M 3 = nI (s_n u o) := by rw [← hw3, hs_I_w, if_pos rfl, if_neg (by decide), hs_I_w, if_pos rfl, if_pos rfl]
  have i4 : hs_I s3 M 4 = nI (u o) := by rw [← hw3, hs_I_w, if_pos rfl, if_neg (by decide), hs_I_w, if_pos rfl, if_neg (by decide), hs_I_w, if_pos rfl, if_neg (by decide), hs_I_w, if_pos rfl, if_pos rfl]
  have i5 : hs_I s3 M 5 = nI (u (o + 1)) := by rw [← hw3, hs_I_w, if_pos rfl, if_neg (by decide), hs_I_w, if_pos rfl, if_neg (by decide), hs_I_w, if_pos rfl, if_pos rfl]
  have i7 : ∀ i, 7 ≤ i → hs_I s3 M i = hs_I s M i := fun i hi => by rw [← hw3, hs_I_w, if_pos rfl, if_neg (by omega), hs_I_w, if_pos rfl, if_neg (by omega), hs_I_w, if_pos rfl, if_neg (by omega), hs_I_w, if_pos rfl, if_neg (by omega)]
  have ib : ∀ b, b ≠ M → hs_I s3 b = hs_I s b := fun b hb => by
    funext i
    rw [← hw3, hs_I_w, if_neg hb, hs_I_w, if_neg hb, hs_I_w, if_neg hb, hs_I_w, if_neg hb]
  have iR : hs_R s3 = hs_R s := by rw [← hw3]; rfl
  rw [if_pos x8, if_pos (w3.k gk_91)]
  subst hM
  obtain ⟨⟨r, q⟩, e, hq⟩ := x_count w3 hA hR3 hj v3 i2 i3 (by omega)
  rw [e]
  refine Tq.some ?_
  rcases hq with ⟨d1, d2, d3, d4⟩ | ⟨d1, d2⟩
  · have er : r = -1 := congrArg Prod.fst d4
    have eq : q = hs_wI s3 (A + 6 + 2 * j) 6 (nI (u (o + 4 + s_n u o))) := congrArg Prod.snd d4
    have hh : u (o + 4 + s_n u o) = s_h u o := rfl
    refine Or.inl ⟨⟨c1, c2, c3, by omega, c5, by omega, by omega, c8, d1, d2, ?_⟩, er, ?_⟩
    · show o + 5 + s_n u o + 7 * s_h u o ≤ t
      rw [← hh]; omega
    · show nF s q (A + 6 + 2 * j) _ _ _ _ _
      rw [eq]
      refine ⟨iR, fun b hb => ?_, ?_, ?_, ?_, ?_, ?_, fun i hi => ?_⟩
      · rw [← ib b hb]; funext i; rw [hs_I_w, if_neg hb]
      · rw [hs_I_w, if_pos rfl, if_neg (by decide)]; exact i4
      · rw [hs_I_w, if_pos rfl, if_neg (by decide)]; exact i5
      · rw [hs_I_w, if_pos rfl, if_neg (by decide)]; exact i3
      · rw [hs_I_w, if_pos rfl, if_neg (by decide)]; exact i2
      · rw [hs_I_w, if_pos rfl, if_pos rfl]; rfl
      · rw [hs_I_w, if_pos rfl, if_neg (by omega)]; exact i7 i hi
  · refine Or.inr ⟨fun q => d1 ⟨q.2.2.2.2.2.2.2.2.1, q.2.2.2.2.2.2.2.2.2.1, ?_⟩, d2⟩
    have h1 : o + 5 + s_n u o + 7 * s_h u o ≤ t := q.2.2.2.2.2.2.2.2.2.2
    have hh : u (o + 4 + s_n u o) = s_h u o := rfl
    rw [hh]; omega
