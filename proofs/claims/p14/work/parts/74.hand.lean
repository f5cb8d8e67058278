/-! A METHOD'S HANDLERS -/
theorem x_begB {s : hs_S} {M a n x : Nat} {e c : Nat → Nat} (w : WT s) (v : mv s M a n e) (hc : cl0 c e n n) (hx : x < 2147483648) : ∃ r, fX7_begins M (nI x) s = some (r, s) ∧ (r = 0 ↔ ¬ s_is c n x) := by
  have lt := (v.lt w).1
  by_cases h : x < n
  · refine ⟨_, x_beg_in w v h, ?_⟩
    obtain ⟨-, h2, -⟩ := hc x h
    rw [s_bI_0]
    constructor
    · intro z q
      have h3 := h2.mpr ⟨h, q.2.2⟩
      rw [z] at h3
      exact absurd h3 (by decide)
    · intro z
      cases q : eB (e x)
      · rfl
      · exact absurd ⟨by omega, by omega, (h2.mp q).2⟩ z
  · refine ⟨_, x_beg_out w v (Or.inr ((lei (by omega) hx).mpr (by omega))), fun _ q => h (by have := q.2.1; omega), fun _ => rfl⟩
theorem x_setH {s : hs_S} {M tb k i : Nat} {z : Int32} (w : WT s) (hM : gm_k M = 6) (hR : hs_R s M 1 = tb + 1) (kt : gm_k tb = 100) (nt : gm_n tb = 32) (hk : k < 8) (hi : i < 4) : fX7_setHandlerNumber M (nI k) (nI i) z s = some (hs_wI s tb (4 * k + i) z) := by
  have e1 : nI k * (4 : Int32) + nI i = nI (4 * k + i) := by rw [show (4 : Int32) = nI 4 from rfl, pk_mul, nI_add, Nat.mul_comm]
  have e2 : hs_R s M 1 - 1 = tb := by rw [hR]; rfl
  unfold fX7_setHandlerNumber
  rw [if_pos (w.k hM), if_pos (w.f6_1 hM).1, e1, e2, yf_put w kt (by rw [nt]; omega)]
  rfl
/-- the table alone is written -/
def tF (s q : hs_S) (tb : Nat) : Prop := hs_R q = hs_R s ∧ ∀ b, b ≠ tb → hs_I q b = hs_I s b
theorem tF.rf {s : hs_S} {tb : Nat} : tF s s tb := ⟨rfl, fun _ _ => rfl⟩
theorem tF.tr {s q r : hs_S} {tb : Nat} (h : tF s q tb) (h' : tF q r tb) : tF s r tb := ⟨h'.1.trans h.1, fun b hb => (h'.2 b hb).trans (h.2 b hb)⟩
theorem tF.w {s q : hs_S} {tb i : Nat} {z : Int32} (h : tF s q tb) : tF s (hs_wI q tb i z) tb := ⟨h.1, fun b hb => (funext fun i => by rw [hs_I_w, if_neg hb]).trans (h.2 b hb)⟩
theorem mv.tf {s q : hs_S} {M a n tb : Nat} {e : Nat → Nat} (v : mv s M a n e) (h : tF s q tb) (h1 : M ≠ tb) (h2 : hs_R s M 0 - 1 ≠ tb) : mv q M a n e :=
  v.fr (by rw [h.2 M h1]) (by rw [h.2 M h1]) (by rw [h.1]) fun k _ => by rw [h.2 _ h2]
theorem sv.tf {s q : hs_S} {A t tb : Nat} {u : Nat → Nat} (v : sv s A t u) (h : tF s q tb) (h1 : A ≠ tb) (h2 : A + 5 ≠ tb) : sv q A t u :=
  ⟨by rw [h.2 A h1]; exact v.1, v.2.1, fun i hi => by rw [h.2 _ h2]; exact v.2.2 i hi⟩
theorem s_hr_v {u : Nat → Nat} (b k i : Nat) (hi : i < 4) : s_hr u b (4 * k + i) = if i = 3 then u (b + 7 * k + 6) else 256 * u (b + 7 * k + 2 * i) + u (b + 7 * k + 2 * i + 1) := by
  unfold s_hr
  rw [show (4 * k + i) % 4 = i by omega, show (4 * k + i) / 4 = k by omega]
theorem x_h2 {A j t a n h : Nat} {u c : Nat → Nat} (hA : isS A) (hj : j < 8) (hh : h ≤ 8) (hend : a + n + 1 + 7 * h ≤ t) : ∀ (d k f : Nat) (s : hs_S) (e : Nat → Nat), k + d = h → d < f → WT s → SF (hs_R s) A → sv s A t u → mv s (A + 6 + 2 * j) a n e → hs_I s (A + 6 + 2 * j) 6 = nI h → cl0 c e n n →
    Tq (lX2_wrongHandler_2 f 91 A (A + 6 + 2 * j) (nI k) s) (fun q => (q.1 = 0 ∧ (∀ z, k ≤ z → z < h → s_hk c n (s_hr u (a + n + 1)) z) ∧ tF s q.2.2 (A + 7 + 2 * j) ∧ WT q.2.2 ∧ (∀ i, 4 * k ≤ i → i < 4 * h → hs_I q.2.2 (A + 7 + 2 * j) i = nI (s_hr u (a + n + 1) i)) ∧ ∀ i, i < 4 * k → hs_I q.2.2 (A + 7 + 2 * j) i = hs_I s (A + 7 + 2 * j) i) ∨ (q.1 = 1 ∧ (∃ x, x < 2147483648 ∧ q.2.1 = nI x) ∧ ¬ ∀ z, k ≤ z → z < h → s_hk c n (s_hr u (a + n + 1)) z))
  | d, k, 0, s, e, _, hf, _, _, _, _, _, _ => absurd hf (Nat.not_lt_zero _)
  | 0, k, f + 1, s, e, hk, _, w, hR, v, m, h6, hc => by
    rw [lX2_wrongHandler_2, if_pos (w.k m.1), h6, if_pos ((lei (by omega) (by omega)).mpr (by omega))]
    exact Tq.some (Or.inl ⟨rfl, fun z z1 z2 => absurd z2 (by omega), tF.rf, w, fun i i1 i2 => absurd i2 (by omega), fun _ _ => rfl⟩)
  | d + 1, k, f + 1, s, e, hk, hf, w, hR, v, m, h6, hc => by
    obtain ⟨k1, k2, k3, k4, k5, k6⟩ := sk hA
    obtain ⟨m1, m2, m3⟩ := k6 j hj
    obtain ⟨lt1, lt2, lt3⟩ := m.lt w
    have l1 := v.lt hA
    have hR1 := (hR.2.2.2.2 j hj).2.2
    have hR0 := (hR.2.2.2.2 j hj).2.1
    have uu : ∀ i, i < t → uE u t i = u i ∧ u i < 256 := fun i hi => by
      have := l1.2 i
      unfold uE at this ⊢
      rw [if_pos hi] at this ⊢
      exact ⟨rfl, this⟩
    have bad : ¬ s_hk c n (s_hr u (a + n + 1)) k → ¬ ∀ z, k ≤ z → z < h → s_hk c n (s_hr u (a + n + 1)) z := fun q z => q (z k (Nat.le_refl _) (by omega))
    have E1 : fX2_handlerPlace 91 (A + 6 + 2 * j) (nI k) s = some (nI (a + n + 1 + 7 * k), s) := by
      unfold fX2_handlerPlace
      rw [if_pos (w.k m1), m.2.1, m.2.2.1, nI_add, nI_1, show (7 : Int32) = nI 7 from rfl, pk_mul, nI_add]
    have pr : ∀ i, i < 3 → 256 * uE u t (a + n + 1 + 7 * k + 2 * i) + uE u t (a + n + 1 + 7 * k + 2 * i + 1) = s_hr u (a + n + 1) (4 * k + i) ∧ s_hr u (a + n + 1) (4 * k + i) < 65536 := by
      intro i hi
      have b1 := uu (a + n + 1 + 7 * k + 2 * i) (by omega)
      have b2 := uu (a + n + 1 + 7 * k + 2 * i + 1) (by omega)
      rw [s_hr_v _ _ _ (by omega), if_neg (by omega), b1.1, b2.1]
      exact ⟨rfl, by omega⟩
    have p3 : uE u t (a + n + 1 + 7 * k + 6) = s_hr u (a + n + 1) (4 * k + 3) ∧ s_hr u (a + n + 1) (4 * k + 3) < 256 := by
      have b1 := uu (a + n + 1 + 7 * k + 6) (by omega)
      rw [s_hr_v _ _ _ (by omega), if_pos rfl, b1.1]
      exact ⟨rfl, b1.2⟩
    have P0 : fX0_pairAt A (nI (a + n + 1 + 7 * k)) s = some (nI (s_hr u (a + n + 1) (4 * k + 0)), s) := by rw [x_spair w hA hR v (by omega), ← (pr 0 (by omega)).1]; rfl
    have e2 : nI (a + n + 1 + 7 * k) + (2 : Int32) = nI (a + n + 1 + 7 * k + 2) := nI_add _ 2
    have e4 : nI (a + n + 1 + 7 * k) + (4 : Int32) = nI (a + n + 1 + 7 * k + 4) := nI_add _ 4
    have e6 : nI (a + n + 1 + 7 * k) + (6 : Int32) = nI (a + n + 1 + 7 * k + 6) := nI_add _ 6
    have P1 : fX0_pairAt A (nI (a + n + 1 + 7 * k + 2)) s = some (nI (s_hr u (a + n + 1) (4 * k + 1)), s) := by rw [x_spair w hA hR v (by omega), ← (pr 1 (by omega)).1]
    have P2 : fX0_pairAt A (nI (a + n + 1 + 7 * k + 4)) s = some (nI (s_hr u (a + n + 1) (4 * k + 2)), s) := by rw [x_spair w hA hR v (by omega), ← (pr 2 (by omega)).1]
    have P3 : fX0_valueAt A (nI (a + n + 1 + 7 * k + 6)) s = some (nI (s_hr u (a + n + 1) (4 * k + 3)), s) := by rw [x_sval w hA hR v (by omega), p3.1]
    have b0 := (pr 0 (by omega)).2
    have b1 := (pr 1 (by omega)).2
    have b2 := (pr 2 (by omega)).2
    have b3 := p3.2
    generalize hF : s_hr u (a + n + 1) (4 * k + 0) = F at P0 b0
    generalize hT : s_hr u (a + n + 1) (4 * k + 1) = T at P1 b1
    generalize hG : s_hr u (a + n + 1) (4 * k + 2) = G at P2 b2
    generalize hK : s_hr u (a + n + 1) (4 * k + 3) = K at P3 b3
    have hk4 : s_hk c n (s_hr u (a + n + 1)) k ↔ s_is c n F ∧ s_is c n G ∧ F < T ∧ (T = n ∨ s_is c n T) ∧ K ≤ 4 := by
      unfold s_hk
      rw [hT, hG, hK]
      have : s_hr u (a + n + 1) (4 * k) = F := hF
      rw [this]
    rw [lX2_wrongHandler_2, if_pos (w.k m1), h6, if_neg (fun q => absurd ((lei (by omega) (by omega)).mp q) (by omega)), if_pos (w.k gk_91), E1]
    show Tq (if hs_kd s A = 0 then _ else none) _
    rw [if_pos (w.k k1), P0]
    show Tq (if hs_kd s A = 0 then _ else none) _
    rw [if_pos (w.k k1), e2, P1]
    show Tq (if hs_kd s A = 0 then _ else none) _
    rw [if_pos (w.k k1), e4, P2]
    show Tq (if hs_kd s A = 0 then _ else none) _
    rw [if_pos (w.k k1), e6, P3]
    show Tq (if nI T ≤ nI F then _ else _) _
    -- the join: the handler's row is written, or it is not right
    have g87 : ∀ s0 : Int32, (s0 = 0 ↔ ¬ (F < T ∧ (T = n ∨ s_is c n T))) → Tq (jX2_wrongHandler_87 (fun y0 g => lX2_wrongHandler_2 f 91 A (A + 6 + 2 * j) y0 g) 91 A (A + 6 + 2 * j) (nI k) (nI (a + n + 1 + 7 * k)) (nI F) (nI T) (nI G) (nI K) s0 s) (fun q => (q.1 = 0 ∧ (∀ z, k ≤ z → z < h → s_hk c n (s_hr u (a + n + 1)) z) ∧ tF s q.2.2 (A + 7 + 2 * j) ∧ WT q.2.2 ∧ (∀ i, 4 * k ≤ i → i < 4 * h → hs_I q.2.2 (A + 7 + 2 * j) i = nI (s_hr u (a + n + 1) i)) ∧ ∀ i, i < 4 * k → hs_I q.2.2 (A + 7 + 2 * j) i = hs_I s (A + 7 + 2 * j) i) ∨ (q.1 = 1 ∧ (∃ x, x < 2147483648 ∧ q.2.1 = nI x) ∧ ¬ ∀ z, k ≤ z → z < h → s_hk c n (s_hr u (a + n + 1)) z)) := by
      intro s0 hs0
      have hx : ∃ x, x < 2147483648 ∧ nI (a + n + 1 + 7 * k) = nI x := ⟨_, by omega, rfl⟩
      obtain ⟨r1, er1, hr1⟩ := x_begB (x := F) w m hc (by omega)
      obtain ⟨r2, er2, hr2⟩ := x_begB (x := G) w m hc (by omega)
      unfold jX2_wrongHandler_87
      rw [if_pos (w.k m1), er1]
      show Tq (if r1 = 0 then _ else _) _
      by_cases c1 : r1 = 0
      · rw [if_pos c1]
        exact Tq.some (Or.inr ⟨rfl, hx, bad fun q => hr1.mp c1 (hk4.mp q).1⟩)
      rw [if_neg c1, if_pos (w.k m1), er2]
      show Tq (if r2 = 0 then _ else _) _
      by_cases c2 : r2 = 0
      · rw [if_pos c2]
        exact Tq.some (Or.inr ⟨rfl, hx, bad fun q => hr2.mp c2 (hk4.mp q).2.1⟩)
      rw [if_neg c2]
      by_cases c3 : s0 = 0
      · rw [if_pos c3]
        exact Tq.some (Or.inr ⟨rfl, hx, bad fun q => hs0.mp c3 ⟨(hk4.mp q).2.2.1, (hk4.mp q).2.2.2.1⟩⟩)
      rw [if_neg c3]
      by_cases c4 : K ≤ 4
      rotate_left
      · have x : ¬ nI K ≤ (4 : Int32) := fun q => c4 ((lei (b := 4) (by omega) (by decide)).mp q)
        rw [if_neg x]
        exact Tq.some (Or.inr ⟨rfl, hx, bad fun q => c4 (hk4.mp q).2.2.2.2⟩)
      have x4 : nI K ≤ (4 : Int32) := (lei (b := 4) (by omega) (by decide)).mpr c4
      have okk : s_hk c n (s_hr u (a + n + 1)) k := by
        have h1 : s_is c n F := Classical.byContradiction fun q => c1 (hr1.mpr q)
        have h2 : s_is c n G := Classical.byContradiction fun q => c2 (hr2.mpr q)
        have h3 : F < T ∧ (T = n ∨ s_is c n T) := Classical.byContradiction fun q => c3 (hs0.mpr q)
        exact hk4.mpr ⟨h1, h2, h3.1, h3.2, c4⟩
      have hR1' : hs_R s (A + 6 + 2 * j) 1 = A + 7 + 2 * j + 1 := by rw [hR1]; omega
      have ag : aG (A + 7 + 2 * j) := ⟨m2, by rcases hA with q | q | q | q <;> omega, by rcases hA with q | q | q | q <;> omega⟩
      have o : ∀ i z, oW 0 false (A + 7 + 2 * j) i z := fun i z => oW.a ag
      have s1 : fX7_setHandlerNumber (A + 6 + 2 * j) (nI k) (0 : Int32) (nI F) s = _ := x_setH (i := 0) w m1 hR1' m2 m3 (by omega) (by decide)
      rw [if_pos x4, if_pos (w.k m1), s1]
      have w1 := w.w (o (4 * k + 0) (nI F))
      have t1 : tF s (hs_wI s (A + 7 + 2 * j) (4 * k + 0) (nI F)) (A + 7 + 2 * j) := tF.rf.w
      show Tq (if hs_kd (hs_wI s (A + 7 + 2 * j) (4 * k + 0) (nI F)) (A + 6 + 2 * j) = 6 then _ else none) _
      have s2 : fX7_setHandlerNumber (A + 6 + 2 * j) (nI k) (1 : Int32) (nI T) _ = _ := x_setH (i := 1) w1 m1 hR1' m2 m3 (by omega) (by decide)
      rw [if_pos (w1.k m1), s2]
      have w2 := w1.w (o (4 * k + 1) (nI T))
      show Tq (if hs_kd (hs_wI (hs_wI s (A + 7 + 2 * j) (4 * k + 0) (nI F)) (A + 7 + 2 * j) (4 * k + 1) (nI T)) (A + 6 + 2 * j) = 6 then _ else none) _
      have s3 : fX7_setHandlerNumber (A + 6 + 2 * j) (nI k) (2 : Int32) (nI G) _ = _ := x_setH (i := 2) w2 m1 hR1' m2 m3 (by omega) (by decide)
      rw [if_pos (w2.k m1), s3]
      have w3 := w2.w (o (4 * k + 2) (nI G))
      show Tq (if hs_kd (hs_wI (hs_wI (hs_wI s (A + 7 + 2 * j) (4 * k + 0) (nI F)) (A + 7 + 2 * j) (4 * k + 1) (nI T)) (A + 7 + 2 * j) (4 * k + 2) (nI G)) (A + 6 + 2 * j) = 6 then _ else none) _
      have s4 : fX7_setHandlerNumber (A + 6 + 2 * j) (nI k) (3 : Int32) (nI K) _ = _ := x_setH (i := 3) w3 m1 hR1' m2 m3 (by omega) (by decide)
      rw [if_pos (w3.k m1), s4]
      have w4 := w3.w (o (4 * k + 3) (nI K))
      have t4 : tF s (hs_wI (hs_wI (hs_wI (hs_wI s (A + 7 + 2 * j) (4 * k + 0) (nI F)) (A + 7 + 2 * j) (4 * k + 1) (nI T)) (A + 7 + 2 * j) (4 * k + 2) (nI G)) (A + 7 + 2 * j) (4 * k + 3) (nI K)) (A + 7 + 2 * j) := ((t1.w).w).w
      have v4 : ∀ i, hs_I (hs_wI (hs_wI (hs_wI (hs_wI s (A + 7 + 2 * j) (4 * k + 0) (nI F)) (A + 7 + 2 * j) (4 * k + 1) (nI T)) (A + 7 + 2 * j) (4 * k + 2) (nI G)) (A + 7 + 2 * j) (4 * k + 3) (nI K)) (A + 7 + 2 * j) i = if i = 4 * k + 3 then nI K else if i = 4 * k + 2 then nI G else if i = 4 * k + 1 then nI T else if i = 4 * k + 0 then nI F else hs_I s (A + 7 + 2 * j) i := fun i => by
        rw [hs_I_w, if_pos rfl, hs_I_w, if_pos rfl, hs_I_w, if_pos rfl, hs_I_w, if_pos rfl]
      generalize hs_wI (hs_wI (hs_wI (hs_wI s (A + 7 + 2 * j) (4 * k + 0) (nI F)) (A + 7 + 2 * j) (4 * k + 1) (nI T)) (A + 7 + 2 * j) (4 * k + 2) (nI G)) (A + 7 + 2 * j) (4 * k + 3) (nI K) = q4 at w4 t4 v4
      have hM' : A + 6 + 2 * j ≠ A + 7 + 2 * j := by omega
      have hrow' : hs_R s (A + 6 + 2 * j) 0 - 1 ≠ A + 7 + 2 * j := by rw [hR0]; omega
      show Tq (lX2_wrongHandler_2 f 91 A (A + 6 + 2 * j) (nI k + (1 : Int32)) q4) _
      rw [nI_1]
      refine (x_h2 hA hj hh hend d (k + 1) f q4 e (by omega) (by omega) w4 (by rw [t4.1]; exact hR) (v.tf t4 (by omega) (by omega)) (m.tf t4 hM' hrow') (by rw [t4.2 _ hM']; exact h6) hc).mono fun q hq => ?_
      have all : (∀ z, k + 1 ≤ z → z < h → s_hk c n (s_hr u (a + n + 1)) z) ↔ ∀ z, k ≤ z → z < h → s_hk c n (s_hr u (a + n + 1)) z := by
        refine ⟨fun p z z1 z2 => ?_, fun p z z1 z2 => p z (by omega) z2⟩
        by_cases e : z = k
        · rw [e]; exact okk
        · exact p z (by omega) z2
      rcases hq with ⟨q1, q2, q3, q5, q6, q7⟩ | ⟨q1, q2, q3⟩
      · refine Or.inl ⟨q1, all.mp q2, t4.tr q3, q5, fun i i1 i2 => ?_, fun i i1 => ?_⟩
        · by_cases ei : 4 * (k + 1) ≤ i
          · exact q6 i ei i2
          · rw [q7 i (by omega), v4 i]
            obtain e | e | e | e : i = 4 * k + 0 ∨ i = 4 * k + 1 ∨ i = 4 * k + 2 ∨ i = 4 * k + 3 := by omega
            · rw [if_neg (by omega), if_neg (by omega), if_neg (by omega), if_pos e, e, hF]
            · rw [if_neg (by omega), if_neg (by omega), if_pos e, e, hT]
            · rw [if_neg (by omega), if_pos e, e, hG]
            · rw [if_pos e, e, hK]
        · rw [q7 i (by omega), v4 i, if_neg (by omega), if_neg (by omega), if_neg (by omega), if_neg (by omega)]
      · exact Or.inr ⟨q1, q2, fun p => q3 (all.mpr p)⟩
    by_cases c0 : F < T
    rotate_left
    · rw [if_pos ((lei (by omega) (by omega)).mpr (by omega))]
      unfold jX2_wrongHandler_86
      exact g87 0 ⟨fun _ q => c0 q.1, fun _ => rfl⟩
    rw [if_neg (fun q => absurd ((lei (by omega) (by omega)).mp q) (by omega)), if_pos (w.k m1)]
    obtain ⟨r, er, hr⟩ := x_begB (x := T) w m hc (by omega)
    rw [er]
    show Tq (if r = 0 then _ else _) _
    by_cases c1 : r = 0
    · rw [if_pos c1, if_pos (w.k m1), m.2.2.1]
      by_cases c2 : T = n
      · rw [if_pos (by rw [c2])]
        unfold jX2_wrongHandler_82
        exact g87 1 ⟨fun q => absurd q (by decide), fun q => absurd ⟨c0, Or.inl c2⟩ q⟩
      · rw [if_neg (fun q => c2 ((eqi (by omega) (by omega)).mp q))]
        unfold jX2_wrongHandler_86
        exact g87 0 ⟨fun _ q => q.2.elim c2 (hr.mp c1), fun _ => rfl⟩
    · rw [if_neg c1]
      unfold jX2_wrongHandler_82
      have h1 : s_is c n T := Classical.byContradiction fun q => c1 (hr.mpr q)
      exact g87 1 ⟨fun q => absurd q (by decide), fun q => absurd ⟨c0, Or.inr h1⟩ q⟩
