/-- only the method T is written -/
theorem wiS.t {s q : hs_S} {M a n l N A t T : Nat} {e P c S : Nat → Nat} {far : Nat → Bool} {pd : Bool} (h : wiS s M a n l N A t T e P c S far pd) (hR : hs_R q = hs_R s) (w : WT q) (hb : ∀ b, b ≠ T → hs_I q b = hs_I s b) : wiS q M a n l N A t T e P c S far pd := by
  obtain ⟨⟨h1, h2, h3, h4, h5, h6, h7, h8⟩, c2, c3, c4, c5, c6, c7⟩ := h
  obtain ⟨o1, hA, o3, o4, kT⟩ := c6
  obtain ⟨k1, k2, k3, k4, k5, k6⟩ := sk hA
  obtain ⟨g1, g2, -, -, -, g6, -, g8, -⟩ := gk_95
  have t1 : 95 ≠ T := fun z => by rw [← z, g1] at kT; exact absurd kT (by decide)
  have t2 : 96 ≠ T := fun z => by rw [← z, g2] at kT; exact absurd kT (by decide)
  have t3 : 99 ≠ T := fun z => by rw [← z, g8] at kT; exact absurd kT (by decide)
  have t5 : 98 ≠ T := fun z => by rw [← z, g6] at kT; exact absurd kT (by decide)
  have t6 : A ≠ T := fun z => by rw [← z, k1] at kT; exact absurd kT (by decide)
  have t4 : hs_R s M 0 - 1 ≠ T := fun z => by
    have := (h1.f6_0 h3.1).2.1
    rw [z, kT] at this
    exact absurd this (by decide)
  refine ⟨⟨w, by rw [hR]; exact h2, h3.fr (by rw [hb M c7.2.2.1]) (by rw [hb M c7.2.2.1]) (by rw [hR]) (fun k _ => by rw [hb _ t4]), h4, by rw [hR]; exact h5, fun i hi => by rw [hb 96 t2]; exact h6 i hi, by rw [hb 95 t1]; exact h7, fun i hi => by rw [hb 99 t3]; exact h8 i hi⟩, c2, fun j j1 j2 j3 => by rw [hb 98 t5]; exact c3 j j1 j2 j3, c4, c5, ⟨w, hA, by rw [hR]; exact o3, by rw [hb A t6]; exact o4, kT⟩, ?_⟩
  unfold apt
  rw [hR]
  exact c7
/-- what write() leaves: method T of the set at A, its table tt -/
def wrS (s q : hs_S) (M A T tt t n h : Nat) (e P c S R : Nat → Nat) (far : Nat → Bool) (pd : Bool) : Prop := hs_R q = hs_R s ∧ WT q ∧ (∀ b, b ≠ A → b ≠ A + 5 → b ≠ T → b ≠ tt → (b < 95 ∨ 100 ≤ b) → hs_I q b = hs_I s b) ∧ (∀ i, i ≠ 3 → hs_I q A i = hs_I s A i) ∧ hs_I q A 3 = nI (t + S n) ∧ (∀ i, i < t → hs_I q (A + 5) i = hs_I s (A + 5) i) ∧
  (∀ j, s_B c j → j < n → ∀ o, o < s_pl P c n (fun i => eK (e i)) pd j + s_ln c far j → hs_I q (A + 5) (t + (S j + o)) = nI (s_em P c n (fun i => eK (e i)) pd far S j o)) ∧
  hs_I q T 2 = nI t ∧ hs_I q T 3 = nI (S n) ∧ hs_I q T 4 = hs_I s M 4 ∧ hs_I q T 5 = hs_I s M 5 ∧ hs_I q T 6 = nI h ∧ hs_I q T 7 = hs_I s M 7 ∧ hs_I q T 8 = nI (lks (fun i => eB (e i)) (lbk c far) n 0) ∧ hs_I q T 9 = nI (lks (fun i => eB (e i)) (ljk c far) n 0) ∧ hs_I q T 10 = 0 ∧
  ∀ z, z < h → (∀ i, i < 3 → hs_I q tt (4 * z + i) = nI (S (R (4 * z + i)))) ∧ hs_I q tt (4 * z + 3) = nI (R (4 * z + 3))
theorem x_write {s : hs_S} {M a n l N A t T tm tt h : Nat} {e P c S R : Nat → Nat} {far : Nat → Bool} {pd : Bool} (H : wiS s M a n l N A t T e P c S far pd) (hp : plS s n c S) (hr : t + S n ≤ gm_n (A + 5)) (hh : h ≤ 8) (h6 : hs_I s M 6 = nI h) (r1 : hs_R s M 1 = tm + 1) (r2 : hs_R s T 1 = tt + 1) (km : gm_k tm = 100) (nm : gm_n tm = 32) (gt : aG tt) (nt : gm_n tt = 32) (ntm : tm ≠ tt) (ntA : tm ≠ A + 5) (ttA : A + 5 ≠ tt) (t95 : tt < 95) (ht : ∀ z, z < 4 * h → hs_I s tm z = nI (R z)) (hR3 : ∀ z, z < h → ∀ i, i < 3 → R (4 * z + i) ≤ n ∧ s_B c (R (4 * z + i))) :
    Tq (fX5_write 95 M A T s) (fun q => wrS s q M A T tt t n h e P c S R far pd) := by
  have w := H.1.1
  have v := H.1.2.2.1
  have kM := v.1
  have hL := H.1.2.1
  have o := H.2.2.2.2.2.1
  have kT := o.2.2.2.2
  have hA := o.2.1
  have apx := H.2.2.2.2.2.2
  obtain ⟨k1, k2, k3, k4, k5, k6⟩ := sk hA
  have hn := H.2.1.1
  have hA92 : A < 68 := by rcases hA with q | q | q | q <;> omega
  have tA : A ≠ T := fun z => by rw [← z, k1] at kT; exact absurd kT (by decide)
  have tA5 : A + 5 ≠ T := fun z => by rw [← z, k4] at kT; exact absurd kT (by decide)
  have t97 : 97 ≠ T := fun z => by rw [← z, gk_95.2.2.2.1] at kT; exact absurd kT (by decide)
  have ttT : T ≠ tt := fun z => by rw [z, gt.1] at kT; exact absurd kT (by decide)
  have tmT : tm ≠ T := fun z => by rw [← z, km] at kT; exact absurd kT (by decide)
  have ttM : M ≠ tt := fun z => by rw [z, gt.1] at kM; exact absurd kM (by decide)
  have ttA0 : A ≠ tt := fun z => by rw [z, gt.1] at k1; exact absurd k1 (by decide)
  have tmA0 : tm ≠ A := fun z => by rw [← z, km] at k1; exact absurd k1 (by decide)
  have nMT := apx.2.2.1
  have hB0 : s_B c 0 := ⟨0, rfl⟩
  unfold fX5_write
  obtain ⟨g2, E2, w2, R2, b2, z2⟩ := x_empty7 w kT
  rw [if_pos (w.k kT), E2]
  show Tq (if hs_kd g2 M = 6 then _ else none) _
  rw [if_pos (w2.k kM), if_pos (w2.k kT)]
  have w3 : WT (hs_wI (hs_wI (hs_wI g2 T 4 (hs_I g2 M 4)) T 5 (hs_I (hs_wI g2 T 4 (hs_I g2 M 4)) M 5)) T 7 (hs_I (hs_wI (hs_wI g2 T 4 (hs_I g2 M 4)) T 5 (hs_I (hs_wI g2 T 4 (hs_I g2 M 4)) M 5)) M 7)) := ((w2.w (oW.m (s := 0) (b := false) kT (by decide))).w (oW.m (s := 0) (b := false) kT (by decide))).w (oW.m (s := 0) (b := false) kT (by decide))
  have b3 : ∀ b, b ≠ T → hs_I (hs_wI (hs_wI (hs_wI g2 T 4 (hs_I g2 M 4)) T 5 (hs_I (hs_wI g2 T 4 (hs_I g2 M 4)) M 5)) T 7 (hs_I (hs_wI (hs_wI g2 T 4 (hs_I g2 M 4)) T 5 (hs_I (hs_wI g2 T 4 (hs_I g2 M 4)) M 5)) M 7)) b = hs_I s b := fun b hb => by
    rw [← b2 b hb]
    funext i
    rw [hs_I_w, if_neg hb, hs_I_w, if_neg hb, hs_I_w, if_neg hb]
  have R3 : hs_R (hs_wI (hs_wI (hs_wI g2 T 4 (hs_I g2 M 4)) T 5 (hs_I (hs_wI g2 T 4 (hs_I g2 M 4)) M 5)) T 7 (hs_I (hs_wI (hs_wI g2 T 4 (hs_I g2 M 4)) T 5 (hs_I (hs_wI g2 T 4 (hs_I g2 M 4)) M 5)) M 7)) = hs_R s := R2
  have i4 : hs_I (hs_wI (hs_wI (hs_wI g2 T 4 (hs_I g2 M 4)) T 5 (hs_I (hs_wI g2 T 4 (hs_I g2 M 4)) M 5)) T 7 (hs_I (hs_wI (hs_wI g2 T 4 (hs_I g2 M 4)) T 5 (hs_I (hs_wI g2 T 4 (hs_I g2 M 4)) M 5)) M 7)) T 4 = hs_I s M 4 := by rw [hs_I_ne (by decide), hs_I_ne (by decide), hs_I_eq, b2 M nMT]
  have i5 : hs_I (hs_wI (hs_wI (hs_wI g2 T 4 (hs_I g2 M 4)) T 5 (hs_I (hs_wI g2 T 4 (hs_I g2 M 4)) M 5)) T 7 (hs_I (hs_wI (hs_wI g2 T 4 (hs_I g2 M 4)) T 5 (hs_I (hs_wI g2 T 4 (hs_I g2 M 4)) M 5)) M 7)) T 5 = hs_I s M 5 := by rw [hs_I_ne (by decide), hs_I_eq, hs_I_w, if_neg nMT, b2 M nMT]
  have i7 : hs_I (hs_wI (hs_wI (hs_wI g2 T 4 (hs_I g2 M 4)) T 5 (hs_I (hs_wI g2 T 4 (hs_I g2 M 4)) M 5)) T 7 (hs_I (hs_wI (hs_wI g2 T 4 (hs_I g2 M 4)) T 5 (hs_I (hs_wI g2 T 4 (hs_I g2 M 4)) M 5)) M 7)) T 7 = hs_I s M 7 := by rw [hs_I_eq, hs_I_w, if_neg nMT, hs_I_w, if_neg nMT, b2 M nMT]
  have i8 : ∀ i, (i = 8 ∨ i = 9 ∨ i = 10) → hs_I (hs_wI (hs_wI (hs_wI g2 T 4 (hs_I g2 M 4)) T 5 (hs_I (hs_wI g2 T 4 (hs_I g2 M 4)) M 5)) T 7 (hs_I (hs_wI (hs_wI g2 T 4 (hs_I g2 M 4)) T 5 (hs_I (hs_wI g2 T 4 (hs_I g2 M 4)) M 5)) M 7)) T i = 0 := fun i hi => by rw [hs_I_ne (by omega), hs_I_ne (by omega), hs_I_ne (by omega)]; exact z2 i (by omega) (by omega)
  generalize hs_wI (hs_wI (hs_wI g2 T 4 (hs_I g2 M 4)) T 5 (hs_I (hs_wI g2 T 4 (hs_I g2 M 4)) M 5)) T 7 (hs_I (hs_wI (hs_wI g2 T 4 (hs_I g2 M 4)) T 5 (hs_I (hs_wI g2 T 4 (hs_I g2 M 4)) M 5)) M 7) = g3 at w3 b3 R3 i4 i5 i7 i8
  show Tq (if hs_kd g3 A = 0 then _ else none) _
  have h3A : hs_I g3 A 3 = nI t := by rw [b3 A tA]; exact o.2.2.2.1
  have hlt := gm_n_lt (A + 5)
  rw [if_pos (w3.k k1), h3A]
  have hln : gm_n (A + 5) ≤ 32000 := gm_n_le (by omega)
  have w4 : WT (hs_wI g3 T 2 (nI t)) := w3.w (oW.v (s := 0) kT (lti (b := 1000000) (by omega) (by decide) |>.mpr (by omega)))
  have b4 : ∀ b, b ≠ T → hs_I (hs_wI g3 T 2 (nI t)) b = hs_I s b := fun b hb => (funext fun i => by rw [hs_I_w, if_neg hb]).trans (b3 b hb)
  have R4 : hs_R (hs_wI g3 T 2 (nI t)) = hs_R s := R3
  have j2 : hs_I (hs_wI g3 T 2 (nI t)) T 2 = nI t := hs_I_eq _ _ _ _
  have j4 : hs_I (hs_wI g3 T 2 (nI t)) T 4 = hs_I s M 4 := by rw [hs_I_ne (by decide)]; exact i4
  have j5 : hs_I (hs_wI g3 T 2 (nI t)) T 5 = hs_I s M 5 := by rw [hs_I_ne (by decide)]; exact i5
  have j7 : hs_I (hs_wI g3 T 2 (nI t)) T 7 = hs_I s M 7 := by rw [hs_I_ne (by decide)]; exact i7
  have j8 : ∀ i, (i = 8 ∨ i = 9 ∨ i = 10) → hs_I (hs_wI g3 T 2 (nI t)) T i = 0 := fun i hi => by rw [hs_I_ne (by omega)]; exact i8 i hi
  generalize hs_wI g3 T 2 (nI t) = g4 at w4 b4 R4 j2 j4 j5 j7 j8
  have H4 := H.t R4 w4 b4
  have e0 : (0 : Int32) = nI 0 := rfl
  have S0 := H.2.2.2.1.1
  obtain ⟨g5, E5, bs, a5, v5⟩ := x_w39 n 0 0 hs_N t g4 (by omega) (by unfold hs_N; omega) (Nat.le_refl _) (Nat.zero_le _) hB0 (fun i _ i2 => absurd i2 (Nat.not_lt_zero _)) H4 (by rw [S0]; exact hr)
  rw [S0, Nat.sub_zero] at a5
  rw [S0] at v5
  have H5 := H4.aw a5
  have w5 := H5.1.1
  obtain ⟨x1, x2, x3, x4, x5, x6, x7, x8, x9, x10⟩ := a5
  rw [e0, E5]
  show Tq (if hs_kd g5 A = 0 then _ else none) _
  have j2' : hs_I g5 T 2 = nI t := by rw [x8 2 (by decide) (by decide)]; exact j2
  have e3 : nI (t + S n) - nI t = nI (S n) := by rw [pk_sub (by omega), Nat.add_sub_cancel_left]
  rw [if_pos (w5.k k1), if_pos (w5.k kT), x3, j2', e3]
  have w6 : WT (hs_wI g5 T 3 (nI (S n))) := w5.w (oW.v (s := 0) kT (lti (b := 1000000) (by omega) (by decide) |>.mpr (by omega)))
  rw [if_pos (w6.k gk_95.1)]
  unfold fX5_moveHandlers
  have h6' : hs_I (hs_wI g5 T 3 (nI (S n))) M 6 = nI h := by rw [hs_I_w, if_neg nMT, x7 M apx.1 apx.2.1 nMT, b4 M nMT]; exact h6
  rw [if_pos (w6.k kM), if_pos (w6.k kT), h6']
  have w7 : WT (hs_wI (hs_wI g5 T 3 (nI (S n))) T 6 (nI h)) := w6.w (oW.h (s := 0) kT)
  have b7 : ∀ b, b ≠ T → hs_I (hs_wI (hs_wI g5 T 3 (nI (S n))) T 6 (nI h)) b = hs_I g5 b := fun b hb => funext fun i => by rw [hs_I_w, if_neg hb, hs_I_w, if_neg hb]
  have m6 : hs_I (hs_wI (hs_wI g5 T 3 (nI (S n))) T 6 (nI h)) T 6 = nI h := hs_I_eq _ _ _ _
  have m3 : hs_I (hs_wI (hs_wI g5 T 3 (nI (S n))) T 6 (nI h)) T 3 = nI (S n) := by rw [hs_I_ne (by decide), hs_I_eq]
  have mi : ∀ i, i ≠ 3 → i ≠ 6 → hs_I (hs_wI (hs_wI g5 T 3 (nI (S n))) T 6 (nI h)) T i = hs_I g5 T i := fun i y1 y2 => by rw [hs_I_ne y2, hs_I_ne y1]
  have R7 : hs_R (hs_wI (hs_wI g5 T 3 (nI (S n))) T 6 (nI h)) = hs_R s := x1.trans R4
  generalize hs_wI (hs_wI g5 T 3 (nI (S n))) T 6 (nI h) = g7 at w7 b7 m6 m3 mi R7
  have p97 : hs_I g7 97 = hs_I s 97 := by rw [b7 97 t97, x7 97 (by omega) (by omega) t97, b4 97 t97]
  obtain ⟨q, E, wq, tf, -, tv⟩ := x_mh10 (S := S) (R := R) kM kT km nm gt nt ntm (by omega) ttM hh (fun k hk i hi => Nat.le_trans (hR3 k hk i hi).1 hn) h 0 hs_N g7 (by omega) (by unfold hs_N; omega) w7 (by rw [R7]; exact hL) (by rw [R7]; exact r1) (by rw [R7]; exact r2) (by rw [b7 M nMT, x7 M apx.1 apx.2.1 nMT, b4 M nMT]; exact h6) (fun z hz => by rw [b7 tm tmT, x7 tm tmA0 ntA tmT, b4 tm tmT]; exact ht z hz) (fun k hk i hi => by
    obtain ⟨y1, y2⟩ := hR3 k hk i hi
    rw [p97]
    by_cases y : R (4 * k + i) = n
    · rw [y]; exact hp.2
    · exact hp.1 _ (by omega) y2)
  have E' : lX5_moveHandlers_10 hs_N 95 M T (0 : Int32) g7 = some q := E
  rw [E']
  have qT : hs_I q T = hs_I g7 T := tf.2 T ttT
  have qA : hs_I q A = hs_I g5 A := (tf.2 A ttA0).trans (b7 A tA)
  have qA5 : hs_I q (A + 5) = hs_I g5 (A + 5) := (tf.2 _ ttA).trans (b7 _ tA5)
  refine Tq.some ⟨tf.1.trans R7, wq, fun b y1 y2 y3 y4 _ => ?_, fun i hi => ?_, by rw [qA]; exact x3, fun i hi => ?_, fun j j1 j2 o' ho => ?_, by rw [qT, mi 2 (by decide) (by decide)]; exact j2', by rw [qT]; exact m3, ?_, ?_, by rw [qT]; exact m6, ?_, ?_, ?_, ?_, fun z hz => tv z (Nat.zero_le _) hz⟩
  · rw [tf.2 b y4, b7 b y3, x7 b y1 y2 y3, b4 b y3]
  · rw [qA, x4 i hi, b4 A tA]
  · rw [qA5, x6 i (Or.inl hi), b4 _ tA5]
  · rw [qA5]
    have hlt2 : S j + o' < S n := by
      have hok := H.2.1.2.1 j j1 j2
      have y1 := H.2.2.2.1.2.1 j j1 j2
      have y2 := s_S_le (S := S) (w := fun j => s_pl P c n (fun i => eK (e i)) pd j + s_ln c far j) H.2.1.2.1 (fun j j1 j2 => by rw [H.2.2.2.1.2.1 j j1 j2, Nat.add_assoc]) n (j + s_sz (c j)) (by omega) hok.2.1 (s_B_next j1)
      omega
    rw [x5 _ hlt2, ← v5 j j1 (Nat.zero_le _) j2 o' ho, Nat.sub_zero]
  · rw [qT, mi 4 (by decide) (by decide), x8 4 (by decide) (by decide)]; exact j4
  · rw [qT, mi 5 (by decide) (by decide), x8 5 (by decide) (by decide)]; exact j5
  · rw [qT, mi 7 (by decide) (by decide), x8 7 (by decide) (by decide)]; exact j7
  · rw [qT, mi 8 (by decide) (by decide), x9, j8 8 (by omega)]; exact Int32.zero_add _
  · rw [qT, mi 9 (by decide) (by decide), x10, j8 9 (by omega)]; exact Int32.zero_add _
  · rw [qT, mi 10 (by decide) (by decide), x8 10 (by decide) (by decide)]; exact j8 10 (by omega)
