/-! A FILE ON THE TAPE -/
def s_off (T : Nat → Nat) : Nat → Nat
  | 0 => 1
  | m + 1 => s_e T (s_off T m)
def s_par (T : Nat → Nat) (o : Nat) : Nat := T (s_off T o)
/-- the tape's bytes are a FILE that is RIGHT -/
def s_AC (T : Nat → Nat) (t : Nat) : Prop := 1 ≤ t ∧ 1 ≤ T 0 ∧ T 0 ≤ 8 ∧ (∀ m, m < T 0 → s_MOK T t (T 0) (s_off T m)) ∧ s_off T (T 0) = t ∧ ∀ m, m < T 0 → s_DOK (s_c T (s_off T m)) (s_par T) (s_n T (s_off T m)) (s_h T (s_off T m)) (s_R T (s_off T m))
theorem s_Mr.fm {g g' : hm} {T : Nat → Nat} {m m' o : Nat} (x : s_Mr g T m' o) (hF : s_Fm m g g') (hne : m' < m) (hn : s_n T o ≤ 2000) (hh : s_h T o ≤ 8) : s_Mr g' T m' o := by
  obtain ⟨x1, x2, x3, x4, x5, x6, x7⟩ := x
  obtain ⟨y1, y2, y3, y4, y5⟩ := hF.2.2.1 m' (by omega)
  refine ⟨by rw [y1]; exact x1, by rw [y2]; exact x2, by rw [y3]; exact x3, by rw [y4]; exact x4, by rw [y5]; exact x5, fun k hk => ?_, fun i hi => ?_⟩
  · rw [hF.2.2.2.1 _ (Or.inl (by omega))]; exact x6 k hk
  · rw [hF.2.2.2.2.1 _ (Or.inl (by omega))]; exact x7 i hi
theorem s_Mr.fr {g g' : hm} {T : Nat → Nat} {m o : Nat} {A : List Nat} (x : s_Mr g T m o) (hF : Fr A g g') (h1 : 297 ∉ A) (h2 : 298 ∉ A) (h3 : 299 ∉ A) (h4 : 300 ∉ A) (h5 : 301 ∉ A) (h6 : 303 ∉ A) (h7 : 302 ∉ A) : s_Mr g' T m o := by
  obtain ⟨x1, x2, x3, x4, x5, x6, x7⟩ := x
  exact ⟨by rw [hF _ h1]; exact x1, by rw [hF _ h2]; exact x2, by rw [hF _ h3]; exact x3, by rw [hF _ h4]; exact x4, by rw [hF _ h5]; exact x5, fun k hk => by rw [hF _ h6]; exact x6 k hk, fun i hi => by rw [hF _ h7]; exact x7 i hi⟩
/-- the row of bases -/
def s_V3 (g : hm) : Prop := ∀ m, m < 8 → ∃ b, b ≤ 20000 ∧ g 300 m = nI b
theorem s_V3.fr {g g' : hm} (x : s_V3 g) (h : g' 300 = g 300) : s_V3 g' := fun m hm8 => by rw [h]; exact x m hm8
theorem s_Fm.v3 {g g' : hm} {m : Nat} (hF : s_Fm m g g') (x : s_V3 g) : s_V3 g' := by
  intro i hi
  by_cases e : i = m
  · subst e
    rcases hF.2.2.2.2.2 with q | q
    · rw [q]; exact x i hi
    · exact q
  · rw [(hF.2.2.1 i e).2.2.2.1]; exact x i hi
/-- the METHODS are read -/
theorem q_r29 {t N : Nat} {T : Nat → Nat} (hN : N ≤ 8) : ∀ (d m f : Nat) (g : hm), m + d = N → d < f → s_T g t T → g 285 33 = nI (s_off T m) → s_off T m ≤ t → (∀ z, z < m → s_MOK T t N (s_off T z) ∧ s_Mr g T z (s_off T z)) →
    Tq (nlX12_read_29 f (nI N) (nI m) g) (fun q => Fr [285, 293, 297, 298, 299, 300, 301, 302, 303] g q.2.2 ∧ Fo [33] g q.2.2 ∧ (s_V3 g → s_V3 q.2.2) ∧ ((q.1 = 0 ∧ (∀ z, z < N → s_MOK T t N (s_off T z) ∧ s_Mr q.2.2 T z (s_off T z)) ∧ q.2.2 285 33 = nI (s_off T N) ∧ s_off T N ≤ t) ∨ (q.1 = 1 ∧ q.2.1 < 0 ∧ ¬ ∀ z, z < N → s_MOK T t N (s_off T z))))
  | d, m, 0, g, _, hf => absurd hf (Nat.not_lt_zero _)
  | 0, m, f + 1, g, hm, _ => by
    intro hT ha ho hz
    have e : m = N := by omega
    subst e
    rw [nlX12_read_29_s, if_pos ((lei (by omega) (by omega)).mpr (by omega))]
    exact Tq.some ⟨Fr.rf, Fo.rf, id, Or.inl ⟨rfl, hz, ha, ho⟩⟩
  | d + 1, m, f + 1, g, hm, hf => by
    intro hT ha ho hz
    have ht := hT.2.1
    rw [nlX12_read_29_s, if_neg (fun q => absurd ((lei (by omega) (by omega)).mp q) (by omega))]
    refine Tq.bd ((q_readMethod (m := m) (N := N) (by omega) (by omega) hT ha (by omega)).mono fun q hq => ?_)
    obtain ⟨hF, alt⟩ := hq
    rcases alt with ⟨q0, hok, hmr, ha'⟩ | ⟨qn, hno⟩
    · rw [q0, if_pos (by decide), nI_1]
      refine (q_r29 hN d (m + 1) f q.2 (by omega) (by omega) (hT.fr (hF.2.1 2 (by decide)) (hF.1 286 (by decide))) ha' hok.2.2.2.2.2.2.2.2.2.2.1 (fun z hz1 => ?_)).mono fun q' hq' => ⟨hF.1.trans hq'.1, hF.2.1.trans hq'.2.1, fun v => hq'.2.2.1 (hF.v3 v), hq'.2.2.2⟩
      by_cases e : z = m
      · rw [e]; exact ⟨hok, hmr⟩
      · obtain ⟨x1, x2⟩ := hz z (by omega)
        exact ⟨x1, x2.fm hF (by omega) x1.2.2.2.2.2.2.2.1 x1.2.2.2.2.2.2.2.2.2.1⟩
    · rw [if_neg (fun u => absurd qn (Int32.not_lt.mpr u))]
      exact Tq.some ⟨hF.1, hF.2.1, hF.v3, Or.inr ⟨rfl, qn, fun u => hno (u m (by omega))⟩⟩
theorem s_MOK.mt {T : Nat → Nat} {t N o : Nat} (h : s_MOK T t N o) (hN : N ≤ 8) : s_Mt (s_n T o) (T (o + 1)) N (s_h T o) (s_c T o) (s_R T o) :=
  ⟨h.2.2.2.2.2.2.1, h.2.2.2.2.2.2.2.1, hN, h.2.2.2.2.2.2.2.2.2.1, h.2.2.2.2.2.2.2.2.2.2.2.1, h.2.2.2.2.2.2.2.2.2.2.2.2.1, h.2.2.2.2.2.2.2.2.2.2.2.2.2⟩
theorem q_r75 {t N : Nat} {T : Nat → Nat} (hN : N ≤ 8) (ht : t ≤ 6000) : ∀ (d m f : Nat) (g : hm), m + d = N → d < f → g 285 2 = nI t → (∀ z, z < N → s_MOK T t N (s_off T z) ∧ s_Mr g T z (s_off T z)) → (∀ z, z < m → s_DOK (s_c T (s_off T z)) (s_par T) (s_n T (s_off T z)) (s_h T (s_off T z)) (s_R T (s_off T z))) →
    Tq (nlX12_read_75 f (nI N) (nI m) g) (fun q => Fr [295, 296] g q.2.2 ∧ ((q.1 = 0 ∧ ∀ z, z < N → s_DOK (s_c T (s_off T z)) (s_par T) (s_n T (s_off T z)) (s_h T (s_off T z)) (s_R T (s_off T z))) ∨ (q.1 = 1 ∧ q.2.1 < 0 ∧ ¬ ∀ z, z < N → s_DOK (s_c T (s_off T z)) (s_par T) (s_n T (s_off T z)) (s_h T (s_off T z)) (s_R T (s_off T z)))))
  | d, m, 0, g, _, hf => absurd hf (Nat.not_lt_zero _)
  | 0, m, f + 1, g, hm, _ => by
    intro gt hz hD
    rw [nlX12_read_75_s, if_pos ((lei (by omega) (by omega)).mpr (by omega))]
    exact Tq.some ⟨Fr.rf, Or.inl ⟨rfl, fun z h => hD z (by omega)⟩⟩
  | d + 1, m, f + 1, g, hm, hf => by
    intro gt hz hD
    rw [nlX12_read_75_s, if_neg (fun q => absurd ((lei (by omega) (by omega)).mp q) (by omega))]
    obtain ⟨hok, x1, x2, x3, x4, x5, x6, x7⟩ := hz m (by omega)
    have ho : s_off T m < t := hok.1
    have hMs : s_Ms g m (s_n T (s_off T m)) N (s_h T (s_off T m)) t (s_off T m + 4) (s_c T (s_off T m)) (s_par T) (s_R T (s_off T m)) := ⟨gt, ht, x3, x4, by omega, x6, fun o ho => ⟨(hz o ho).2.1, (hz o ho).1.2.1⟩, x5, x7⟩
    refine Tq.bd ((q_stacks (by omega) (hok.mt hN) hMs).mono fun q hq => ?_)
    rcases hq.2 with ⟨q0, hd, -⟩ | ⟨qn, hd⟩
    · rw [q0, if_pos (by decide), nI_1]
      refine (q_r75 hN ht d (m + 1) f q.2 (by omega) (by omega) (by rw [hq.1 285 (by decide)]; exact gt) (fun z h => ⟨(hz z h).1, (hz z h).2.fr hq.1 (by decide) (by decide) (by decide) (by decide) (by decide) (by decide) (by decide)⟩) (fun z h => ?_)).mono fun q' hq' => ⟨hq.1.trans hq'.1, hq'.2⟩
      by_cases e : z = m
      · rw [e]; exact hd
      · exact hD z (by omega)
    · rw [if_neg (fun u => absurd qn (Int32.not_lt.mpr u))]
      exact Tq.some ⟨hq.1, Or.inr ⟨rfl, qn, fun u => hd (u m (by omega))⟩⟩
/-- read() -/
theorem q_read {t : Nat} {T : Nat → Nat} {g : hm} (hT : s_T g t T) :
    Tq (nX12_read g) (fun q => Fr [285, 293, 295, 296, 297, 298, 299, 300, 301, 302, 303] g q.2 ∧ Fo [33] g q.2 ∧ (s_V3 g → s_V3 q.2) ∧ ((q.1 = nI (T 0) ∧ s_AC T t ∧ ∀ z, z < T 0 → s_Mr q.2 T z (s_off T z)) ∨ (q.1 < 0 ∧ ¬ s_AC T t))) := by
  have ht := hT.2.1
  have e0 : (0 : Int32) = nI 0 := rfl
  unfold nX12_read
  generalize hg0 : hm_w g 285 33 0 = g0
  have F0 : Fr [285, 293, 295, 296, 297, 298, 299, 300, 301, 302, 303] g g0 := by rw [← hg0]; exact Fr.rf.w (by decide)
  have O0 : Fo [33] g g0 := by rw [← hg0]; exact Fo.rf.w (by decide)
  have A0 : g0 285 33 = nI 0 := by rw [← hg0, hm_w_eq]; rfl
  have T0 : s_T g0 t T := hT.fr (O0 2 (by decide)) (F0 286 (by decide))
  rw [q_one T0 A0 (by decide), hm_bd_s]
  generalize hg1 : hm_w g0 285 33 (nI (0 + 1)) = g1
  have F1 : Fr [285, 293, 295, 296, 297, 298, 299, 300, 301, 302, 303] g g1 := by rw [← hg1]; exact F0.w (by decide)
  have O1 : Fo [33] g g1 := by rw [← hg1]; exact O0.w (by decide)
  have A1 : g1 285 33 = nI 1 := by rw [← hg1, hm_w_eq]
  have T1 : s_T g1 t T := hT.fr (O1 2 (by decide)) (F1 286 (by decide))
  have Y1 : s_V3 g → s_V3 g1 := fun v => v.fr (by rw [← hg1, hm_w_ne (by decide), ← hg0, hm_w_ne (by decide)])
  have j21 : ¬ s_AC T t → Tq (njX12_read_21 g1) (fun q => Fr [285, 293, 295, 296, 297, 298, 299, 300, 301, 302, 303] g q.2 ∧ Fo [33] g q.2 ∧ (s_V3 g → s_V3 q.2) ∧ ((q.1 = nI (T 0) ∧ s_AC T t ∧ ∀ z, z < T 0 → s_Mr q.2 T z (s_off T z)) ∨ (q.1 < 0 ∧ ¬ s_AC T t))) := by
    intro hno
    unfold njX12_read_21
    obtain ⟨r, w1, w2⟩ := q_wrong (g := g1) (p := 0) (t := t) T1.1 (by omega) (by omega)
    rw [e0, w1, hm_bd_s]
    exact Tq.some ⟨F1, O1, Y1, Or.inr ⟨w2, hno⟩⟩
  by_cases p0 : 0 < t
  rotate_left
  · rw [if_neg p0, if_pos (by decide)]
    exact j21 (fun q => absurd q.1 (by omega))
  have b0 := (hT.2.2 0 p0).2
  rw [if_pos p0]
  by_cases p1 : 1 ≤ T 0
  rotate_left
  · have u : nI (T 0) < (1 : Int32) := (lti (b := 1) (by omega) (by decide)).mpr (by omega)
    rw [if_pos u]
    exact j21 (fun q => p1 q.2.1)
  have u1 : ¬ nI (T 0) < (1 : Int32) := fun q => absurd ((lti (b := 1) (by omega) (by decide)).mp q) (by omega)
  rw [if_neg u1]
  by_cases p2 : T 0 ≤ 8
  rotate_left
  · have u : ¬ nI (T 0) ≤ (8 : Int32) := fun q => p2 ((lei (b := 8) (by omega) (by decide)).mp q)
    rw [if_neg u]
    exact j21 (fun q => p2 q.2.2.1)
  have u2 : nI (T 0) ≤ (8 : Int32) := (lei (b := 8) (by omega) (by decide)).mpr p2
  rw [if_pos u2, e0]
  refine Tq.b3 ((q_r29 p2 (T 0) 0 hs_N g1 (by omega) (by unfold hs_N; omega) T1 A1 (by show 1 ≤ t; omega) (fun z hz => absurd hz (Nat.not_lt_zero z))).mono fun q hq => ?_)
  obtain ⟨f2, o2, y2, alt⟩ := hq
  have Y2 : s_V3 g → s_V3 q.2.2 := fun v => y2 (Y1 v)
  have F2 : Fr [285, 293, 295, 296, 297, 298, 299, 300, 301, 302, 303] g q.2.2 := F1.trans (f2.mono (by decide))
  have O2 : Fo [33] g q.2.2 := O1.trans o2
  rcases alt with ⟨q0, hz, ha, hle⟩ | ⟨q1, qn, hno⟩
  · rw [q0, if_pos rfl, ha, O2 2 (by decide), hT.1]
    by_cases p3 : s_off T (T 0) = t
    · rw [if_pos ((lei (by omega) (by omega)).mpr (by omega))]
      refine Tq.b3 ((q_r75 p2 ht (T 0) 0 hs_N q.2.2 (by omega) (by unfold hs_N; omega) (by rw [O2 2 (by decide)]; exact hT.1) hz (fun z h => absurd h (Nat.not_lt_zero z))).mono fun q' hq' => ?_)
      have F3 := F2.trans (hq'.1.mono (B := [285, 293, 295, 296, 297, 298, 299, 300, 301, 302, 303]) (by decide))
      have O3 : Fo [33] g q'.2.2 := O2.trans (Fo.of hq'.1 (by decide))
      rcases hq'.2 with ⟨x0, x1⟩ | ⟨x0, x1, x2⟩
      · rw [x0, if_pos rfl]
        exact Tq.some ⟨F3, O3, fun v => (Y2 v).fr (hq'.1 300 (by decide)), Or.inl ⟨rfl, ⟨p0, p1, p2, fun m h => (hz m h).1, p3, x1⟩, fun z h => (hz z h).2.fr hq'.1 (by decide) (by decide) (by decide) (by decide) (by decide) (by decide) (by decide)⟩⟩
      · rw [x0, if_neg (by decide)]
        exact Tq.some ⟨F3, O3, fun v => (Y2 v).fr (hq'.1 300 (by decide)), Or.inr ⟨x1, fun u => x2 u.2.2.2.2.2⟩⟩
    · rw [if_neg (fun u => absurd ((lei (by omega) (by omega)).mp u) (by omega))]
      obtain ⟨r, w1, w2⟩ := q_wrong (g := q.2.2) (p := s_off T (T 0)) (t := t) (by rw [O2 2 (by decide)]; exact hT.1) (by omega) (by omega)
      rw [w1, hm_bd_s]
      exact Tq.some ⟨F2, O2, Y2, Or.inr ⟨w2, fun u => p3 u.2.2.2.2.1⟩⟩
  · rw [q1, if_neg (by decide)]
    exact Tq.some ⟨F2, O2, Y2, Or.inr ⟨qn, fun u => hno u.2.2.2.1⟩⟩
