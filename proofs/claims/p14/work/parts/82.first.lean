/-- what the reading of the set at A leaves alone -/
def lF (s q : hs_S) (A : Nat) : Prop := hs_R q = hs_R s ∧ ∀ b, (b < A + 5 ∨ A + 22 ≤ b) → hs_I q b = hs_I s b
theorem lF.rf {s : hs_S} {A : Nat} : lF s s A := ⟨rfl, fun _ _ => rfl⟩
theorem lF.tr {s q r : hs_S} {A : Nat} (h : lF s q A) (h' : lF q r A) : lF s r A := ⟨h'.1.trans h.1, fun b hb => (h'.2 b hb).trans (h.2 b hb)⟩
theorem s_e_ge (u : Nat → Nat) (o : Nat) : o + 5 + s_n u o ≤ s_e u o := by
  unfold s_e
  omega
theorem x_f40 {A t N : Nat} {u : Nat → Nat} (hA : isS A) (hN8 : N ≤ 8) : ∀ (d m f : Nat) (s : hs_S), m + d = N → d < f → WT s → SF (hs_R s) A → sv s A t u → hs_I s A 4 = nI N → (∀ i, s_off u m ≤ i → i < t → hs_I s (A + 5) i = nI (u i)) → (∀ j, j < m → MV s A j u (s_off u j) ∧ s_MOK u t N (s_off u j) ∧ s_e u (s_off u j) ≤ s_off u m) → s_off u m ≤ 40000 →
    Tq (lX2_firstWrong_40 f 91 A (nI (s_off u m)) (nI m) s) (fun q => (q.1 = 0 ∧ q.2.1 = nI (s_off u N) ∧ WT q.2.2.2 ∧ lF s q.2.2.2 A ∧ sv q.2.2.2 A t u ∧ s_off u N ≤ 40000 ∧ ∀ j, j < N → MV q.2.2.2 A j u (s_off u j) ∧ s_MOK u t N (s_off u j)) ∨ (q.1 = 1 ∧ ¬ q.2.2.1 = -1 ∧ ¬ ∀ j, j < N → s_MOK u t N (s_off u j)))
  | d, m, 0, s, _, hf, _, _, _, _, _, _, _ => absurd hf (Nat.not_lt_zero _)
  | 0, m, f + 1, s, hm, _, w, hR, v, h4, hcl, hmv, ho => by
    have em : m = N := by omega
    rw [lX2_firstWrong_40, if_pos (w.k (sk hA).1), h4, if_pos ((lei (by omega) (by omega)).mpr (by omega))]
    refine Tq.some (Or.inl ⟨rfl, by rw [em], w, lF.rf, v, by rw [← em]; exact ho, fun j hj => ?_⟩)
    exact ⟨(hmv j (by omega)).1, (hmv j (by omega)).2.1⟩
  | d + 1, m, f + 1, s, hm, hf, w, hR, v, h4, hcl, hmv, ho => by
    obtain ⟨k1, k2, k3, k4, k5, k6⟩ := sk hA
    have hmN : m < N := by omega
    obtain ⟨m1, m2, m3⟩ := k6 m (by omega)
    have lt := (v.lt hA).1
    obtain ⟨⟨r, q⟩, E, hq⟩ := x_method w hA hR (show m < 8 by omega) v hcl ho h4 hN8
    rw [lX2_firstWrong_40, if_pos (w.k k1), h4, if_neg (fun z => absurd ((lei (by omega) (by omega)).mp z) (by omega)), x_mth w hA hR (by omega), hs_bd_s, if_pos (w.k gk_91), E, hs_bd_s]
    rcases hq with ⟨mok, r1, wq, mv, mf, -⟩ | ⟨nok, r1⟩
    · have r1' : r = -1 := r1
      have wq : WT q := wq
      have mv : MV q A m u (s_off u m) := mv
      have mR : hs_R q = hs_R s := mf.1
      have mb : ∀ b, b ≠ A + 5 → b ≠ A + 6 + 2 * m → b ≠ A + 7 + 2 * m → hs_I q b = hs_I s b := mf.2.1
      have mi : ∀ i, (i < s_off u m + 4 ∨ s_off u m + 4 + s_n u (s_off u m) ≤ i) → hs_I q (A + 5) i = hs_I s (A + 5) i := mf.2.2
      have hRq : SF (hs_R q) A := by rw [mR]; exact hR
      have hse : s_e u (s_off u m) ≤ t := mok.2.2.2.2.2.2.2.2.2.2.1
      have hge := s_e_ge u (s_off u m)
      obtain ⟨e, mvv, cl, -⟩ := mv.2.2.2.2.2.2
      have rowq : hs_R q (A + 6 + 2 * m) 0 - 1 = A + 5 := by rw [(hRq.2.2.2.2 m (by omega)).2.1]; rfl
      have vq : sv q A t u := by
        refine ⟨by rw [mb A (by omega) (by omega) (by omega)]; exact v.1, v.2.1, fun i hi => ?_⟩
        by_cases c : i < s_off u m + 4 ∨ s_off u m + 4 + s_n u (s_off u m) ≤ i
        · rw [mi i c]; exact v.2.2 i hi
        · obtain ⟨k, rfl⟩ : ∃ k, i = s_off u m + 4 + k := ⟨i - (s_off u m + 4), by omega⟩
          obtain ⟨y1, y2⟩ := mvv.2.2.2.2 k (by omega)
          rw [rowq] at y1
          exact ⟨e k, y1, y2, (cl k (by omega)).1⟩
      have en2 : en q (A + 6 + 2 * m) = nI (s_e u (s_off u m)) := by
        unfold en
        rw [mvv.2.1, mvv.2.2.1, mv.2.2.1, nI_add, nI_1, show (7 : Int32) = nI 7 from rfl, pk_mul, nI_add]
        congr 1
        unfold s_e
        omega
      rw [if_pos r1', if_pos (wq.k k1), x_mth wq hA hRq (by omega), hs_bd_s, if_pos (wq.k gk_91)]
      refine Tq.cro (zfX2_endOf wq gk_91 m1) fun r20 e20 => ?_
      have e20' : r20 = nI (s_off u (m + 1)) := by rw [e20, en2]; rfl
      rw [e20', nI_1]
      have hse' : s_off u (m + 1) ≤ t := hse
      have hge' : s_off u m + 5 + s_n u (s_off u m) ≤ s_off u (m + 1) := hge
      have oldm : ∀ j, j < m → MV q A j u (s_off u j) := by
        intro j hj
        obtain ⟨z1, z2, z3⟩ := hmv j hj
        have hge2 := s_e_ge u (s_off u j)
        refine z1.fr mR (by rw [(hR.2.2.2.2 j (by omega)).2.1]; rfl) (fun i _ => by rw [mb _ (by omega) (by omega) (by omega)]) (mb _ (by omega) (by omega) (by omega)) (fun i i1 i2 => mi i (Or.inl (by omega)))
      have lF1 : lF s q A := ⟨mR, fun b hb => mb b (by omega) (by omega) (by omega)⟩
      refine (x_f40 hA hN8 d (m + 1) f q (by omega) (by omega) wq hRq vq (by rw [mb A (by omega) (by omega) (by omega)]; exact h4) (fun i i1 i2 => ?_) (fun j hj => ?_) (by omega)).mono fun z hz => ?_
      · rw [mi i (Or.inr (by omega))]
        exact hcl i (by omega) i2
      · by_cases e : j = m
        · subst e
          exact ⟨mv, mok, Nat.le_refl _⟩
        · obtain ⟨z1, z2, z3⟩ := hmv j (by omega)
          exact ⟨oldm j (by omega), z2, by omega⟩
      · rcases hz with ⟨z1, z2, z3, z4, z5⟩ | hz
        · exact Or.inl ⟨z1, z2, z3, lF1.tr z4, z5⟩
        · exact Or.inr hz
    · have r1' : ¬ r = -1 := r1
      rw [if_neg r1']
      exact Tq.some (Or.inr ⟨rfl, r1', fun p => nok (p m hmN)⟩)
/-- firstWrong(): the set at A is RIGHT, or it is told where not -/
theorem x_first {A t : Nat} {u : Nat → Nat} {s : hs_S} (hA : isS A) (w : WT s) (hR : SF (hs_R s) A) (hD : DR (hs_R s)) (h91 : hs_R s 91 0 = 93) (v : sv s A t u) (hcl : ∀ i, i < t → hs_I s (A + 5) i = nI (u i)) (hno : hs_I s (A + 2) 4 = 0) :
    Tq (fX2_firstWrong 91 A s) (fun q => WT q.2 ∧ ((q.1 = -1 ∧ s_AC u t ∧ hs_R q.2 = hs_R s ∧ (∀ b, (b < A + 4 ∨ A + 22 ≤ b) → b ≠ A → b ≠ 92 → b ≠ 93 → b ≠ 94 → hs_I q.2 b = hs_I s b) ∧ hs_I q.2 A 3 = nI t ∧ hs_I q.2 A 4 = nI (u 0) ∧ sv q.2 A t u ∧ ∀ j, j < u 0 → MV q.2 A j u (s_off u j) ∧ dep q.2 A u j) ∨ (¬ q.1 = -1 ∧ ¬ s_AC u t))) := by
  obtain ⟨k1, k2, k3, k4, k5, k6⟩ := sk hA
  have hA92 : A < 68 := by rcases hA with q | q | q | q <;> omega
  have l1 := v.lt hA
  have b0 := l1.2 0
  have e0 : (0 : Int32) = nI 0 := rfl
  have n0 : ¬ (0 : Int32) = -1 := by decide
  obtain ⟨y, F, ⟨⟨wy, -⟩, -⟩⟩ := zfX2_firstWrong (s := 999) w gk_91 k1
  have main : Tq (fX2_firstWrong 91 A s) (fun q => ((q.1 = -1 ∧ s_AC u t ∧ hs_R q.2 = hs_R s ∧ (∀ b, (b < A + 4 ∨ A + 22 ≤ b) → b ≠ A → b ≠ 92 → b ≠ 93 → b ≠ 94 → hs_I q.2 b = hs_I s b) ∧ hs_I q.2 A 3 = nI t ∧ hs_I q.2 A 4 = nI (u 0) ∧ sv q.2 A t u ∧ ∀ j, j < u 0 → MV q.2 A j u (s_off u j) ∧ dep q.2 A u j) ∨ (¬ q.1 = -1 ∧ ¬ s_AC u t))) := by
    unfold fX2_firstWrong
    rw [if_pos (w.k k1), e0, x_sval w hA hR v (by decide), hs_bd_s, if_pos (w.k k1), hs_I_ne (show (3 : Nat) ≠ 4 by decide), v.1, hs_I_eq]
    by_cases c1 : t < 1
    · have x : nI t < (1 : Int32) := (lti (b := 1) (by omega) (by decide)).mpr c1
      rw [if_pos x]
      exact Tq.some (Or.inr ⟨n0, fun q => absurd q.1 (by omega)⟩)
    have x1 : ¬ nI t < (1 : Int32) := fun q => c1 ((lti (b := 1) (by omega) (by decide)).mp q)
    have eu : uE u t 0 = u 0 := by unfold uE; rw [if_pos (by omega)]
    rw [eu] at b0 ⊢
    rw [if_neg x1]
    by_cases c2 : u 0 < 1
    · have x : nI (u 0) < (1 : Int32) := (lti (b := 1) (by omega) (by decide)).mpr c2
      rw [if_pos x]
      exact Tq.some (Or.inr ⟨n0, fun q => absurd q.2.1 (by omega)⟩)
    have x2 : ¬ nI (u 0) < (1 : Int32) := fun q => c2 ((lti (b := 1) (by omega) (by decide)).mp q)
    rw [if_neg x2]
    by_cases c3 : u 0 ≤ 8
    rotate_left
    · have x : ¬ nI (u 0) ≤ (8 : Int32) := fun q => c3 ((lei (b := 8) (by omega) (by decide)).mp q)
      rw [if_neg x]
      exact Tq.some (Or.inr ⟨n0, fun q => c3 q.2.2.1⟩)
    have x3 : nI (u 0) ≤ (8 : Int32) := (lei (b := 8) (by omega) (by decide)).mpr c3
    rw [if_pos x3]
    have w1 : WT (hs_wI s A 4 (nI (u 0))) := w.w (oW.n (s := 0) (b := false) k1 (by decide))
    have v1 : sv (hs_wI s A 4 (nI (u 0))) A t u := ⟨by rw [hs_I_ne (by decide)]; exact v.1, v.2.1, fun i hi => by rw [hs_I_w, if_neg (by omega)]; exact v.2.2 i hi⟩
    have b1 : ∀ b, b ≠ A → hs_I (hs_wI s A 4 (nI (u 0))) b = hs_I s b := fun b hb => funext fun i => by rw [hs_I_w, if_neg hb]
    have R1 : hs_R (hs_wI s A 4 (nI (u 0))) = hs_R s := rfl
    have i4 : hs_I (hs_wI s A 4 (nI (u 0))) A 4 = nI (u 0) := hs_I_eq _ _ _ _
    have E0 : lX2_firstWrong_40 hs_N 91 A (1 : Int32) (nI 0) (hs_wI s A 4 (nI (u 0))) = lX2_firstWrong_40 hs_N 91 A (nI (s_off u 0)) (nI 0) (hs_wI s A 4 (nI (u 0))) := rfl
    generalize hs_wI s A 4 (nI (u 0)) = s1 at w1 v1 b1 R1 i4 E0
    obtain ⟨⟨t2, p2, r2, q2⟩, E2, hq2⟩ := x_f40 hA c3 (u 0) 0 hs_N s1 (by omega) (by unfold hs_N; omega) w1 (by rw [R1]; exact hR) v1 i4 (fun i _ hi => by rw [b1 _ (by omega)]; exact hcl i hi) (fun j hj => absurd hj (Nat.not_lt_zero j)) (by show 1 ≤ 40000; decide)
    rw [E0, E2]
    show Tq (if t2 = 0 then _ else _) _
    rcases hq2 with ⟨z1, z2, w2, lf, v2, oN, all⟩ | ⟨z1, z2, z3⟩
    rotate_left
    · have z1' : t2 = 1 := z1
      rw [if_neg (by rw [z1']; decide)]
      exact Tq.some (Or.inr ⟨z2, fun q => z3 q.2.2.2.1⟩)
    have z1' : t2 = 0 := z1
    have z2' : p2 = nI (s_off u (u 0)) := z2
    have w2 : WT q2 := w2
    have lfR : hs_R q2 = hs_R s1 := lf.1
    have lfb : ∀ b, (b < A + 5 ∨ A + 22 ≤ b) → hs_I q2 b = hs_I s1 b := lf.2
    have v2 : sv q2 A t u := v2
    have all : ∀ j, j < u 0 → MV q2 A j u (s_off u j) ∧ s_MOK u t (u 0) (s_off u j) := all
    have hle : s_off u (u 0) ≤ t := by
      obtain ⟨N', hN'⟩ : ∃ N', u 0 = N' + 1 := ⟨u 0 - 1, by omega⟩
      have := (all N' (by omega)).2.2.2.2.2.2.2.2.2.2.2.1
      rw [hN']
      exact this
    rw [if_pos z1', if_pos (w2.k k1), v2.1, z2']
    by_cases c4 : t ≤ s_off u (u 0)
    rotate_left
    · rw [if_neg (fun q => c4 ((lei (by omega) (by omega)).mp q))]
      exact Tq.some (Or.inr ⟨nI_m1 (by omega), fun q => absurd q.2.2.2.2.1 (by omega)⟩)
    have h91' : hs_R q2 91 0 - 1 = 92 := by rw [lfR, R1, h91]
    have h91n : ¬ hs_R q2 91 0 = 0 := by rw [lfR, R1, h91]; decide
    rw [if_pos ((lei (by omega) (by omega)).mpr c4), if_pos (w2.k gk_91), if_pos h91n, h91', if_pos (w2.k gk_92)]
    obtain ⟨⟨r3, q3⟩, E3, w3, hq3⟩ := x_first1 hA c3 (fun j hj => (all j hj).2) w2 (by rw [lfR, R1]; exact hR) (by rw [lfR, R1]; exact hD) (by rw [lfb A (by omega)]; exact i4) (by rw [lfb _ (by omega), b1 _ (by omega)]; exact hno) (fun j hj => (all j hj).1)
    rw [E3, hs_bd_s]
    rcases hq3 with ⟨y1, gf, y3⟩ | ⟨y1, y2⟩
    · have gR : hs_R q3 = hs_R q2 := gf.1
      have gb : ∀ b, b ≠ 92 → b ≠ 93 → b ≠ 94 → (∀ j, j < u 0 → b ≠ A + 6 + 2 * j) → hs_I q3 b = hs_I q2 b := gf.2.1
      refine Tq.some (Or.inl ⟨y1, ⟨by omega, by omega, c3, fun m hm8 => (all m hm8).2, by omega, fun m hm8 => (y3 m hm8).1⟩, ?_, fun b h1 h2 h3 h4 h5 => ?_, ?_, ?_, ?_, fun j hj => ⟨gf.mv hA (by rw [lfR, R1]; exact hR) c3 hj (all j hj).1, (y3 j hj).2⟩⟩)
      · exact gR.trans (lfR.trans R1)
      · show hs_I q3 b = _
        rw [gb b h3 h4 h5 (fun j hj => by omega), lfb b (by omega), b1 b h2]
      · show hs_I q3 A 3 = _
        rw [gb A (by omega) (by omega) (by omega) (fun j hj => by omega)]; exact v2.1
      · show hs_I q3 A 4 = _
        rw [gb A (by omega) (by omega) (by omega) (fun j hj => by omega), lfb A (by omega)]; exact i4
      · refine ⟨?_, v2.2.1, fun i hi => ?_⟩
        · show hs_I q3 A 3 = _
          rw [gb A (by omega) (by omega) (by omega) (fun j hj => by omega)]; exact v2.1
        · show ∃ x, hs_I q3 (A + 5) i = nI x ∧ _
          rw [gb (A + 5) (by omega) (by omega) (by omega) (fun j hj => by omega)]; exact v2.2.2 i hi
    · exact Tq.some (Or.inr ⟨y1, fun q => y2 fun j hj => q.2.2.2.2.2 j hj⟩)
  obtain ⟨q, E, hq⟩ := main
  have ey : y = q := Option.some.inj (F.symm.trans E)
  rw [ey] at wy
  exact ⟨q, E, wy, hq⟩
