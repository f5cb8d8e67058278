/-! A SET IS RIGHT OR NOT -/
theorem MV.fr {s q : hs_S} {A j o : Nat} {u : Nat → Nat} (m : MV s A j u o) (hR : hs_R q = hs_R s) (rowe : hs_R s (A + 6 + 2 * j) 0 - 1 = A + 5) (h1 : ∀ i, i ≠ 10 → hs_I q (A + 6 + 2 * j) i = hs_I s (A + 6 + 2 * j) i) (h2 : hs_I q (A + 7 + 2 * j) = hs_I s (A + 7 + 2 * j)) (h3 : ∀ i, o + 4 ≤ i → i < o + 4 + s_n u o → hs_I q (A + 5) i = hs_I s (A + 5) i) : MV q A j u o := by
  obtain ⟨m4, m5, m6, m8, m9, mt, e, mv, cl, m7⟩ := m
  refine ⟨by rw [h1 4 (by decide)]; exact m4, by rw [h1 5 (by decide)]; exact m5, by rw [h1 6 (by decide)]; exact m6, by rw [h1 8 (by decide)]; exact m8, by rw [h1 9 (by decide)]; exact m9, fun i hi => by rw [h2]; exact mt i hi, e, mv.fr (h1 2 (by decide)) (h1 3 (by decide)) (by rw [hR]) (fun k hk => ?_), cl, by rw [h1 7 (by decide)]; exact m7⟩
  rw [rowe]
  exact h3 _ (by omega) (by omega)
/-- of the methods their deepest alone is written, and the check's rows -/
def gF (s q : hs_S) (A N : Nat) : Prop := hs_R q = hs_R s ∧ (∀ b, b ≠ 92 → b ≠ 93 → b ≠ 94 → (∀ j, j < N → b ≠ A + 6 + 2 * j) → hs_I q b = hs_I s b) ∧ ∀ j, j < N → ∀ i, i ≠ 10 → hs_I q (A + 6 + 2 * j) i = hs_I s (A + 6 + 2 * j) i
theorem gF.rf {s : hs_S} {A N : Nat} : gF s s A N := ⟨rfl, fun _ _ _ _ _ => rfl, fun _ _ _ _ => rfl⟩
theorem gF.tr {s q r : hs_S} {A N : Nat} (h : gF s q A N) (h' : gF q r A N) : gF s r A N := ⟨h'.1.trans h.1, fun b h1 h2 h3 h4 => (h'.2.1 b h1 h2 h3 h4).trans (h.2.1 b h1 h2 h3 h4), fun j hj i hi => (h'.2.2 j hj i hi).trans (h.2.2 j hj i hi)⟩
theorem gF.mv {s q : hs_S} {A N j o : Nat} {u : Nat → Nat} (h : gF s q A N) (hA : isS A) (hR : SF (hs_R s) A) (hN : N ≤ 8) (hj : j < N) (m : MV s A j u o) : MV q A j u o := by
  have hA92 : A < 68 := by rcases hA with q | q | q | q <;> omega
  refine m.fr h.1 (by rw [(hR.2.2.2.2 j (by omega)).2.1]; rfl) (h.2.2 j hj) (h.2.1 _ (by omega) (by omega) (by omega) fun z hz => by omega) (fun i _ _ => by rw [h.2.1 _ (by omega) (by omega) (by omega) fun z hz => by omega])
/-- method j of the bytes u is right as to the stack -/
def dok (u : Nat → Nat) (j : Nat) : Prop := s_DOK (s_c u (s_off u j)) (s_par u) (s_n u (s_off u j)) (s_h u (s_off u j)) (s_R u (s_off u j))
def dep (s : hs_S) (A : Nat) (u : Nat → Nat) (j : Nat) : Prop := ∃ D, isDeep (s_c u (s_off u j)) (s_par u) (s_h u (s_off u j)) (s_R u (s_off u j)) D ∧ hs_I s (A + 6 + 2 * j) 10 = nI D
theorem x_f2 {A t N : Nat} {u : Nat → Nat} (hA : isS A) (hN8 : N ≤ 8) (hmok : ∀ j, j < N → s_MOK u t N (s_off u j)) : ∀ (d m f : Nat) (s : hs_S), m + d = N → d < f → WT s → SF (hs_R s) A → DR (hs_R s) → hs_I s A 4 = nI N → hs_I s (A + 2) 4 = 0 → (∀ j, j < N → MV s A j u (s_off u j)) →
    Tq (lX1_firstWrong_2 f 92 A (nI m) s) (fun q => WT q.2.2.2 ∧ ((q.1 = 0 ∧ gF s q.2.2.2 A N ∧ (∀ j, j < m → hs_I q.2.2.2 (A + 6 + 2 * j) 10 = hs_I s (A + 6 + 2 * j) 10) ∧ ∀ j, m ≤ j → j < N → dok u j ∧ dep q.2.2.2 A u j) ∨ (q.1 = 1 ∧ hs_R q.2.2.2 A = hs_R s A ∧ hs_R q.2.2.2 (A + 1) = hs_R s (A + 1) ∧ (∃ m' a x, m' < N ∧ q.2.1 = nI m' ∧ hs_I q.2.2.2 (A + 6 + 2 * m') 2 = nI a ∧ a < 100000 ∧ x ≤ 2000 ∧ q.2.2.1 = nI x) ∧ ¬ ∀ j, m ≤ j → j < N → dok u j)))
  | d, m, 0, s, _, hf, _, _, _, _, _, _ => absurd hf (Nat.not_lt_zero _)
  | 0, m, f + 1, s, hm, _, w, hR, hD, h4, hno, hmv => by
    rw [lX1_firstWrong_2, if_pos (w.k (sk hA).1), h4, if_pos ((lei (by omega) (by omega)).mpr (by omega))]
    exact Tq.some ⟨w, Or.inl ⟨rfl, gF.rf, fun _ _ => rfl, fun j j1 j2 => absurd j2 (by omega)⟩⟩
  | d + 1, m, f + 1, s, hm, hf, w, hR, hD, h4, hno, hmv => by
    obtain ⟨k1, k2, k3, k4, k5, k6⟩ := sk hA
    have hA92 : A < 68 := by rcases hA with q | q | q | q <;> omega
    have hmN : m < N := by omega
    obtain ⟨m1, m2, m3⟩ := k6 m (by omega)
    have hmk := hmok m hmN
    obtain ⟨v4, v5, v6, v8, v9, vt, e, mv, cl, v7⟩ := hmv m hmN
    have rowe : hs_R s (A + 6 + 2 * m) 0 - 1 = A + 5 := by rw [(hR.2.2.2.2 m (by omega)).2.1]; rfl
    have hR1 : hs_R s (A + 6 + 2 * m) 1 = A + 7 + 2 * m + 1 := by rw [(hR.2.2.2.2 m (by omega)).2.2]; omega
    have pl := x_place (par := s_par u) w hA hR hD mv (fun i hi => (cl i hi).1) (hmk.mt hN8) (fun o ho => ⟨(hmv o ho).1, (hmok o ho).2.1⟩) hno (by rw [rowe]; omega) m2 m3 (by omega) hR1 v6 vt
    obtain ⟨⟨r, q⟩, E, hq⟩ := pl
    obtain ⟨y, F, ⟨⟨wy, uy⟩, -⟩⟩ := zfX1_wrongPlace (s := 999) (b := true) w gk_92 k1 m1
    have ey : y = (r, q) := Option.some.inj (F.symm.trans E)
    rw [ey] at wy uy
    have wq : WT q := wy
    have uq : cU 999 true s q := uy
    rw [lX1_firstWrong_2, if_pos (w.k k1), h4, if_neg (fun z => absurd ((lei (by omega) (by omega)).mp z) (by omega)), x_mth w hA hR (by omega), hs_bd_s, if_pos (w.k gk_92), E, hs_bd_s]
    rcases hq with ⟨dk, r1, w1, ef, dp⟩ | ⟨nd, x, x1, x2⟩
    · have r1' : r = -1 := r1
      have efR : hs_R q = hs_R s := ef.1
      have efb : ∀ b, b ≠ 92 → b ≠ 93 → b ≠ 94 → b ≠ A + 6 + 2 * m → hs_I q b = hs_I s b := ef.2.1
      have efi : ∀ i, i ≠ 10 → hs_I q (A + 6 + 2 * m) i = hs_I s (A + 6 + 2 * m) i := ef.2.2
      have g1 : gF s q A N := by
        refine ⟨efR, fun b b1 b2 b3 b4 => efb b b1 b2 b3 (b4 m hmN), fun j hj i hi => ?_⟩
        by_cases e : j = m
        · rw [e]; exact efi i hi
        · rw [efb _ (by omega) (by omega) (by omega) (by omega)]
      rw [if_pos r1', nI_1]
      refine (x_f2 hA hN8 hmok d (m + 1) f q (by omega) (by omega) wq (by rw [efR]; exact hR) (by rw [efR]; exact hD) (by rw [efb A (by omega) (by omega) (by omega) (by omega)]; exact h4) (by rw [efb _ (by omega) (by omega) (by omega) (by omega)]; exact hno) (fun j hj => g1.mv hA hR hN8 hj (hmv j hj))).mono fun z hz => ⟨hz.1, ?_⟩
      rcases hz.2 with ⟨z1, z2, z6, z3⟩ | ⟨z1, z2, z3, z4, z5⟩
      · refine Or.inl ⟨z1, g1.tr z2, fun j hj => (z6 j (by omega)).trans (by rw [efb _ (by omega) (by omega) (by omega) (by omega)]), fun j j1 j2 => ?_⟩
        by_cases e : j = m
        · subst e
          refine ⟨dk, ?_⟩
          obtain ⟨D, D1, D2⟩ := dp
          have D2 : hs_I q (A + 6 + 2 * j) 10 = nI D := D2
          exact ⟨D, D1, (z6 j (by omega)).trans D2⟩
        · exact z3 j (by omega) j2
      · exact Or.inr ⟨z1, z2.trans (by rw [efR]), z3.trans (by rw [efR]), z4, fun p => z5 fun j j1 j2 => p j (by omega) j2⟩
    · have x2' : r = nI x := x2
      have hne : ¬ r = -1 := by rw [x2']; exact nI_m1 (by omega)
      rw [if_neg hne]
      refine Tq.some ⟨wq, Or.inr ⟨rfl, uq.2 A (by rw [k1]; decide), uq.2 (A + 1) (by rw [k2]; decide), ⟨m, s_off u m + 4, x, hmN, rfl, ?_, ?_, x1, x2'⟩, fun p => nd (p m (Nat.le_refl _) hmN)⟩⟩
      · show hs_I q (A + 6 + 2 * m) 2 = _
        rw [uq.1 _ 2 (Or.inr (Or.inr (Or.inr ⟨m1, Or.inl rfl, rfl⟩)))]
        exact mv.2.1
      · have := (mv.lt w).1
        omega
/-- firstWrong() of the depth check -/
theorem x_first1 {A t N : Nat} {u : Nat → Nat} {s : hs_S} (hA : isS A) (hN8 : N ≤ 8) (hmok : ∀ j, j < N → s_MOK u t N (s_off u j)) (w : WT s) (hR : SF (hs_R s) A) (hD : DR (hs_R s)) (h4 : hs_I s A 4 = nI N) (hno : hs_I s (A + 2) 4 = 0) (hmv : ∀ j, j < N → MV s A j u (s_off u j)) :
    Tq (fX1_firstWrong 92 A s) (fun q => WT q.2 ∧ ((q.1 = -1 ∧ gF s q.2 A N ∧ ∀ j, j < N → dok u j ∧ dep q.2 A u j) ∨ (¬ q.1 = -1 ∧ ¬ ∀ j, j < N → dok u j))) := by
  obtain ⟨k1, k2, k3, k4, k5, k6⟩ := sk hA
  obtain ⟨⟨t1, x9, x10, q⟩, E, wq, hq⟩ := x_f2 hA hN8 hmok N 0 hs_N s (by omega) (by unfold hs_N; omega) w hR hD h4 hno hmv
  have E' : lX1_firstWrong_2 hs_N 92 A (0 : Int32) s = some (t1, x9, x10, q) := E
  have wq' : WT q := wq
  unfold fX1_firstWrong
  rw [E']
  show Tq (if t1 = 0 then _ else _) _
  rcases hq with ⟨q1, q2, -, q3⟩ | ⟨q1, qA, qA1, ⟨m', a, x, y1, y2, y3, y4, y5, y6⟩, q5⟩
  · have q1' : t1 = 0 := q1
    rw [if_pos q1']
    exact Tq.some ⟨wq', Or.inl ⟨rfl, q2, fun j hj => q3 j (Nat.zero_le j) hj⟩⟩
  · have q1' : t1 = 1 := q1
    have y2' : x9 = nI m' := y2
    have y6' : x10 = nI x := y6
    have y3' : hs_I q (A + 6 + 2 * m') 2 = nI a := y3
    have qA' : hs_R q A = hs_R s A := qA
    have qA1' : hs_R q (A + 1) = hs_R s (A + 1) := qA1
    rw [if_neg (by rw [q1']; decide), if_pos (wq'.k k1), y2']
    obtain ⟨r, e, -, hr⟩ := xfX0_method (v1 := nI m') wq' k1
    have er : r = A + 6 + 2 * m' := by
      have u8 : ¬ (8 : Int32) ≤ nI m' := fun z => absurd ((lei (a := 8) (by decide) (by omega)).mp z) (by omega)
      rw [hr]
      unfold mth
      rw [if_neg (nI_pos (by omega)), if_neg u8, qA', hR.2.1, cl (by omega)]
      show hs_R q (A + 1) m' - 1 = _
      rw [qA1', (hR.2.2.2.2 m' (by omega)).1]
      omega
    rw [e, er, hs_bd_s, if_pos (wq'.k (k6 m' (by omega)).1), y3', y6', nI_add]
    exact Tq.some ⟨wq', Or.inr ⟨nI_m1 (by omega), fun p => q5 fun j _ hj => p j hj⟩⟩
