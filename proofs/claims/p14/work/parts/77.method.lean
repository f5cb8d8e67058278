/-! A METHOD OF A SET IS READ -/
theorem x_empty7 {s : hs_S} {M : Nat} (w : WT s) (hM : gm_k M = 6) : ∃ q, fX7_empty M s = some q ∧ WT q ∧ hs_R q = hs_R s ∧ (∀ b, b ≠ M → hs_I q b = hs_I s b) ∧ ∀ i, 2 ≤ i → i ≤ 10 → hs_I q M i = 0 := by
  obtain ⟨q, e, w1, -⟩ := zfX7_empty (s := 0) w hM
  refine ⟨q, e, w1, ?_⟩
  unfold fX7_empty at e
  rw [if_pos (w.k hM)] at e
  have e2 := Option.some.inj e
  rw [← e2]
  refine ⟨rfl, fun b hb => funext fun i => ?_, fun i h1 h2 => ?_⟩
  · rw [hs_I_w, if_neg hb, hs_I_w, if_neg hb, hs_I_w, if_neg hb, hs_I_w, if_neg hb, hs_I_w, if_neg hb, hs_I_w, if_neg hb, hs_I_w, if_neg hb, hs_I_w, if_neg hb, hs_I_w, if_neg hb]
  · rw [hs_I_w, if_pos rfl, hs_I_w, if_pos rfl, hs_I_w, if_pos rfl, hs_I_w, if_pos rfl, hs_I_w, if_pos rfl, hs_I_w, if_pos rfl, hs_I_w, if_pos rfl, hs_I_w, if_pos rfl, hs_I_w, if_pos rfl]
    obtain e | e | e | e | e | e | e | e | e : i = 2 ∨ i = 3 ∨ i = 4 ∨ i = 5 ∨ i = 6 ∨ i = 7 ∨ i = 8 ∨ i = 9 ∨ i = 10 := by omega
    all_goals
      subst e
      rfl
/-- method j of the set at A is what the bytes u tell at o -/
def MV (s : hs_S) (A j : Nat) (u : Nat → Nat) (o : Nat) : Prop :=
  hs_I s (A + 6 + 2 * j) 4 = nI (u o) ∧ hs_I s (A + 6 + 2 * j) 5 = nI (u (o + 1)) ∧ hs_I s (A + 6 + 2 * j) 6 = nI (s_h u o) ∧ hs_I s (A + 6 + 2 * j) 8 = 0 ∧ hs_I s (A + 6 + 2 * j) 9 = nI (s_lc (s_c u o) (s_n u o) (s_n u o) 0) ∧
  (∀ i, i < 4 * s_h u o → hs_I s (A + 7 + 2 * j) i = nI (s_R u o i)) ∧
  ∃ e, mv s (A + 6 + 2 * j) (o + 4) (s_n u o) e ∧ cl1 (s_c u o) e (s_n u o) (s_bl (s_c u o) (s_n u o) (s_h u o) (s_R u o)) ∧ hs_I s (A + 6 + 2 * j) 7 = nI (s_ct (fun i => eK (e i)) (s_n u o))
/-- what the reading of method j leaves alone -/
def MF (s q : hs_S) (A j o e : Nat) : Prop := hs_R q = hs_R s ∧ (∀ b, b ≠ A + 5 → b ≠ A + 6 + 2 * j → b ≠ A + 7 + 2 * j → hs_I q b = hs_I s b) ∧ ∀ i, (i < o ∨ e ≤ i) → hs_I q (A + 5) i = hs_I s (A + 5) i
theorem x_method {s : hs_S} {A j t o N : Nat} {u : Nat → Nat} (w : WT s) (hA : isS A) (hR : SF (hs_R s) A) (hj : j < 8) (v : sv s A t u) (hcl : ∀ i, o ≤ i → i < t → hs_I s (A + 5) i = nI (u i)) (ho : o ≤ 40000) (hN : hs_I s A 4 = nI N) (hN8 : N ≤ 8) :
    Tq (fX2_wrongInMethod 91 A (A + 6 + 2 * j) (nI o) s) (fun q => (s_MOK u t N o ∧ q.1 = -1 ∧ WT q.2 ∧ MV q.2 A j u o ∧ MF s q.2 A j (o + 4) (o + 4 + s_n u o) ∧ hs_I q.2 (A + 6 + 2 * j) 10 = 0) ∨ (¬ s_MOK u t N o ∧ ¬ q.1 = -1)) := by
  obtain ⟨k1, k2, k3, k4, k5, k6⟩ := sk hA
  obtain ⟨m1, m2, m3⟩ := k6 j hj
  have hR0 := (hR.2.2.2.2 j hj).2.1
  have hR1 := (hR.2.2.2.2 j hj).2.2
  have l1 := v.lt hA
  have ul : ∀ i, i < t → u i < 256 := fun i hi => by
    have := l1.2 i
    unfold uE at this
    rw [if_pos hi] at this
    exact this
  have nA : A ≠ A + 6 + 2 * j := by omega
  have nA5 : A + 5 ≠ A + 6 + 2 * j := by omega
  unfold fX2_wrongInMethod
  obtain ⟨q0, E0, w0, R0, b0, z0⟩ := x_empty7 w m1
  rw [if_pos (w.k m1), E0]
  show Tq (if hs_kd q0 91 = 2 then _ else none) _
  have v0 : sv q0 A t u := ⟨by rw [b0 A nA]; exact v.1, v.2.1, fun i hi => by rw [b0 _ nA5]; exact v.2.2 i hi⟩
  have hRq0 : SF (hs_R q0) A := by rw [R0]; exact hR
  rw [if_pos (w0.k gk_91)]
  obtain ⟨⟨r1, q1⟩, E1, h1⟩ := x_number w0 hA hRq0 hj v0 ho
  obtain ⟨y1, F1, ⟨⟨w1, -⟩, -⟩⟩ := zfX2_wrongNumber (s := 0) w0 gk_91 k1 m1 (v3 := nI o) (by rw [nI_toInt (by omega)]; omega) (by rw [nI_toInt (by omega)]; omega)
  have ey : y1 = (r1, q1) := Option.some.inj (F1.symm.trans E1)
  rw [ey] at w1
  have w1' : WT q1 := w1
  rw [E1]
  show Tq (if r1 = (-1 : Int32) then _ else _) _
  -- not right: it stays so
  have g67 : ∀ (r : Int32) (q : hs_S), ¬ r = -1 → Tq (jX2_wrongInMethod_67 91 (A + 6 + 2 * j) r q) (fun q => ¬ q.1 = -1) := by
    intro r q hr
    unfold jX2_wrongInMethod_67
    rw [if_neg hr]
    exact Tq.some hr
  have g49 : ∀ (r : Int32) (q : hs_S), ¬ r = -1 → Tq (jX2_wrongInMethod_49 91 (A + 6 + 2 * j) r q) (fun q => ¬ q.1 = -1) := by
    intro r q hr
    unfold jX2_wrongInMethod_49
    rw [if_neg hr]
    exact g67 r q hr
  have g30 : ∀ (r : Int32) (q : hs_S), ¬ r = -1 → Tq (jX2_wrongInMethod_30 91 A (A + 6 + 2 * j) r q) (fun q => ¬ q.1 = -1) := by
    intro r q hr
    unfold jX2_wrongInMethod_30
    rw [if_neg hr]
    exact g49 r q hr
  rcases h1 with ⟨okn, h1, nf⟩ | ⟨nok, h1⟩
  rotate_left
  · have h1' : ¬ r1 = -1 := h1
    rw [if_neg h1']
    refine (g30 r1 q1 h1').mono fun q hq => Or.inr ⟨fun z => nok ?_, hq⟩
    obtain ⟨a1, a2, a3, a4, a5, a6, a7, a8, a9, a10, a11, -⟩ := z
    exact ⟨a1, a2, a3, a4, a5, a6, a7, a8, a9, a10, a11⟩
  have h1' : r1 = -1 := h1
  rw [if_pos h1', if_pos (w1'.k gk_91)]
  obtain ⟨a1, a2, a3, a4, a5, a6, a7, a8, a9, a10, a11⟩ := id okn
  obtain ⟨nR, nb, n4, n5, n3, n2, n6, n7⟩ := nf
  have nR : hs_R q1 = hs_R q0 := nR
  have a11' : o + 5 + s_n u o + 7 * s_h u o ≤ t := a11
  have rowe : hs_R q1 (A + 6 + 2 * j) 0 - 1 = A + 5 := by rw [nR, R0, hR0]; rfl
  have mv1 : mv q1 (A + 6 + 2 * j) (o + 4) (s_n u o) (fun k => u (o + 4 + k)) := by
    refine ⟨m1, n2, n3, ?_, fun k hk => ?_⟩
    · rw [rowe]
      have := v.2.1
      omega
    · rw [rowe, nb _ nA5, b0 _ nA5]
      exact ⟨hcl _ (by omega) (by omega), Nat.lt_trans (ul _ (by omega)) (by decide)⟩
  have cl1' : cl0 (s_c u o) (fun k => u (o + 4 + k)) (s_n u o) 0 := by
    intro i hi
    have hu := ul (o + 4 + i) (by omega)
    refine ⟨Nat.mod_eq_of_lt hu, ⟨fun z => ?_, fun z => absurd z.1 (Nat.not_lt_zero _)⟩, ?_⟩
    · simp only [eB, decide_eq_true_eq] at z
      omega
    · simp only [eK, decide_eq_false_iff_not]
      omega
  obtain ⟨⟨r2, q2⟩, E2, h2⟩ := x_instr (c := s_c u o) (l := u (o + 1)) (N := N) gk_91 k1 (by omega) (by omega) w1' mv1 n5 (by rw [nb A nA, b0 A nA]; exact hN) cl1' (by rw [n7 9 (by decide), z0 9 (by decide) (by decide)]; rfl) (by rw [rowe]; omega)
  obtain ⟨y2, F2, ⟨⟨w2, -⟩, -⟩⟩ := zfX2_wrongInstruction (s := 0) (b := false) w1' gk_91 k1 m1
  have ey2 : y2 = (r2, q2) := Option.some.inj (F2.symm.trans E2)
  rw [ey2] at w2
  have w2' : WT q2 := w2
  rw [E2]
  show Tq (jX2_wrongInMethod_30 91 A (A + 6 + 2 * j) r2 q2) _
  rcases h2 with ⟨h2, hch, fi, ⟨e2, mv2, cl2⟩, i9⟩ | ⟨h2, nch⟩
  rotate_left
  · exact (g30 r2 q2 h2).mono fun q hq => Or.inr ⟨fun z => nch z.2.2.2.2.2.2.2.2.2.2.2.1, hq⟩
  have h2' : r2 = -1 := h2
  have fiR : hs_R q2 = hs_R q1 := fi.1
  have fib : ∀ b, b ≠ A + 6 + 2 * j → b ≠ A + 5 → hs_I q2 b = hs_I q1 b := fun b x1 x2 => fi.2.1 b x1 (by rw [rowe]; exact x2)
  have fii : ∀ i, i ≠ 9 → hs_I q2 (A + 6 + 2 * j) i = hs_I q1 (A + 6 + 2 * j) i := fi.2.2.1
  have fio : ∀ i, (i < o + 4 ∨ o + 4 + s_n u o ≤ i) → hs_I q2 (A + 5) i = hs_I q1 (A + 5) i := fun i hi => by
    have := fi.2.2.2 i hi
    rw [rowe] at this
    exact this
  have row2 : hs_R q2 (A + 6 + 2 * j) 0 - 1 = A + 5 := by rw [fiR]; exact rowe
  -- the bytes stay
  have svk : ∀ (q : hs_S) (e : Nat → Nat), hs_I q A 3 = hs_I s A 3 → hs_R q (A + 6 + 2 * j) 0 - 1 = A + 5 → mv q (A + 6 + 2 * j) (o + 4) (s_n u o) e → (∀ i, i < s_n u o → e i % 256 = s_c u o i) → (∀ i, (i < o + 4 ∨ o + 4 + s_n u o ≤ i) → hs_I q (A + 5) i = hs_I s (A + 5) i) → sv q A t u := by
    intro q e x1 x2 x3 x4 x5
    refine ⟨x1.trans v.1, v.2.1, fun i hi => ?_⟩
    by_cases c : i < o + 4 ∨ o + 4 + s_n u o ≤ i
    · rw [x5 i c]; exact v.2.2 i hi
    · obtain ⟨k, rfl⟩ : ∃ k, i = o + 4 + k := ⟨i - (o + 4), by omega⟩
      obtain ⟨y1, y2⟩ := x3.2.2.2.2 k (by omega)
      rw [x2] at y1
      exact ⟨e k, y1, y2, x4 k (by omega)⟩
  have q1A : hs_I q1 A = hs_I s A := (nb A nA).trans (b0 A nA)
  have q1r : hs_I q1 (A + 5) = hs_I s (A + 5) := (nb _ nA5).trans (b0 _ nA5)
  have v2 : sv q2 A t u := svk q2 e2 (by rw [fib A nA (by omega), q1A]) row2 mv2 (fun i hi => (cl2 i hi).1) (fun i hi => by rw [fio i hi, q1r])
  have hRq2 : SF (hs_R q2) A := by rw [fiR, nR, R0]; exact hR
  have h56 : o + 4 + s_n u o + 1 = o + 5 + s_n u o := by omega
  have sR : s_hr u (o + 4 + s_n u o + 1) = s_R u o := by rw [h56]; rfl
  unfold jX2_wrongInMethod_30
  rw [if_pos h2', if_pos (w2'.k gk_91)]
  obtain ⟨⟨r3, q3⟩, E3, h3⟩ := x_hand (h := s_h u o) hA hj a10 (by omega) w2' hRq2 v2 mv2 (by rw [fii 6 (by decide)]; exact n6) cl2
  rw [sR] at h3
  rw [E3]
  show Tq (jX2_wrongInMethod_49 91 (A + 6 + 2 * j) r3 q3) _
  rcases h3 with ⟨h3, hhk, tf, w3, tb⟩ | ⟨h3, nhk⟩
  rotate_left
  · exact (g49 r3 q3 h3).mono fun q hq => Or.inr ⟨fun z => nhk z.2.2.2.2.2.2.2.2.2.2.2.2.1, hq⟩
  have h3' : r3 = -1 := h3
  have w3' : WT q3 := w3
  have tfR : hs_R q3 = hs_R q2 := tf.1
  have tfb : ∀ b, b ≠ A + 7 + 2 * j → hs_I q3 b = hs_I q2 b := tf.2
  have nM : A + 6 + 2 * j ≠ A + 7 + 2 * j := by omega
  have mv3 : mv q3 (A + 6 + 2 * j) (o + 4) (s_n u o) e2 := mv2.tf tf nM (by rw [row2]; omega)
  unfold jX2_wrongInMethod_49
  rw [if_pos h3', if_pos (w3'.k gk_91)]
  obtain ⟨⟨r4, q4⟩, E4, e4, h4⟩ := x_wjump (v0 := 91) w3' mv3 cl2 (by omega) hch
  have e4' : q4 = q3 := e4
  rw [E4, e4']
  show Tq (jX2_wrongInMethod_67 91 (A + 6 + 2 * j) r4 q3) _
  rcases h4 with ⟨h4, hjk⟩ | ⟨h4, njk⟩
  rotate_left
  · exact (g67 r4 q3 h4).mono fun q hq => Or.inr ⟨fun z => njk z.2.2.2.2.2.2.2.2.2.2.2.2.2, hq⟩
  have h4' : r4 = -1 := h4
  unfold jX2_wrongInMethod_67
  rw [if_pos h4', if_pos (w3'.k gk_91)]
  have hRn : ∀ z, z < s_h u o → s_R u o (4 * z + 2) < s_n u o := fun z hz => by
    have := (hhk z hz).2.1.2.1
    omega
  obtain ⟨q5, E5, w5, R5, b5, o5, i5, e5, mv5, cl5, c5⟩ := x_blocks (v0 := 91) (tb := A + 7 + 2 * j) (R := s_R u o) (by omega) a7 m2 m3 a10 hch hjk hRn w3' mv3 cl2 (by rw [tfR, fiR, nR, R0, hR1]; omega) (by rw [tfR, row2]; omega) (by rw [tfb _ nM, fii 6 (by decide)]; exact n6) (by rw [tfb _ nM, fii 7 (by decide), n7 7 (by decide), z0 7 (by decide) (by decide)]; rfl) tb
  rw [E5]
  have row3 : hs_R q3 (A + 6 + 2 * j) 0 - 1 = A + 5 := by rw [tfR]; exact row2
  have b5' : ∀ b, b ≠ A + 6 + 2 * j → b ≠ A + 5 → hs_I q5 b = hs_I q3 b := fun b x1 x2 => b5 b x1 (by rw [row3]; exact x2)
  have o5' : ∀ i, (i < o + 4 ∨ o + 4 + s_n u o ≤ i) → hs_I q5 (A + 5) i = hs_I q3 (A + 5) i := fun i hi => by
    have := o5 i hi
    rw [row3] at this
    exact this
  refine Tq.some (Or.inl ⟨⟨a1, a2, a3, a4, a5, a6, a7, a8, a9, a10, a11, hch, hhk, hjk⟩, h4', w5, ⟨?_, ?_, ?_, ?_, ?_, fun i hi => ?_, e5, mv5, cl5, c5⟩, ⟨?_, fun b x1 x2 x3 => ?_, fun i hi => ?_⟩, ?_⟩)
  · rw [i5 4 (by decide), tfb _ nM, fii 4 (by decide)]; exact n4
  · rw [i5 5 (by decide), tfb _ nM, fii 5 (by decide)]; exact n5
  · rw [i5 6 (by decide), tfb _ nM, fii 6 (by decide)]; exact n6
  · rw [i5 8 (by decide), tfb _ nM, fii 8 (by decide), n7 8 (by decide)]; exact z0 8 (by decide) (by decide)
  · rw [i5 9 (by decide), tfb _ nM]; exact i9
  · rw [b5' _ (by omega) (by omega)]; exact tb i hi
  · exact R5.trans (tfR.trans (fiR.trans (nR.trans R0)))
  · rw [b5' b x2 x1, tfb b x3, fib b x2 x1, nb b x2, b0 b x2]
  · rw [o5' i (by omega), tfb _ (by omega), fio i (by omega), q1r]
  · rw [i5 10 (by decide), tfb _ nM, fii 10 (by decide), n7 10 (by decide)]; exact z0 10 (by decide) (by decide)
