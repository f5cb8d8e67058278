theorem all_r {n : Nat} {p : Nat → Bool} (h : (List.range n).all p = true) {k : Nat} (hk : k < n) : p k = true := List.all_eq_true.mp h k (List.mem_range.mpr hk)
theorem pb_A.ok {g : hs_S} {a j : Nat} (h : pb_A g a j = true) : rA (hs_R g) a j := by
  simp only [pb_A, Bool.and_eq_true, Bool.not_eq_true', decide_eq_false_iff_not, decide_eq_true_eq] at h
  exact ⟨h.1, h.2.1, h.2.2.1, h.2.2.2⟩
theorem pb_K.ok {g : hs_S} {a j k : Nat} (h : pb_K g a j k = true) : rK (hs_R g) a j k := by
  simp only [pb_K, Bool.and_eq_true, Bool.not_eq_true', decide_eq_false_iff_not, decide_eq_true_eq] at h
  exact h
theorem pb_L.ok {g : hs_S} {a j k m k2 : Nat} (h : pb_L g a j k m k2 = true) : rL (hs_R g) a j k m k2 := by
  simp only [pb_L, Bool.and_eq_true, Bool.not_eq_true', decide_eq_false_iff_not, decide_eq_true_eq] at h
  exact ⟨h.1, h.2.1, h.2.2.1, fun i hi => pb_K.ok (all_r h.2.2.2 hi)⟩
theorem or_k {c : Prop} {i : Decidable c} {b : Bool} (h : (!(@decide c i) || b) = true) (hc : c) : b = true := by
  rw [decide_eq_true hc] at h
  exact h
theorem pb_C.ok {g : hs_S} {a : Nat} (h : pb_C g a = true) : CR1 (hs_R g) a := by
  unfold pb_C at h
  simp only [Bool.and_eq_true] at h
  obtain ⟨h0, h1, h2, h3, h4, h5, h6, h7, h8, h9⟩ := h
  refine ⟨fun k => ?_, fun k => ?_, fun k => ?_, fun k => ?_, fun k => ?_, fun k => ?_, fun k => ?_, fun k => ?_, fun k => ?_, fun k => ?_⟩
  · have x := or_k h0 k
    simp only [Bool.and_eq_true] at x
    exact ⟨pb_A.ok x.1, pb_L.ok x.2.1, pb_K.ok x.2.2⟩
  · have x := or_k h1 k
    simp only [Bool.and_eq_true] at x
    exact ⟨pb_A.ok x.1, pb_A.ok x.2⟩
  · exact pb_K.ok (or_k h2 k)
  · have x := or_k h3 k
    simp only [Bool.and_eq_true] at x
    exact ⟨pb_A.ok x.1, pb_A.ok x.2.1, pb_K.ok x.2.2⟩
  · have x := or_k h4 k
    simp only [Bool.and_eq_true] at x
    exact ⟨pb_A.ok x.1, pb_A.ok x.2.1, pb_A.ok x.2.2.1, pb_A.ok x.2.2.2⟩
  · have x := or_k h5 k
    simp only [Bool.and_eq_true] at x
    exact ⟨pb_K.ok x.1, pb_L.ok x.2.1, pb_K.ok x.2.2⟩
  · have x := or_k h6 k
    simp only [Bool.and_eq_true] at x
    exact ⟨pb_A.ok x.1, pb_A.ok x.2⟩
  · have x := or_k h7 k
    simp only [Bool.and_eq_true, Bool.not_eq_true', decide_eq_false_iff_not, decide_eq_true_eq] at x
    exact x
  · have x := or_k h8 k
    simp only [Bool.and_eq_true] at x
    exact ⟨pb_A.ok x.1, pb_A.ok x.2⟩
  · have x := or_k h9 k
    simp only [Bool.and_eq_true] at x
    exact ⟨pb_K.ok x.1, pb_K.ok x.2.1, pb_K.ok x.2.2.1, pb_K.ok x.2.2.2.1, pb_K.ok x.2.2.2.2.1, pb_K.ok x.2.2.2.2.2.1, pb_K.ok x.2.2.2.2.2.2.1, pb_K.ok x.2.2.2.2.2.2.2⟩
theorem gm_k_999 {a : Nat} (h : 320 ≤ a) : gm_k a = 999 ∧ gm_n a = 0 := by
  have hl : hm_kl.length = 35 := by decide
  have hl2 : hm_nl.length = 35 := by decide
  unfold gm_k gm_n
  rw [if_neg (by omega), if_neg (by omega), List.getD_eq_getElem?_getD, List.getD_eq_getElem?_getD, List.getElem?_eq_none (by omega), List.getElem?_eq_none (by omega)]
  exact ⟨rfl, rfl⟩
theorem hm_R_48 {j : Nat} (h : 48 ≤ j) : hm_R j = 0 := by
  unfold hm_R
  rw [List.getD_eq_getElem?_getD, List.getElem?_eq_none (by simpa using h)]
  rfl
/-- the state that the constructors leave is one between two calls -/
theorem pb_facts : ∃ g1 g4 : hs_S, fX11_init hs_0.1 (hs_new hs_0 9 0) = some g1 ∧ fX12_init g1.1 (hs_new g1 10 0) = some g4 ∧ g1.1 = 285 ∧ CJ g4 ∧ RJ (hs_I g4) ∧ tU g4 = hs_I g4 285 2 ∧ ∀ k, k < 256 → hs_I g4 90 k = hs_I g4 312 k := by
  have hr := pb_run
  unfold pb_all pp_st at hr
  cases e1 : fX11_init hs_0.1 (hs_new hs_0 9 0) with
  | none => rw [e1] at hr; exact absurd hr (by decide)
  | some g1 =>
    rw [e1] at hr
    cases e4 : fX12_init g1.1 (hs_new g1 10 0) with
    | none =>
      have hr2 : (match hs_bv (fX12_init g1.1 (hs_new g1 10 0)) (fun g4 => some (g1.1, g4)) with
        | none => false
        | some (b, g) => decide (b = 285) && (pb_1 g && (pb_2 g && pb_3 g))) = true := hr
      rw [e4] at hr2
      have hr3 : false = true := hr2
      cases hr3
    | some g4 =>
      have hr2 : (match hs_bv (fX12_init g1.1 (hs_new g1 10 0)) (fun g4 => some (g1.1, g4)) with
        | none => false
        | some (b, g) => decide (b = 285) && (pb_1 g && (pb_2 g && pb_3 g))) = true := hr
      rw [e4] at hr2
      have hr3 : (decide (g1.1 = 285) && (pb_1 g4 && (pb_2 g4 && pb_3 g4))) = true := hr2
      simp only [Bool.and_eq_true, decide_eq_true_eq] at hr3
      obtain ⟨b0, b1, b2, b3⟩ := hr3
      have p0 : PW hs_0 := fun a _ => ⟨rfl, rfl⟩
      have p1 : PW g1 := afX11_init (PW.new p0) g1 e1
      have p4 : PW g4 := afX12_init (PW.new p1) g4 e4
      have r0 : PR (hs_new g1 10 0) := by
        intro j _
        show (if 285 = g1.1 then 0 else hs_R g1 285 j) = 0
        rw [if_pos b0.symm]
      have r4 : PR g4 := bfX12_init r0 g4 e4
      unfold pb_1 at b1
      simp only [Bool.and_eq_true, decide_eq_true_eq] at b1
      obtain ⟨c0, c1⟩ := b1
      have c2 : ∀ a, a < 320 → g4.2.1 a = gm_k a ∧ g4.2.2.1 a = gm_n a ∧ pb_C g4 a = true ∧ pb_J g4 a = true := by
        intro a ha
        have := all_r c1 ha
        simp only [Bool.and_eq_true, decide_eq_true_eq] at this
        exact this
      have kk : g4.2.1 = gm_k := by
        funext a
        by_cases h : a < 320
        · exact (c2 a h).1
        · rw [(gm_k_999 (a := a) (by omega)).1]; exact (p4 a (by omega)).1
      have kn : g4.2.2.1 = gm_n := by
        funext a
        by_cases h : a < 320
        · exact (c2 a h).2.1
        · rw [(gm_k_999 (a := a) (by omega)).2]; exact (p4 a (by omega)).2
      have cr : CR (hs_R g4) := by
        intro a
        by_cases h : a < 320
        · exact pb_C.ok (c2 a h).2.2.1
        · have e := (gm_k_999 (a := a) (by omega)).1
          unfold CR1
          rw [e]
          refine ⟨fun k => absurd k (by decide), fun k => absurd k (by decide), fun k => absurd k (by decide), fun k => absurd k (by decide), fun k => absurd k (by decide), fun k => absurd k (by decide), fun k => absurd k (by decide), fun k => absurd k (by decide), fun k => absurd k (by decide), fun k => absurd k (by decide)⟩
      have wj : WJ (hs_I g4) := by
        have lt : ∀ a, gm_k a < 10 → a < 320 := fun a ha => by
          by_cases h : a < 320
          · exact h
          · have e := (gm_k_999 (a := a) (by omega)).1
            omega
        refine ⟨fun a ha => ?_, fun a ha => ?_⟩
        · have h := (c2 a (lt a (by omega))).2.2.2
          unfold pb_J at h
          rw [Bool.and_eq_true] at h
          have x := or_k h.1 ha
          simp only [Bool.and_eq_true, decide_eq_true_eq] at x
          exact x
        · have h := (c2 a (lt a (by omega))).2.2.2
          unfold pb_J at h
          rw [Bool.and_eq_true] at h
          have x := or_k h.2 ha
          simp only [Bool.and_eq_true, decide_eq_true_eq] at x
          exact x
      unfold pb_2 at b2
      simp only [Bool.and_eq_true, Bool.not_eq_true', decide_eq_false_iff_not] at b2
      obtain ⟨d0, d1, d2, d3, d4, d5, d6, d7⟩ := b2
      have cj : CJ g4 := by
        refine ⟨⟨c0, kk, kn, cr, wj⟩, ?_, d1, d2, d3, d4, d5, d6, fun j hj => of_decide_eq_true (all_r d7 hj)⟩
        funext j
        by_cases h : j < 48
        · exact of_decide_eq_true (all_r d0 h)
        · rw [r4 j (by omega), hm_R_48 (by omega)]
      unfold pb_3 at b3
      simp only [Bool.and_eq_true, decide_eq_true_eq] at b3
      obtain ⟨f0, f1, f2, f3, f4, f5, f6⟩ := b3
      have pr : ∀ k, k < 256 → hs_I g4 312 k = nI (s_p0 k) ∧ hs_I g4 90 k = nI (s_p0 k) := by
        intro k hk
        have := all_r f3 hk
        simp only [Bool.and_eq_true, decide_eq_true_eq] at this
        exact this
      refine ⟨g1, g4, rfl, e4, b0, cj, ⟨⟨0, fun _ => 0, f0, by omega, fun i hi => absurd hi (by omega)⟩, ⟨s_p0, fun k hk => ⟨?_, (pr k hk).1⟩⟩, fun m hm8 => ⟨0, by omega, of_decide_eq_true (all_r f4 hm8)⟩, fun a ha => ⟨0, by omega, of_decide_eq_true (all_r f5 ha)⟩, fun q => absurd f1 q, fun q => absurd f2 q⟩, f6.trans f0.symm, fun k hk => (pr k hk).2.trans (pr k hk).1.symm⟩
      unfold s_p0
      split <;> omega
