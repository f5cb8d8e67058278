theorem s_Rc_in {c par R : Nat → Nat} {n l N h : Nat} (hM : s_Mt n l N h c R) (hD : ∀ t k d, s_Rc c par h R t k d → s_o1 c par n k d) : ∀ t k d, s_Rc c par h R t k d → k < n ∧ s_B c k
  | 0, k, d, x => by
    rcases x with ⟨h1, -⟩ | ⟨q, h1, h2, -⟩
    · rw [h1]; exact ⟨hM.1, s_B_0 c⟩
    · rw [h2]; exact hM.h2 h1
  | t + 1, k, d, x => by
    rcases x with x | ⟨k', d', x, go, -⟩
    · exact s_Rc_in hM hD t k d x
    · obtain ⟨h1, h2⟩ := s_Rc_in hM hD t k' d' x
      rcases go with ⟨g1, g2⟩ | ⟨g1, g2⟩
      · rw [g2]; exact ⟨(hD t k' d' x).2.2 g1, s_B_next h2⟩
      · obtain ⟨t1, t2, t3⟩ := hM.2.2.2.2.2.2 k' h1 h2 g1
        rw [g2]; exact ⟨by omega, t3⟩
theorem s_tq_par {c par par' : Nat → Nat} {n l N k : Nat} (hc : s_chain c l N n) (hp : ∀ o, o < N → par o = par' o) (hB : s_B c k) (hk : k < n) : s_tq c par k = s_tq c par' k := by
  unfold s_tq
  by_cases q : c k = 184
  · rw [if_pos q, if_pos q, hp _ ((hc k hB hk).2.2.2.1 q)]
  · rw [if_neg q, if_neg q]
theorem s_DOK.par {c par par' R : Nat → Nat} {n l N h : Nat} (hM : s_Mt n l N h c R) (hp : ∀ o, o < N → par o = par' o) (hD : s_DOK c par n h R) : s_DOK c par' n h R ∧ (∀ t k d, s_Rc c par' h R t k d ↔ s_Rc c par h R t k d) := by
  have inn := s_Rc_in hM hD.2.1
  have eq : ∀ t k d, s_Rc c par' h R t k d ↔ s_Rc c par h R t k d := by
    intro t
    induction t with
    | zero => intro k d; exact Iff.rfl
    | succ t ih =>
      intro k d
      constructor
      · rintro (x | ⟨k', d', x, go, e⟩)
        · exact Or.inl ((ih k d).mp x)
        · have x' := (ih k' d').mp x
          obtain ⟨h1, h2⟩ := inn t k' d' x'
          refine Or.inr ⟨k', d', x', go, ?_⟩
          rw [e]
          unfold s_d2
          rw [s_tq_par hM.2.2.2.2.1 hp h2 h1]
      · rintro (x | ⟨k', d', x, go, e⟩)
        · exact Or.inl ((ih k d).mpr x)
        · obtain ⟨h1, h2⟩ := inn t k' d' x
          refine Or.inr ⟨k', d', (ih k' d').mpr x, go, ?_⟩
          rw [e]
          unfold s_d2
          rw [s_tq_par hM.2.2.2.2.1 hp h2 h1]
  refine ⟨⟨hD.1, fun t k d x => ?_, fun t k d t' d' x y => hD.2.2 t k d t' d' ((eq t k d).mp x) ((eq t' k d').mp y)⟩, eq⟩
  have x' := (eq t k d).mp x
  obtain ⟨h1, h2⟩ := inn t k d x'
  have := hD.2.1 t k d x'
  unfold s_o1 s_d2 at this ⊢
  rw [← s_tq_par hM.2.2.2.2.1 hp h2 h1]
  exact this
theorem s_off_le (u : Nat → Nat) {i j : Nat} (h : i ≤ j) : s_off u i ≤ s_off u j := by
  induction h with
  | refl => exact Nat.le_refl _
  | @step j _ ih =>
    have := s_e_ge u (s_off u j)
    show s_off u i ≤ s_e u (s_off u j)
    omega
theorem s_off_1 (u : Nat → Nat) (i : Nat) : 1 ≤ s_off u i := s_off_le u (Nat.zero_le i)
theorem s_AC.c256 {u : Nat → Nat} {t m : Nat} (h : s_AC u t) (hu : ∀ i, i < t → u i < 256) (hm0 : m < u 0) : ∀ k, k < s_n u (s_off u m) → s_c u (s_off u m) k < 256 := fun k hk => by
  obtain ⟨a1, a2, a3, a4, a5, a6, a7, a8, a9, -⟩ := h.2.2.2.1 m hm0
  exact hu _ (by omega)
/-- what is unwritten is a FILE that is RIGHT -/
theorem UU.ac {u u' P : Nat → Nat} {t : Nat} (h : UU u u' P) (hac : s_AC u t) (hu : ∀ i, i < t → u i < 256) : s_AC u' (s_off u' (u' 0)) := by
  obtain ⟨h0, hz⟩ := h
  have hN8 := hac.2.2.1
  have hp : ∀ o, o < u 0 → s_par u o = s_par u' o := fun o ho => (hz o ho).1.symm
  have all : ∀ m, m < u 0 → s_Mt (s_n u' (s_off u' m)) (u' (s_off u' m + 1)) (u 0) (s_h u' (s_off u' m)) (s_c u' (s_off u' m)) (s_R u' (s_off u' m)) ∧ s_DOK (s_c u' (s_off u' m)) (s_par u') (s_n u' (s_off u' m)) (s_h u' (s_off u' m)) (s_R u' (s_off u' m)) := by
    intro m hm0
    obtain ⟨e1, e2, e3, b, far, S, b1, b2, b3, b4, b5⟩ := hz m hm0
    have M := hac.mt hm0
    have hc := hac.c256 hu hm0
    have nw : s_nw (s_c u (s_off u m)) (s_n u (s_off u m)) far S (s_c u' (s_off u' m)) := fun j j1 j2 x hx => by
      rw [b4 j j1 j2 x hx, s_em_f]
    have U := b2.u M hc (s_pl_f P _ _ b) nw
    have hR : ∀ q, q < s_h u (s_off u m) → (∀ i, i < 3 → s_R u' (s_off u' m) (4 * q + i) = S (s_R u (s_off u m) (4 * q + i))) ∧ s_R u' (s_off u' m) (4 * q + 3) = s_R u (s_off u m) (4 * q + 3) := fun q hq => by
      refine ⟨fun i hi => ?_, ?_⟩
      · rw [b5 _ (by omega), if_neg (by omega)]
      · rw [b5 _ (by omega), if_pos (by omega)]
    rw [e2, e3, b3]
    have M' := U.mt hR
    exact ⟨M', ((U.dok hR ((hac.v.2.2 m hm0).2.2.2.2)).par M' hp).1⟩
  have lt : ∀ m, m < u 0 → s_e u' (s_off u' m) ≤ s_off u' (u' 0) := fun m hm0 => by
    rw [h0]
    exact s_off_le u' (i := m + 1) (j := u 0) hm0
  refine ⟨s_off_1 _ _, by rw [h0]; exact hac.2.1, by rw [h0]; exact hN8, fun m hm0 => ?_, rfl, fun m hm0 => ?_⟩
  · rw [h0] at hm0
    have l1 := lt m hm0
    rw [h0] at l1 ⊢
    obtain ⟨M', -⟩ := all m hm0
    obtain ⟨e1, e2, -⟩ := hz m hm0
    obtain ⟨V1, V2, V3, -⟩ := hac.v.2.2 m hm0
    have V1 : u (s_off u m) ≤ 4 := V1
    have V2 : u (s_off u m) ≤ u (s_off u m + 1) := V2
    have V3 : u (s_off u m + 1) ≤ 20 := V3
    have he : s_e u' (s_off u' m) = s_off u' m + 5 + s_n u' (s_off u' m) + 7 * s_h u' (s_off u' m) := rfl
    exact ⟨by omega, by omega, by omega, by omega, by omega, by omega, M'.1, M'.2.1, by omega, M'.2.2.2.1, l1, M'.2.2.2.2.1, M'.2.2.2.2.2.1, M'.2.2.2.2.2.2⟩
  · rw [h0] at hm0
    exact (all m hm0).2
/-- the reference's rows after unwrite() are those of u' -/
theorem UU.fu {u u' P : Nat → Nat} {t : Nat} {g g' : hm} (h : UU u u' P) (hac : s_AC u t) (hu : ∀ i, i < t → u i < 256) (hu' : ∀ i, i < s_off u' (u' 0) → u' i < 256) (hF : s_Fu g u) (h4 : g' 285 4 = g 285 4) (h287 : g' 287 = g 287) (h288 : g' 288 = g 288) (h290 : g' 290 = g 290) (hU : ∀ z, z < u 0 → s_Un g' z (s_n u (s_off u z)) (s_h u (s_off u z)) (s_c u (s_off u z)) (s_R u (s_off u z)) P) : s_Fu g' u' ∧ ∀ z, z < u 0 → g' 289 z = nI (s_n u' (s_off u' z)) := by
  have hac' := h.ac hac hu
  obtain ⟨h0, hz⟩ := h
  have fact : ∀ z, z < u 0 → g' 289 z = nI (s_n u' (s_off u' z)) ∧ s_C g' 292 (2001 * z) (s_n u' (s_off u' z)) (s_c u' (s_off u' z)) ∧ s_Rw g' 291 (32 * z) (s_h u' (s_off u' z)) (s_R u' (s_off u' z)) := by
    intro z hz0
    obtain ⟨e1, e2, e3, b, far, S, b1, b2, b3, b4, b5⟩ := hz z hz0
    obtain ⟨b', far', S', c1, c2, c3, c4, c5, c6⟩ := hU z hz0
    have M := hac.mt hz0
    have hb := b_uq b1 (fun i hi => c1 i (Nat.le_of_lt hi))
    have hnB := s_chain_n M.2.2.2.2.1 (s_n u (s_off u z)) 0 (by omega) (by omega) (s_B_0 _)
    obtain ⟨uf, uS⟩ := Lo_uq (fun j _ j2 => s_pl_cg hb false j2) M.2.2.2.2.2.2 b2 c2
    have hc := hac.c256 hu hz0
    have hpl := s_pl_f P (s_c u (s_off u z)) (s_n u (s_off u z)) b
    have cS : ∀ j, s_B (s_c u (s_off u z)) j → j < s_n u (s_off u z) → S (j + s_sz (s_c u (s_off u z) j)) = S j + s_ln (s_c u (s_off u z)) far j := fun j j1 j2 => by rw [b2.2.1 j j1 j2, hpl j, Nat.add_zero]
    refine ⟨by rw [c4, b3, uS _ hnB (Nat.le_refl _)], fun k hk => ?_, fun i hi => ?_⟩
    · rw [b3] at hk
      obtain ⟨j, x, j1, j2, j3, rfl⟩ := s_cover M.2.2.2.2.1 cS (s_n u (s_off u z)) 0 k (by omega) (s_B_0 _) (by omega) (by rw [b2.1]; omega) hk
      have e := b4 j j1 j2 x j3
      have e' := c5 j j1 j2 x (by rw [← s_ln_cg (uf j j2)]; exact j3)
      rw [e, s_em_cg hb uf uS M.2.2.2.2.2.2 j2 j1]
      refine ⟨?_, ?_⟩
      · rw [uS j j1 (Nat.le_of_lt j2)]; exact e'
      · rw [← s_em_cg hb uf uS M.2.2.2.2.2.2 j2 j1]; exact s_em_256 M hc j1 j2 j3
    · rw [e3] at hi
      have hh := M.2.2.2.1
      obtain ⟨z1, z2⟩ := c6 (i / 4) (by omega)
      rw [b5 i hi]
      by_cases c : i % 4 = 3
      · rw [if_pos c]
        rw [show 4 * (i / 4) + 3 = i by omega] at z2
        exact ⟨z2, by
          have := (M.2.2.2.2.2.1 (i / 4) (by omega)).2.2.2.2
          rw [show 4 * (i / 4) + 3 = i by omega] at this
          omega⟩
      · rw [if_neg c]
        have z3 := z1 (i % 4) (by omega)
        obtain ⟨r1, r2⟩ := M.r3 (z := i / 4) (by omega) (show i % 4 < 3 by omega)
        rw [show 4 * (i / 4) + i % 4 = i by omega] at z3 r1 r2
        have := (b2.short M hc hpl).2.2 _ r2 r1
        have hn := M.2.1
        exact ⟨by rw [uS _ r2 r1]; exact z3, by omega⟩
  refine ⟨⟨by rw [h4, h0]; exact hF.1, fun z hz0 => ?_⟩, fun z hz0 => (fact z hz0).1⟩
  rw [h0] at hz0
  obtain ⟨y1, y2, y3, y4, y5, y6⟩ := hF.2 z hz0
  obtain ⟨e1, e2, e3, -⟩ := hz z hz0
  obtain ⟨f1, f2, f3⟩ := fact z hz0
  refine ⟨?_, ?_, f1, ?_, f2, f3⟩
  · rw [h287, y1]
    show nI (u (s_off u z)) = nI (u' (s_off u' z))
    rw [e1]
  · rw [h288, y2]
    show nI (u (s_off u z + 1)) = nI (u' (s_off u' z + 1))
    rw [e2]
  · rw [h290, y4]
    show nI (s_h u (s_off u z)) = nI (s_h u' (s_off u' z))
    rw [e3]
