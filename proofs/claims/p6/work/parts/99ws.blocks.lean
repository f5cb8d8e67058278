/-! TOLD, EXACTLY: what is unwritten has as many blocks -/
theorem t_ct_cg {b b' : Nat → Bool} : ∀ n, (∀ i, i < n → b i = b' i) → s_ct b n = s_ct b' n
  | 0, _ => rfl
  | n + 1, h => by
    show s_ct b n + (if b n = true then 1 else 0) = s_ct b' n + (if b' n = true then 1 else 0)
    rw [h n (by omega), t_ct_cg n (fun i hi => h i (by omega))]
theorem s_ct_gap {b : Nat → Bool} {k : Nat} : ∀ d, (∀ x, k < x → x < k + (d + 1) → ¬ b x = true) → s_ct b (k + (d + 1)) = s_ct b k + if b k = true then 1 else 0
  | 0, _ => rfl
  | d + 1, h => by
    show s_ct b (k + (d + 1)) + (if b (k + (d + 1)) = true then 1 else 0) = _
    rw [if_neg (h _ (by omega) (by omega)), Nat.add_zero, s_ct_gap d (fun x h1 h2 => h x h1 (by omega))]
/-- a block begins where an instruction does -/
theorem t_bl_B {c R : Nat → Nat} {n l N h i : Nat} (hM : s_Mt n l N h c R) (x : s_bl c n h R i) : s_B c i := by
  rcases x with e | ⟨z, hz, e⟩ | ⟨j, hB, -, hj, q⟩
  · rw [e]; exact s_B_0 c
  · rw [e]; exact (hM.h2 hz).2
  · rcases q with ⟨q1, q2⟩ | ⟨-, q2⟩
    · rw [q2]; exact (hM.2.2.2.2.2.2 j hj hB q1).2.2
    · rw [q2]; exact s_B_next hB
theorem s_U.bl {c : Nat → Nat} {n l N h : Nat} {R : Nat → Nat} {far : Nat → Bool} {S c' : Nat → Nat} (u : s_U c n l N h R far S c') {R' : Nat → Nat} (hR : ∀ q, q < h → (∀ i, i < 3 → R' (4 * q + i) = S (R (4 * q + i))) ∧ R' (4 * q + 3) = R (4 * q + 3)) {i : Nat} (hB : s_B c i) (hi : i < n) : s_bl c' (S n) h R' (S i) ↔ s_bl c n h R i := by
  have k172 : ∀ j, s_B c j → j < n → (c' (S j) = 172 ↔ c j = 172) := fun j j1 j2 => by
    have e := u.sj (fun k => decide (k = 172)) (by decide) j1 j2
    have e' : decide (c' (S j) = 172) = decide (c j = 172) := e
    exact decide_eq_decide.mp e'
  have k191 : ∀ j, s_B c j → j < n → (c' (S j) = 191 ↔ c j = 191) := fun j j1 j2 => by
    have e := u.sj (fun k => decide (k = 191)) (by decide) j1 j2
    have e' : decide (c' (S j) = 191) = decide (c j = 191) := e
    exact decide_eq_decide.mp e'
  constructor
  · rintro (e | ⟨z, hz, e⟩ | ⟨j', hB', -, hj', q⟩)
    · exact Or.inl (u.inj hB (s_B_0 c) (by omega) (Nat.zero_le _) (by rw [e, u.2.2.2.1]))
    · obtain ⟨z2, y2⟩ := u.1.h2 hz
      rw [(hR z hz).1 2 (by decide)] at e
      exact Or.inr (Or.inl ⟨z, hz, u.inj hB y2 (by omega) (by omega) e⟩)
    · obtain ⟨j, j1, j2, rfl⟩ := u.bi hB' hj'
      refine Or.inr (Or.inr ⟨j, j1, Nat.zero_le _, j2, ?_⟩)
      have hok := (u.ok j1 j2).1
      rcases q with ⟨q1, q2⟩ | ⟨q1, q2⟩
      · rw [u.sj s_isJ (by decide) j1 j2] at q1
        obtain ⟨t1, t2, t3⟩ := u.1.2.2.2.2.2.2 j j2 j1 q1
        rw [u.t j1 j2 q1, Int.toNat_natCast] at q2
        exact Or.inl ⟨q1, u.inj hB t3 (by omega) (by omega) q2⟩
      · rw [u.sz j1 j2, ← u.2.2.2.2.1 j j1 j2] at q2
        refine Or.inr ⟨?_, u.inj hB (s_B_next j1) (by omega) hok.2.1 q2⟩
        rcases q1 with q1 | q1 | q1
        · rw [u.sj s_isJ (by decide) j1 j2] at q1; exact Or.inl q1
        · exact Or.inr (Or.inl ((k172 j j1 j2).mp q1))
        · exact Or.inr (Or.inr ((k191 j j1 j2).mp q1))
  · rintro (e | ⟨z, hz, e⟩ | ⟨j, j1, -, j2, q⟩)
    · rw [e, u.2.2.2.1]; exact Or.inl rfl
    · exact Or.inr (Or.inl ⟨z, hz, by rw [e, (hR z hz).1 2 (by decide)]⟩)
    · refine Or.inr (Or.inr ⟨S j, u.b j1 (by omega), Nat.zero_le _, u.lt j1 u.nb j2 (Nat.le_refl n), ?_⟩)
      rcases q with ⟨q1, q2⟩ | ⟨q1, q2⟩
      · refine Or.inl ⟨by rw [u.sj s_isJ (by decide) j1 j2]; exact q1, ?_⟩
        rw [u.t j1 j2 q1, Int.toNat_natCast, q2]
      · refine Or.inr ⟨?_, by rw [u.sz j1 j2, ← u.2.2.2.2.1 j j1 j2, q2]⟩
        rcases q1 with q1 | q1 | q1
        · exact Or.inl (by rw [u.sj s_isJ (by decide) j1 j2]; exact q1)
        · exact Or.inr (Or.inl ((k172 j j1 j2).mpr q1))
        · exact Or.inr (Or.inr ((k191 j j1 j2).mpr q1))
theorem s_U.ct1 {c : Nat → Nat} {n l N h : Nat} {R : Nat → Nat} {far : Nat → Bool} {S c' : Nat → Nat} (u : s_U c n l N h R far S c') {R' : Nat → Nat} (hR : ∀ q, q < h → (∀ i, i < 3 → R' (4 * q + i) = S (R (4 * q + i))) ∧ R' (4 * q + 3) = R (4 * q + 3)) {b b' : Nat → Bool} (hb : ∀ i, i < n → (b i = true ↔ s_bl c n h R i)) (hb' : ∀ i, i < S n → (b' i = true ↔ s_bl c' (S n) h R' i)) : ∀ i, s_it c i ≤ n → s_ct b' (S (s_it c i)) = s_ct b (s_it c i)
  | 0, _ => by
    rw [show s_it c 0 = 0 from rfl, u.2.2.2.1]
    rfl
  | i + 1, hi => by
    have h0 : s_it c i ≤ s_it c (i + 1) := s_it_mono c (Nat.le_succ i)
    have ih := s_U.ct1 u hR hb hb' i (by omega)
    by_cases e : s_it c i < n
    rotate_left
    · rw [show s_it c (i + 1) = s_it c i by omega]
      exact ih
    have hB : s_B c (s_it c i) := ⟨i, rfl⟩
    have es : s_it c (i + 1) = s_it c i + s_sz (c (s_it c i)) := rfl
    rw [es]
    generalize s_it c i = k at e hB ih
    obtain ⟨o1, o2, o3⟩ := u.ok hB e
    have eS := u.2.2.2.2.1 k hB e
    have l1 := u.lt hB u.nb e (Nat.le_refl n)
    have l2 := (u.2.2.1 _ n (s_B_next hB) u.nb o1.2.1 (Nat.le_refl n)).1
    have esz := u.sz hB e
    have hsz := o1.2.1
    have M' := u.mt hR
    obtain ⟨d, ed⟩ : ∃ d, s_sz (c k) = d + 1 := ⟨s_sz (c k) - 1, by omega⟩
    obtain ⟨d', ed'⟩ : ∃ d', s_ln c far k = d' + 1 := ⟨s_ln c far k - 1, by omega⟩
    have g1 := s_ct_gap (b := b) (k := k) d (fun x h1 h2 q => s_B_gap hB h1 (by omega) (t_bl_B u.1 ((hb x (by omega)).mp q)))
    have g2 := s_ct_gap (b := b') (k := S k) d' (fun x h1 h2 q => s_B_gap (u.b hB (by omega)) h1 (by omega) (t_bl_B M' ((hb' x (by omega)).mp q)))
    have eb : (b' (S k) = true) = (b k = true) := propext (((hb' (S k) l1).trans (u.bl hR hB e)).trans (hb k e).symm)
    rw [eS, ed, ed', g1, g2, ih]
    simp only [eb]
/-- a FILE that is unwritten has as many blocks -/
theorem UU.ct {u u' P : Nat → Nat} {t z : Nat} (h : UU u u' P) (hac : s_AC u t) (hu : ∀ i, i < t → u i < 256) (hz0 : z < u 0) {b b' : Nat → Bool} (hb : ∀ i, i < s_n u (s_off u z) → (b i = true ↔ s_bl (s_c u (s_off u z)) (s_n u (s_off u z)) (s_h u (s_off u z)) (s_R u (s_off u z)) i)) (hb' : ∀ i, i < s_n u' (s_off u' z) → (b' i = true ↔ s_bl (s_c u' (s_off u' z)) (s_n u' (s_off u' z)) (s_h u' (s_off u' z)) (s_R u' (s_off u' z)) i)) : s_ct b' (s_n u' (s_off u' z)) = s_ct b (s_n u (s_off u z)) := by
  obtain ⟨e1, e2, e3, b0, far, S, b1, b2, b3, b4, b5⟩ := h.2 z hz0
  have M := hac.mt hz0
  have hc := hac.c256 hu hz0
  have nw : s_nw (s_c u (s_off u z)) (s_n u (s_off u z)) far S (s_c u' (s_off u' z)) := fun j j1 j2 x hx => by
    rw [b4 j j1 j2 x hx, s_em_f]
  have U := b2.u M hc (s_pl_f P _ _ b0) nw
  have hR : ∀ q, q < s_h u (s_off u z) → (∀ i, i < 3 → s_R u' (s_off u' z) (4 * q + i) = S (s_R u (s_off u z) (4 * q + i))) ∧ s_R u' (s_off u' z) (4 * q + 3) = s_R u (s_off u z) (4 * q + 3) := fun q hq => by
    refine ⟨fun i hi => ?_, ?_⟩
    · rw [b5 _ (by omega), if_neg (by omega)]
    · rw [b5 _ (by omega), if_pos (by omega)]
  rw [e3, b3] at hb'
  rw [b3]
  obtain ⟨i, ei⟩ := U.nb
  have r := U.ct1 hR hb hb' i (by omega)
  rw [ei] at r
  exact r
