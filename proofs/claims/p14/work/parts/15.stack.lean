/-- what the rows 'next' hold of method m, as stacks() asks it -/
def s_Ms (g : hm) (m n N h t b : Nat) (c par R : Nat → Nat) : Prop := g 285 2 = nI t ∧ t ≤ 6000 ∧ g 299 m = nI n ∧ g 300 m = nI b ∧ b ≤ 20000 ∧ s_C g 303 (2001 * m) n c ∧ (∀ o, o < N → g 297 o = nI (par o) ∧ par o ≤ 4) ∧ g 301 m = nI h ∧ s_Rw g 302 (32 * m) h R
/-- the code and the handlers are right, but for the stack -/
def s_Mt (n l N h : Nat) (c R : Nat → Nat) : Prop := 1 ≤ n ∧ n ≤ 2000 ∧ N ≤ 8 ∧ h ≤ 8 ∧ s_chain c l N n ∧ (∀ q, q < h → s_hk c n R q) ∧ ∀ k, k < n → s_jk c n k
theorem s_Ms.fr {g g' : hm} {m n N h t b : Nat} {c par R : Nat → Nat} (x : s_Ms g m n N h t b c par R) (hF : Fr [295, 296] g g') : s_Ms g' m n N h t b c par R := by
  obtain ⟨a1, a2, a3, a4, a5, a6, a7, a8, a9⟩ := x
  refine ⟨by rw [hF 285 (by decide)]; exact a1, a2, by rw [hF 299 (by decide)]; exact a3, by rw [hF 300 (by decide)]; exact a4, a5, fun k hk => by rw [hF 303 (by decide)]; exact a6 k hk, fun o ho => by rw [hF 297 (by decide)]; exact a7 o ho, by rw [hF 301 (by decide)]; exact a8, fun i hi => by rw [hF 302 (by decide)]; exact a9 i hi⟩
/-- the invariant of the going on -/
def s_Iv (g : hm) (m n h : Nat) (c par R : Nat → Nat) : Prop := (∀ i, i < n → s_dv (g 295 (2001 * m + i))) ∧ (∀ i, i < n → ∀ d, d ≤ 20 → g 295 (2001 * m + i) = nI d → s_B c i ∧ ∃ τ, s_Rc c par h R τ i d) ∧ g 295 (2001 * m) = nI 0 ∧ (∀ q, q < h → g 295 (2001 * m + R (4 * q + 2)) = nI 1) ∧
  ∀ i, i < n → ¬ g 296 (2001 * m + i) = 0 → ∃ d, d ≤ 20 ∧ g 295 (2001 * m + i) = nI d ∧ s_o1 c par n i d ∧ ∀ j, j < n → s_go c i j → g 295 (2001 * m + j) = nI (s_d2 c par i d)
theorem nI_m1 {d : Nat} (h : d < 2147483648) : ¬ nI d = -1 := fun e => absurd (show nI d < 0 by rw [e]; decide) (nI_pos (by omega))
set_option maxHeartbeats 1000000 in
theorem q_s122 {m n l N h t b : Nat} {c par R : Nat → Nat} (hm8 : m < 8) (hM : s_Mt n l N h c R) : ∀ (f k : Nat) (g : hm), s_Ms g m n N h t b c par R → s_Iv g m n h c par R → k ≤ n → s_cn (g 296) (2001 * m) n * (n + 1) + (n - k) < f → (∀ i, i < k → g 295 (2001 * m + i) = -1 ∨ ¬ g 296 (2001 * m + i) = 0) →
    Tq (nlX12_stacks_122 f (nI m) (nI n) (nI (2001 * m)) (nI k) g) (fun q => Fr [295, 296] g q.2.2 ∧ ((q.1 = 0 ∧ s_Iv q.2.2 m n h c par R ∧ ∀ i, i < n → q.2.2 295 (2001 * m + i) = -1 ∨ ¬ q.2.2 296 (2001 * m + i) = 0) ∨ (q.1 = 1 ∧ q.2.1 < 0 ∧ ¬ s_DOK c par n h R)))
  | 0, k, g, _, _, _, hf, _ => absurd hf (Nat.not_lt_zero _)
  | f + 1, k, g, hMs, hI, hk, hf, hcl => by
    obtain ⟨n1, n2, hN, hh, hch, hhk, hjk⟩ := id hM
    obtain ⟨a1, a2, a3, a4, a5, a6, a7, a8, a9⟩ := id hMs
    obtain ⟨v1, v2, v3, v4, v5⟩ := id hI
    rw [nlX12_stacks_122_s]
    by_cases hkn : k < n
    rotate_left
    · rw [if_pos ((lei (by omega) (by omega)).mpr (by omega))]
      exact Tq.some ⟨Fr.rf, Or.inl ⟨rfl, hI, fun i hi => hcl i (by omega)⟩⟩
    have i0 : hs_in (nI (2001 * m + k)) 16008 = true := hin (by omega) (by decide)
    have l0 : (nI (2001 * m + k)).toNatClampNeg = 2001 * m + k := cl (by omega)
    rw [if_neg (fun q => absurd ((lei (by omega) (by omega)).mp q) (by omega)), nI_add, if_pos i0, l0]
    have go1 : (g 295 (2001 * m + k) = -1 ∨ ¬ g 296 (2001 * m + k) = 0) → Tq (njX12_stacks_152 (fun y0 g => nlX12_stacks_122 f (nI m) (nI n) (nI (2001 * m)) y0 g) (nI m) (nI n) (nI (2001 * m)) (nI k) g) (fun q => Fr [295, 296] g q.2.2 ∧ ((q.1 = 0 ∧ s_Iv q.2.2 m n h c par R ∧ ∀ i, i < n → q.2.2 295 (2001 * m + i) = -1 ∨ ¬ q.2.2 296 (2001 * m + i) = 0) ∨ (q.1 = 1 ∧ q.2.1 < 0 ∧ ¬ s_DOK c par n h R))) := by
      intro hc
      unfold njX12_stacks_152
      rw [nI_1]
      refine q_s122 hm8 hM f (k + 1) g hMs hI (by omega) (by omega) (fun i hi => ?_)
      by_cases e : i = k
      · rw [e]; exact hc
      · exact hcl i (by omega)
    rcases v1 k hkn with e | ⟨d, hd, e⟩
    · rw [e, if_pos (by decide)]
      exact go1 (Or.inl e)
    rw [e, if_neg (nI_pos (by omega)), if_pos i0]
    by_cases hG : g 296 (2001 * m + k) = 0
    rotate_left
    · rw [if_neg hG]
      exact go1 (Or.inr hG)
    rw [if_pos hG]
    obtain ⟨hB, τ, hτ⟩ := v2 k hkn d hd e
    have hok := hch k hB hkn
    generalize hg1 : hm_w g 296 (2001 * m + k) 1 = g1
    have F1 : Fr [295, 296] g g1 := by rw [← hg1]; exact Fr.rf.w (by decide)
    have D1 : g1 295 = g 295 := by rw [← hg1]; exact hm_w_ne (by decide)
    have G1 : ∀ i, g1 296 i = if i = 2001 * m + k then 1 else g 296 i := fun i => by rw [← hg1, hm_w_at]
    obtain ⟨s1, s2, s3, s4, s5, s6, s7, s8, s9⟩ := hMs.fr F1
    refine Tq.bd ((q_goesOn hm8 n2 hkn hd s1 s2 s3 s4 s5 s6 hok hN (hjk k hkn hB) s7 (fun i hi => by rw [D1]; exact v1 i hi) (by rw [D1]; exact e)).mono fun q hq => ?_)
    obtain ⟨fq, oq, alt⟩ := hq
    rw [D1] at alt
    have G2 : q.2 296 = g1 296 := fq 296 (by decide)
    have Fq : Fr [295, 296] g q.2 := F1.trans (fq.mono (by decide))
    rcases alt with ⟨r0, ho1, hcm, hgo, hno⟩ | ⟨rn, why⟩
    · rw [r0, if_pos (by decide)]
      have keep : ∀ i, i < n → ¬ g 295 (2001 * m + i) = -1 → q.2 295 (2001 * m + i) = g 295 (2001 * m + i) := by
        intro i hi hne
        by_cases w : s_go c k i
        · rw [hgo i hi w]
          exact ((hcm i hi w).resolve_left hne).symm
        · exact hno i hi w
      have hIq : s_Iv q.2 m n h c par R := by
        refine ⟨fun i hi => ?_, fun i hi e0 he0 he1 => ?_, ?_, fun z hz => ?_, fun i hi hGi => ?_⟩
        · by_cases w : s_go c k i
          · rw [hgo i hi w]; exact Or.inr ⟨_, ho1.2.1, rfl⟩
          · rw [hno i hi w]; exact v1 i hi
        · by_cases w : s_go c k i
          · rw [hgo i hi w] at he1
            have := (eqi (by have := ho1.2.1; omega) (by omega)).mp he1
            subst this
            refine ⟨?_, τ + 1, Or.inr ⟨k, d, hτ, w, rfl⟩⟩
            rcases w with ⟨-, w2⟩ | ⟨w1, w2⟩
            · rw [w2]; exact s_B_next hB
            · rw [w2]; exact (hjk k hkn hB w1).2.2
          · rw [hno i hi w] at he1
            exact v2 i hi e0 he0 he1
        · have := keep 0 (by omega) (by rw [Nat.add_zero, v3]; exact nI_m1 (by decide))
          rw [Nat.add_zero] at this
          rw [this]; exact v3
        · have ha : s_is c n (R (4 * z + 2)) := (hhk z hz).2.1
          rw [keep (R (4 * z + 2)) (by have := ha.2.1; omega) (by rw [v4 z hz]; exact nI_m1 (by decide))]
          exact v4 z hz
        · rw [G2, G1] at hGi
          by_cases w : i = k
          · subst w
            refine ⟨d, hd, ?_, ho1, fun j hj hgj => hgo j hj hgj⟩
            rw [keep i hi (by rw [e]; exact nI_m1 (by omega))]; exact e
          · rw [if_neg (by omega)] at hGi
            obtain ⟨d', x1, x2, x3, x4⟩ := v5 i hi hGi
            refine ⟨d', x1, ?_, x3, fun j hj hgj => ?_⟩
            · rw [keep i hi (by rw [x2]; exact nI_m1 (by omega))]; exact x2
            · have x5 := x4 j hj hgj
              rw [keep j hj (by rw [x5]; exact nI_m1 (by have := x3.2.1; omega))]; exact x5
      have hcn : s_cn (q.2 296) (2001 * m) n + 1 = s_cn (g 296) (2001 * m) n := by
        rw [G2]
        exact s_cn_set hkn hG (by rw [G1, if_pos rfl]; decide) (fun i hi hne => by rw [G1, if_neg (by omega)])
      have e0 : (0 : Int32) = nI 0 := rfl
      rw [e0]
      refine (q_s122 hm8 hM f 0 q.2 (hMs.fr Fq) hIq (by omega) ?_ (fun i hi => absurd hi (Nat.not_lt_zero i))).mono fun q' hq' => ⟨Fq.trans hq'.1, hq'.2⟩
      have : s_cn (g 296) (2001 * m) n * (n + 1) = s_cn (q.2 296) (2001 * m) n * (n + 1) + (n + 1) := by rw [← hcn, Nat.add_mul, Nat.one_mul]
      omega
    · rw [if_neg (fun u => absurd rn (Int32.not_lt.mpr u))]
      refine Tq.some ⟨Fq, Or.inr ⟨rfl, rn, fun hD => ?_⟩⟩
      rcases why with w | ⟨i, hi, w1, w2⟩
      · exact w (hD.2.1 τ k d hτ)
      · rcases v1 i hi with y | ⟨e0, y0, y⟩
        · exact w2 (Or.inl y)
        · obtain ⟨-, τ', hτ'⟩ := v2 i hi e0 y0 y
          have := hD.2.2 τ' i e0 (τ + 1) (s_d2 c par k d) hτ' (Or.inr ⟨k, d, hτ, w1, rfl⟩)
          exact w2 (Or.inr (by rw [y, this]))
/-- the depths that the row holds are those of the places that one comes to -/
def s_Dm (g : hm) (m n h : Nat) (c par R : Nat → Nat) : Prop := ∀ i, i < n → s_dv (g 295 (2001 * m + i)) ∧ (∀ d, d ≤ 20 → g 295 (2001 * m + i) = nI d → ∃ τ, s_Rc c par h R τ i d) ∧ ∀ τ d, s_Rc c par h R τ i d → g 295 (2001 * m + i) = nI d
theorem s_closed {g : hm} {m n l N h : Nat} {c par R : Nat → Nat} (hM : s_Mt n l N h c R) (hI : s_Iv g m n h c par R) (hcl : ∀ i, i < n → g 295 (2001 * m + i) = -1 ∨ ¬ g 296 (2001 * m + i) = 0) : ∀ τ k d, s_Rc c par h R τ k d → k < n ∧ d ≤ 20 ∧ s_B c k ∧ g 295 (2001 * m + k) = nI d ∧ s_o1 c par n k d := by
  obtain ⟨n1, n2, hN, hh, hch, hhk, hjk⟩ := hM
  obtain ⟨v1, v2, v3, v4, v5⟩ := hI
  have fin : ∀ k d, k < n → d ≤ 20 → g 295 (2001 * m + k) = nI d → k < n ∧ d ≤ 20 ∧ s_B c k ∧ g 295 (2001 * m + k) = nI d ∧ s_o1 c par n k d := by
    intro k d hk hd e
    have hG : ¬ g 296 (2001 * m + k) = 0 := (hcl k hk).resolve_left (by rw [e]; exact nI_m1 (by omega))
    obtain ⟨d', x1, x2, x3, -⟩ := v5 k hk hG
    have : d = d' := (eqi (by omega) (by omega)).mp (e.symm.trans x2)
    subst this
    exact ⟨hk, hd, (v2 k hk d hd e).1, e, x3⟩
  intro τ
  induction τ with
  | zero =>
    rintro k d (⟨rfl, rfl⟩ | ⟨q, hq, rfl, rfl⟩)
    · exact fin 0 0 (by omega) (by omega) (by rw [Nat.add_zero]; exact v3)
    · have ha : s_is c n (R (4 * q + 2)) := (hhk q hq).2.1
      exact fin _ 1 (by have := ha.2.1; omega) (by omega) (v4 q hq)
  | succ τ ih =>
    rintro k d (x | ⟨k', d', x, hgo, rfl⟩)
    · exact ih k d x
    · obtain ⟨h1, h2, h3, h4, h5⟩ := ih k' d' x
      have hG : ¬ g 296 (2001 * m + k') = 0 := (hcl k' h1).resolve_left (by rw [h4]; exact nI_m1 (by omega))
      obtain ⟨e, x1, x2, x3, x4⟩ := v5 k' h1 hG
      have : d' = e := (eqi (by omega) (by omega)).mp (h4.symm.trans x2)
      subst this
      have hk : k < n := by
        rcases hgo with ⟨w1, w2⟩ | ⟨w1, w2⟩
        · rw [w2]; exact h5.2.2 w1
        · have u := hjk k' h1 h3 w1
          have u1 := u.1
          have u2 := u.2.1
          rw [w2]; omega
      exact fin k _ hk x3.2.1 (x4 k hk hgo)
theorem q_stacks {m n l N h t b : Nat} {c par R : Nat → Nat} {g : hm} (hm8 : m < 8) (hM : s_Mt n l N h c R) (hMs : s_Ms g m n N h t b c par R) :
    Tq (nX12_stacks (nI m) g) (fun q => Fr [295, 296] g q.2 ∧ ((q.1 = 0 ∧ s_DOK c par n h R ∧ s_Dm q.2 m n h c par R) ∨ (q.1 < 0 ∧ ¬ s_DOK c par n h R))) := by
  obtain ⟨n1, n2, hN, hh, hch, hhk, hjk⟩ := id hM
  obtain ⟨a1, a2, a3, a4, a5, a6, a7, a8, a9⟩ := id hMs
  have h8 : hs_in (nI m) 8 = true := hin hm8 (by decide)
  have cm : (nI m).toNatClampNeg = m := cl (by omega)
  have c1 : (2001 : Int32) * nI m = nI (2001 * m) := pk_mul 2001 m
  have e0 : (0 : Int32) = nI 0 := rfl
  unfold nX12_stacks
  rw [if_pos h8, cm, a3, c1]
  have hat : ∀ q, q < h → R (4 * q + 2) < n := fun q hq => by have := (hhk q hq).2.1.2.1; omega
  refine Tq.bv ((q_s16 hm8 n2 (nI m) n 0 hs_N g (by omega) (by unfold hs_N; omega)).mono fun g3 h3 => ?_)
  obtain ⟨f3, D3, G3⟩ := h3
  rw [if_pos (hin (by omega) (by decide)), cl (by omega)]
  generalize hg4 : hm_w g3 295 (2001 * m) 0 = g4
  have F4 : Fr [295, 296] g g4 := by rw [← hg4]; exact f3.w (by decide)
  have D4 : ∀ i, i < n → g4 295 (2001 * m + i) = if i = 0 then 0 else -1 := fun i hi => by
    rw [← hg4, hm_w_at]
    by_cases e : i = 0
    · rw [if_pos (by omega), if_pos e]
    · rw [if_neg (by omega), if_neg e, D3, if_pos (by omega)]
  have G4 : ∀ i, i < n → g4 296 (2001 * m + i) = 0 := fun i hi => by rw [← hg4, hm_w_ne (by decide), G3, if_pos (by omega)]
  obtain ⟨b1, b2, b3, b4, b5, b6, b7, b8, b9⟩ := hMs.fr F4
  refine Tq.bd ((q_s58 hm8 n2 hh hat h 0 hs_N g4 (by omega) (by unfold hs_N; omega) b8 b9 (fun q hq => absurd hq (Nat.not_lt_zero q))).mono fun q hq => ?_)
  obtain ⟨fq, oq, alt⟩ := hq
  have Fq : Fr [295, 296] g q.2 := F4.trans (fq.mono (by decide))
  rcases alt with ⟨q1, hz⟩ | ⟨q0, hz, hD⟩
  · rw [q1, if_neg (by decide), if_pos h8, fq 300 (by decide), b4]
    obtain ⟨r, w1, w2⟩ := q_wrong (g := q.2) (p := b) (t := t) (by rw [Fq 285 (by decide)]; exact a1) (by omega) (by omega)
    rw [w1, hm_bd_s]
    exact Tq.some ⟨Fq, Or.inr ⟨w2, fun hD => hz hD.1⟩⟩
  · rw [q0, if_pos rfl]
    have D5 : ∀ i, i < n → ((∃ z, z < h ∧ i = R (4 * z + 2)) → q.2 295 (2001 * m + i) = nI 1) ∧ ((¬ ∃ z, z < h ∧ i = R (4 * z + 2)) → q.2 295 (2001 * m + i) = if i = 0 then 0 else -1) := fun i hi => by
      obtain ⟨y1, y2⟩ := hD i hi
      exact ⟨fun ⟨z, z2, z3⟩ => y1 ⟨z, Nat.zero_le z, z2, z3⟩, fun w => by rw [y2 (fun ⟨z, _, z2, z3⟩ => w ⟨z, z2, z3⟩), D4 i hi]⟩
    have no0 : ¬ ∃ z, z < h ∧ 0 = R (4 * z + 2) := fun ⟨z, z1, z2⟩ => hz z z1 z2.symm
    have hI : s_Iv q.2 m n h c par R := by
      refine ⟨fun i hi => ?_, fun i hi d hd hd1 => ?_, ?_, fun z hz1 => (D5 _ (hat z hz1)).1 ⟨z, hz1, rfl⟩, fun i hi hGi => ?_⟩
      · by_cases w : ∃ z, z < h ∧ i = R (4 * z + 2)
        · rw [(D5 i hi).1 w]; exact Or.inr ⟨1, by omega, rfl⟩
        · rw [(D5 i hi).2 w]
          by_cases e : i = 0
          · rw [if_pos e]; exact Or.inr ⟨0, by omega, rfl⟩
          · rw [if_neg e]; exact Or.inl rfl
      · by_cases w : ∃ z, z < h ∧ i = R (4 * z + 2)
        · rw [(D5 i hi).1 w] at hd1
          have := (eqi (a := 1) (by omega) (by omega)).mp hd1
          subst this
          obtain ⟨z, z1, z2⟩ := w
          refine ⟨?_, 0, Or.inr ⟨z, z1, z2, rfl⟩⟩
          have := (hhk z z1).2.1.2.2
          rw [z2]; exact this
        · rw [(D5 i hi).2 w] at hd1
          by_cases e : i = 0
          · rw [if_pos e] at hd1
            have := (eqi (a := 0) (by omega) (by omega)).mp hd1
            subst this
            rw [e]
            exact ⟨s_B_0 c, 0, Or.inl ⟨rfl, rfl⟩⟩
          · rw [if_neg e] at hd1
            exact absurd hd1.symm (nI_m1 (by omega))
      · have := (D5 0 (by omega)).2 no0
        rw [Nat.add_zero, if_pos rfl] at this
        exact this
      · rw [fq 296 (by decide), G4 i hi] at hGi
        exact absurd rfl hGi
    rw [e0]
    refine Tq.b3 ((q_s122 hm8 hM hs_N 0 q.2 (hMs.fr Fq) hI (by omega) ?_ (fun i hi => absurd hi (Nat.not_lt_zero i))).mono fun q' hq' => ?_)
    · have h1 := s_cn_le (q.2 296) (2001 * m) n
      have h2 : s_cn (q.2 296) (2001 * m) n * (n + 1) ≤ 2000 * 2001 := Nat.mul_le_mul (by omega) (by omega)
      unfold hs_N
      omega
    · rcases hq'.2 with ⟨x1, x2, x3⟩ | ⟨x1, x2, x3⟩
      · rw [x1, if_pos rfl]
        have hc := s_closed hM x2 x3
        refine Tq.some ⟨Fq.trans hq'.1, Or.inl ⟨rfl, ⟨hz, fun t k d y => (hc t k d y).2.2.2.2, fun t k d t' d' y y' => ?_⟩, fun i hi => ⟨x2.1 i hi, fun d hd y => (x2.2.1 i hi d hd y).2, fun τ d y => (hc τ i d y).2.2.2.1⟩⟩⟩
        have u1 := hc t k d y
        have u2 := hc t' k d' y'
        exact (eqi (by omega) (by omega)).mp (u1.2.2.2.1.symm.trans u2.2.2.2.1)
      · rw [x1, if_neg (by decide)]
        exact Tq.some ⟨Fq.trans hq'.1, Or.inr ⟨x2, x3⟩⟩
