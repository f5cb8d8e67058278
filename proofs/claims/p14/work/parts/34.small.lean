/-! THE SMALL CALLS -/
theorem s_FV.n8 {g : hm} (x : s_FV g) : ∃ N, g 285 4 = nI N ∧ N ≤ 8 ∧ ∀ m, m < N → ∃ n h, g 289 m = nI n ∧ n ≤ 2000 ∧ g 290 m = nI h ∧ h ≤ 8 := by
  obtain ⟨N, p, l, n, h, c, R, x1, x2⟩ := x
  refine ⟨N, x1.1, x2.2.1, fun m hm8 => ?_⟩
  obtain ⟨G, M⟩ := x1.g x2 hm8
  exact ⟨n m, h m, G.2.2.2.1, G.2.1, G.2.2.2.2.1, G.2.2.1⟩
theorem s_WV.n8 {g : hm} (x : s_WV g) : ∃ N, g 285 4 = nI N ∧ N ≤ 8 ∧ ∀ m, m < N → ∃ n h, g 305 m = nI n ∧ n ≤ 4000 ∧ g 290 m = nI h ∧ h ≤ 8 := by
  obtain ⟨N, p, l, n, h, c, R, P, x1, x2, x3, x4, x5⟩ := x
  refine ⟨N, x1, x3.2.1, fun m hm8 => ?_⟩
  obtain ⟨⟨b, far, S, y1, y2, y3, y4, y5⟩, -⟩ := x5 m hm8
  exact ⟨S (n m), h m, y4, y3, (x2 m hm8).2.2, (x3.2.2 m hm8).2.2.2.1.2.2.2.1⟩
/-- byteAt() -/
theorem q_byteAt {g : hm} (hF : ¬ g 285 3 = 0 → s_FV g) (hW : ¬ g 285 22 = 0 → s_WV g) (a1 a2 a3 : Int32) : ∃ r, nX12_byteAt a1 a2 a3 g = some (r, g) := by
  have go : ∀ N, g 285 4 = nI N → N ≤ 8 → (∀ m, m < N → ∃ n, (if a2 = 0 then g 289 m else g 305 m) = nI n ∧ n ≤ (if a2 = 0 then 2000 else 4000)) → ∃ r, njX12_byteAt_24 a1 a2 a3 g = some (r, g) := by
    intro N h4 hN hm
    unfold njX12_byteAt_24 njX12_byteAt_60
    by_cases c1 : a1 < 0
    · rw [if_pos c1]; exact ⟨_, rfl⟩
    obtain ⟨m, hm0, em⟩ := nI_of c1
    subst em
    rw [if_neg c1, h4]
    by_cases c2 : m < N
    rotate_left
    · rw [if_pos ((lei (by omega) (by omega)).mpr (by omega))]; exact ⟨_, rfl⟩
    rw [if_neg (fun q => absurd ((lei (by omega) (by omega)).mp q) (by omega))]
    by_cases c3 : a3 < 0
    · rw [if_pos c3]; exact ⟨_, rfl⟩
    obtain ⟨k, hk0, ek⟩ := nI_of c3
    subst ek
    obtain ⟨n, e1, e2⟩ := hm m c2
    have hi : hs_in (nI m) 8 = true := hin (by omega) (by decide)
    rw [if_neg c3, if_pos hi, if_pos hi, cl (show m < 2147483648 by omega)]
    by_cases c4 : a2 = 0
    · rw [if_pos c4] at e1 e2
      rw [if_pos c4, if_pos c4, e1]
      by_cases c5 : k < n
      · have e3 : (2001 : Int32) * nI m + nI k = nI (2001 * m + k) := ix 2001 m k
        rw [if_pos ((lti (by omega) (by omega)).mpr c5)]
        unfold nX12_kindAt
        rw [e3, if_pos (hin (show 2001 * m + k < 16008 by omega) (by decide))]
        exact ⟨_, rfl⟩
      · rw [if_neg (fun q => absurd ((lti (by omega) (by omega)).mp q) (by omega))]; exact ⟨_, rfl⟩
    · rw [if_neg c4] at e1 e2
      rw [if_neg c4, if_neg c4, e1]
      by_cases c5 : k < n
      · have e3 : (4001 : Int32) * nI m + nI k = nI (4001 * m + k) := ix 4001 m k
        rw [if_pos ((lti (by omega) (by omega)).mpr c5), e3, if_pos (hin (show 4001 * m + k < 32008 by omega) (by decide))]
        exact ⟨_, rfl⟩
      · rw [if_neg (fun q => absurd ((lti (by omega) (by omega)).mp q) (by omega))]; exact ⟨_, rfl⟩
  unfold nX12_byteAt
  by_cases c4 : a2 = 0
  · rw [if_pos c4]
    by_cases c0 : g 285 3 = 0
    · rw [if_pos c0]; exact ⟨_, rfl⟩
    · rw [if_neg c0]
      obtain ⟨N, h1, h2, h3⟩ := (hF c0).n8
      refine go N h1 h2 fun m hm8 => ?_
      obtain ⟨n, h, w1, w2, w3⟩ := h3 m hm8
      exact ⟨n, by rw [if_pos c4]; exact w1, by rw [if_pos c4]; exact w2⟩
  · rw [if_neg c4]
    by_cases c0 : g 285 22 = 0
    · rw [if_pos c0]; exact ⟨_, rfl⟩
    · rw [if_neg c0]
      obtain ⟨N, h1, h2, h3⟩ := (hW c0).n8
      refine go N h1 h2 fun m hm8 => ?_
      obtain ⟨n, h, w1, w2, w3⟩ := h3 m hm8
      exact ⟨n, by rw [if_neg c4]; exact w1, by rw [if_neg c4]; exact w2⟩
/-- handler() -/
theorem q_handler {g : hm} (hF : ¬ g 285 3 = 0 → s_FV g) (hW : ¬ g 285 22 = 0 → s_WV g) (a1 a2 a3 a4 : Int32) : ∃ r, nX12_handler a1 a2 a3 a4 g = some (r, g) := by
  have go : ∀ N, g 285 4 = nI N → N ≤ 8 → (∀ m, m < N → ∃ h, g 290 m = nI h ∧ h ≤ 8) → ∃ r, njX12_handler_24 a1 a2 a3 a4 g = some (r, g) := by
    intro N h4 hN hm
    unfold njX12_handler_24
    by_cases c1 : a1 < 0
    · rw [if_pos c1]; exact ⟨_, rfl⟩
    obtain ⟨m, hm0, em⟩ := nI_of c1
    subst em
    rw [if_neg c1, h4]
    by_cases c2 : m < N
    rotate_left
    · rw [if_pos ((lei (by omega) (by omega)).mpr (by omega))]; exact ⟨_, rfl⟩
    rw [if_neg (fun q => absurd ((lei (by omega) (by omega)).mp q) (by omega))]
    by_cases c3 : a3 < 0
    · rw [if_pos c3]; exact ⟨_, rfl⟩
    obtain ⟨k, hk0, ek⟩ := nI_of c3
    subst ek
    obtain ⟨h, e1, e2⟩ := hm m c2
    rw [if_neg c3, if_pos (hin (show m < 8 by omega) (by decide)), cl (show m < 2147483648 by omega), e1]
    by_cases c5 : k < h
    rotate_left
    · rw [if_pos ((lei (by omega) (by omega)).mpr (by omega))]; exact ⟨_, rfl⟩
    rw [if_neg (fun q => absurd ((lei (by omega) (by omega)).mp q) (by omega))]
    by_cases c6 : a4 < 0
    · rw [if_pos c6]; exact ⟨_, rfl⟩
    obtain ⟨w, hw0, ew⟩ := nI_of c6
    subst ew
    rw [if_neg c6]
    by_cases c7 : nI w ≤ (3 : Int32)
    rotate_left
    · rw [if_neg c7]; exact ⟨_, rfl⟩
    have hw := (lei (b := 3) (by omega) (by decide)).mp c7
    have d1 : (32 : Int32) * nI m + (4 : Int32) * nI k = nI (32 * m + 4 * k) := by rw [show (32 : Int32) = nI 32 from rfl, show (4 : Int32) = nI 4 from rfl, pk_mul, pk_mul, nI_add]
    have hi : hs_in (nI (32 * m + 4 * k + w)) 256 = true := hin (by omega) (by decide)
    rw [if_pos c7, d1, nI_add, if_pos hi, if_pos hi]
    by_cases c8 : a2 = 0
    · rw [if_pos c8]; exact ⟨_, rfl⟩
    · rw [if_neg c8]; exact ⟨_, rfl⟩
  unfold nX12_handler
  by_cases c4 : a2 = 0
  · rw [if_pos c4]
    by_cases c0 : g 285 3 = 0
    · rw [if_pos c0]; exact ⟨_, rfl⟩
    · rw [if_neg c0]
      obtain ⟨N, h1, h2, h3⟩ := (hF c0).n8
      refine go N h1 h2 fun m hm8 => ?_
      obtain ⟨n, h, w1, w2, w3, w4⟩ := h3 m hm8
      exact ⟨h, w3, w4⟩
  · rw [if_neg c4]
    by_cases c0 : g 285 22 = 0
    · rw [if_pos c0]; exact ⟨_, rfl⟩
    · rw [if_neg c0]
      obtain ⟨N, h1, h2, h3⟩ := (hW c0).n8
      refine go N h1 h2 fun m hm8 => ?_
      obtain ⟨n, h, w1, w2, w3, w4⟩ := h3 m hm8
      exact ⟨h, w3, w4⟩
def s_p0 (k : Nat) : Nat := if k = 184 then 5 else 1
theorem q_bg2 : ∀ (d k f : Nat) (g : hm), k + d = 256 → d < f →
    Tq (nlX12_begin_2 f (nI k) g) (fun q => Fr [312] g q ∧ (∀ i, k ≤ i → i < 256 → q 312 i = nI (s_p0 i)) ∧ ∀ i, i < k → q 312 i = g 312 i)
  | d, k, 0, g, _, hf => absurd hf (Nat.not_lt_zero _)
  | 0, k, f + 1, g, hk, _ => by
    have u : (256 : Int32) ≤ nI k := (lei (a := 256) (by decide) (by omega)).mpr (by omega)
    rw [nlX12_begin_2, if_pos u]
    exact Tq.some ⟨Fr.rf, fun i h1 h2 => absurd h2 (by omega), fun i _ => rfl⟩
  | d + 1, k, f + 1, g, hk, hf => by
    have u : ¬ (256 : Int32) ≤ nI k := fun q => absurd ((lei (a := 256) (by decide) (by omega)).mp q) (by omega)
    have go : Tq (nlX12_begin_2 f (nI (k + 1)) (hm_w g 312 k (nI (s_p0 k)))) (fun q => Fr [312] g q ∧ (∀ i, k ≤ i → i < 256 → q 312 i = nI (s_p0 i)) ∧ ∀ i, i < k → q 312 i = g 312 i) := by
      refine (q_bg2 d (k + 1) f _ (by omega) (by omega)).mono fun q hq => ?_
      obtain ⟨h1, h2, h3⟩ := hq
      refine ⟨fun a ha => (h1 a ha).trans (hm_w_ne (by simpa using ha)), fun i i1 i2 => ?_, fun i i1 => ?_⟩
      · by_cases e : i = k
        · rw [h3 i (by omega), e, hm_w_eq]
        · exact h2 i (by omega) i2
      · rw [h3 i (by omega), hm_w_o (by omega)]
    rw [nlX12_begin_2, if_neg u]
    unfold njX12_begin_26
    rw [if_pos (hin (show k < 256 by omega) (by decide)), if_pos (hin (show k < 256 by omega) (by decide)), cl (by omega), nI_1]
    by_cases c1 : k = 184
    · have u1 : nI k = (184 : Int32) := by rw [c1]; rfl
      rw [if_pos u1]
      rw [show s_p0 k = 5 by unfold s_p0; rw [if_pos c1]] at go
      exact go
    · have u1 : ¬ nI k = (184 : Int32) := fun q => c1 ((eqi (b := 184) (by omega) (by decide)).mp q)
      rw [if_neg u1]
      rw [show s_p0 k = 1 by unfold s_p0; rw [if_neg c1]] at go
      exact go
/-- begin() -/
theorem q_begin (g : hm) : Tq (nX12_begin g) (fun q => Fr [312] g q ∧ s_Pr q s_p0) := by
  unfold nX12_begin
  have e0 : (0 : Int32) = nI 0 := rfl
  rw [e0]
  refine Tq.bv ((q_bg2 256 0 hs_N g rfl (by unfold hs_N; omega)).mono fun q hq => ?_)
  refine Tq.some ⟨hq.1, fun k hk => ⟨?_, hq.2.1 k (Nat.zero_le k) hk⟩⟩
  unfold s_p0
  split <;> omega
theorem q_cl21 : ∀ (d k f : Nat) (g : hm), k + d = 4 → d < f →
    Tq (nlX12_clear_21 f (nI k) g) (fun q => Fr [313] g q ∧ (∀ i, k ≤ i → i < 4 → q 313 i = 0) ∧ ∀ i, i < k → q 313 i = g 313 i)
  | d, k, 0, g, _, hf => absurd hf (Nat.not_lt_zero _)
  | 0, k, f + 1, g, hk, _ => by
    have u : (4 : Int32) ≤ nI k := (lei (a := 4) (by decide) (by omega)).mpr (by omega)
    rw [nlX12_clear_21, if_pos u]
    exact Tq.some ⟨Fr.rf, fun i h1 h2 => absurd h2 (by omega), fun i _ => rfl⟩
  | d + 1, k, f + 1, g, hk, hf => by
    have u : ¬ (4 : Int32) ≤ nI k := fun q => absurd ((lei (a := 4) (by decide) (by omega)).mp q) (by omega)
    rw [nlX12_clear_21, if_neg u, if_pos (hin (show k < 4 by omega) (by decide)), cl (by omega), nI_1]
    refine (q_cl21 d (k + 1) f _ (by omega) (by omega)).mono fun q hq => ?_
    obtain ⟨h1, h2, h3⟩ := hq
    refine ⟨fun a ha => (h1 a ha).trans (hm_w_ne (by simpa using ha)), fun i i1 i2 => ?_, fun i i1 => ?_⟩
    · by_cases e : i = k
      · rw [h3 i (by omega), e, hm_w_eq]
      · exact h2 i (by omega) i2
    · rw [h3 i (by omega), hm_w_o (by omega)]
/-- clear() -/
theorem q_clear (g : hm) : Tq (nX12_clear g) (fun q => Fr [285, 312, 313] g q ∧ Fo [2, 3, 22, 36, 37, 38] g q ∧ q 285 2 = 0 ∧ q 285 3 = 0 ∧ q 285 22 = 0 ∧ q 285 36 = 0 ∧ q 285 37 = 0 ∧ q 285 38 = 0 ∧ s_Pr q s_p0 ∧ ∀ i, i < 4 → q 313 i = 0) := by
  unfold nX12_clear
  have e0 : (0 : Int32) = nI 0 := rfl
  refine Tq.bv ((q_begin _).mono fun q1 h1 => ?_)
  obtain ⟨F1, P1⟩ := h1
  have k1 : q1 285 = hm_w (hm_w (hm_w g 285 2 (0 : Int32)) 285 3 (0 : Int32)) 285 22 (0 : Int32) 285 := F1 285 (by decide)
  refine Tq.bv ?_
  have c21 := q_cl21 4 0 hs_N q1 rfl (by unfold hs_N; omega)
  refine c21.mono fun q2 h2 => ?_
  obtain ⟨F2, Z2, -⟩ := h2
  have k2 : q2 285 = hm_w (hm_w (hm_w g 285 2 (0 : Int32)) 285 3 (0 : Int32)) 285 22 (0 : Int32) 285 := (F2 285 (by decide)).trans k1
  refine Tq.some ⟨?_, ?_, ?_, ?_, ?_, ?_, ?_, ?_, ?_, ?_⟩
  · refine ((Fr.w ?_ (by decide)).w (by decide)).w (by decide)
    have : Fr [285, 312, 313] g (hm_w (hm_w (hm_w g 285 2 (0 : Int32)) 285 3 (0 : Int32)) 285 22 (0 : Int32)) := ((Fr.rf.w (by decide)).w (by decide)).w (by decide)
    exact (this.trans (F1.mono (by decide))).trans (F2.mono (by decide))
  · refine ((Fo.w ?_ (by decide)).w (by decide)).w (by decide)
    intro j hj
    rw [k2]
    have : Fo [2, 3, 22, 36, 37, 38] g (hm_w (hm_w (hm_w g 285 2 (0 : Int32)) 285 3 (0 : Int32)) 285 22 (0 : Int32)) := ((Fo.rf.w (by decide)).w (by decide)).w (by decide)
    exact this j hj
  · rw [hm_w_o (by decide), hm_w_o (by decide), hm_w_o (by decide), k2, hm_w_o (by decide), hm_w_o (by decide), hm_w_eq]
  · rw [hm_w_o (by decide), hm_w_o (by decide), hm_w_o (by decide), k2, hm_w_o (by decide), hm_w_eq]
  · rw [hm_w_o (by decide), hm_w_o (by decide), hm_w_o (by decide), k2, hm_w_eq]
  · rw [hm_w_o (by decide), hm_w_o (by decide), hm_w_eq]
  · rw [hm_w_o (by decide), hm_w_eq]
  · rw [hm_w_eq]
  · intro k hk
    rw [hm_w_ne (by decide), hm_w_ne (by decide), hm_w_ne (by decide), F2 312 (by decide)]
    exact P1 k hk
  · intro i hi
    rw [hm_w_ne (by decide), hm_w_ne (by decide), hm_w_ne (by decide)]
    exact Z2 i (Nat.zero_le i) hi
