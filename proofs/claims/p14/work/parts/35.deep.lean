/-! DEEPEST -/
theorem q_de2 (v1 : Int32) : ∀ (d k f : Nat) (g : hm), k + d = 8 → d < f →
    Tq (nlX12_deepest_2 f v1 (nI k) g) (fun q => Fr [297, 298, 299, 301] g q ∧ (∀ i, k ≤ i → i < 8 → q 297 i = g 287 i ∧ q 298 i = g 288 i ∧ q 299 i = g 289 i ∧ q 301 i = g 290 i) ∧ ∀ i, i < k → q 297 i = g 297 i ∧ q 298 i = g 298 i ∧ q 299 i = g 299 i ∧ q 301 i = g 301 i)
  | d, k, 0, g, _, hf => absurd hf (Nat.not_lt_zero _)
  | 0, k, f + 1, g, hk, _ => by
    have u : (8 : Int32) ≤ nI k := (lei (a := 8) (by decide) (by omega)).mpr (by omega)
    rw [nlX12_deepest_2_s, if_pos u]
    exact Tq.some ⟨Fr.rf, fun i h1 h2 => absurd h2 (by omega), fun i _ => ⟨rfl, rfl, rfl, rfl⟩⟩
  | d + 1, k, f + 1, g, hk, hf => by
    have u : ¬ (8 : Int32) ≤ nI k := fun q => absurd ((lei (a := 8) (by decide) (by omega)).mp q) (by omega)
    have hi : hs_in (nI k) 8 = true := hin (by omega) (by decide)
    rw [nlX12_deepest_2_s, if_neg u, if_pos hi, if_pos hi, if_pos hi, if_pos hi]
    refine Tq.bve rfl ?_
    rw [if_pos hi, if_pos hi, if_pos hi, if_pos hi]
    refine Tq.bve rfl ?_
    rw [nI_1, cl (by omega)]
    refine (q_de2 v1 d (k + 1) f _ (by omega) (by omega)).mono fun q hq => ?_
    obtain ⟨h1, h2, h3⟩ := hq
    refine ⟨fun a ha => (h1 a ha).trans ?_, fun i i1 i2 => ?_, fun i i1 => ?_⟩
    · simp only [List.mem_cons, List.not_mem_nil, or_false, not_or] at ha
      rw [hm_w_ne ha.2.2.2, hm_w_ne ha.2.2.1, hm_w_ne ha.2.1, hm_w_ne ha.1]
    · by_cases e : i = k
      · obtain ⟨x1, x2, x3, x4⟩ := h3 i (by omega)
        rw [x1, x2, x3, x4, e]
        simp [hm_w]
      · obtain ⟨x1, x2, x3, x4⟩ := h2 i (by omega) i2
        rw [x1, x2, x3, x4]
        simp [hm_w]
    · obtain ⟨x1, x2, x3, x4⟩ := h3 i (by omega)
      rw [x1, x2, x3, x4]
      have e : ¬ i = k := by omega
      simp [hm_w, e]
theorem q_de64 (v1 : Int32) : ∀ (d k f : Nat) (g : hm), k + d = 256 → d < f →
    Tq (nlX12_deepest_64 f v1 (nI k) g) (fun q => Fr [302] g q ∧ (∀ i, k ≤ i → i < 256 → q 302 i = g 291 i) ∧ ∀ i, i < k → q 302 i = g 302 i)
  | d, k, 0, g, _, hf => absurd hf (Nat.not_lt_zero _)
  | 0, k, f + 1, g, hk, _ => by
    have u : (256 : Int32) ≤ nI k := (lei (a := 256) (by decide) (by omega)).mpr (by omega)
    rw [nlX12_deepest_64_s, if_pos u]
    exact Tq.some ⟨Fr.rf, fun i h1 h2 => absurd h2 (by omega), fun i _ => rfl⟩
  | d + 1, k, f + 1, g, hk, hf => by
    have u : ¬ (256 : Int32) ≤ nI k := fun q => absurd ((lei (a := 256) (by decide) (by omega)).mp q) (by omega)
    have hi : hs_in (nI k) 256 = true := hin (by omega) (by decide)
    rw [nlX12_deepest_64_s, if_neg u, if_pos hi, if_pos hi, nI_1, cl (by omega)]
    refine (q_de64 v1 d (k + 1) f _ (by omega) (by omega)).mono fun q hq => ?_
    obtain ⟨h1, h2, h3⟩ := hq
    refine ⟨fun a ha => (h1 a ha).trans (hm_w_ne (by simpa using ha)), fun i i1 i2 => ?_, fun i i1 => ?_⟩
    · by_cases e : i = k
      · rw [h3 i (by omega), e, hm_w_eq]
      · rw [h2 i (by omega) i2, hm_w_ne (by decide)]
    · rw [h3 i (by omega), hm_w_o (by omega)]
theorem q_de91 (v1 : Int32) : ∀ (d k f : Nat) (g : hm), k + d = 16008 → d < f →
    Tq (nlX12_deepest_91 f v1 (nI k) g) (fun q => Fr [303] g q ∧ (∀ i, k ≤ i → i < 16008 → q 303 i = g 292 i) ∧ ∀ i, i < k → q 303 i = g 303 i)
  | d, k, 0, g, _, hf => absurd hf (Nat.not_lt_zero _)
  | 0, k, f + 1, g, hk, _ => by
    have u : (16008 : Int32) ≤ nI k := (lei (a := 16008) (by decide) (by omega)).mpr (by omega)
    rw [nlX12_deepest_91_s, if_pos u]
    exact Tq.some ⟨Fr.rf, fun i h1 h2 => absurd h2 (by omega), fun i _ => rfl⟩
  | d + 1, k, f + 1, g, hk, hf => by
    have u : ¬ (16008 : Int32) ≤ nI k := fun q => absurd ((lei (a := 16008) (by decide) (by omega)).mp q) (by omega)
    have hi : hs_in (nI k) 16008 = true := hin (by omega) (by decide)
    rw [nlX12_deepest_91_s, if_neg u, if_pos hi, if_pos hi, nI_1, cl (by omega)]
    refine (q_de91 v1 d (k + 1) f _ (by omega) (by omega)).mono fun q hq => ?_
    obtain ⟨h1, h2, h3⟩ := hq
    refine ⟨fun a ha => (h1 a ha).trans (hm_w_ne (by simpa using ha)), fun i i1 i2 => ?_, fun i i1 => ?_⟩
    · by_cases e : i = k
      · rw [h3 i (by omega), e, hm_w_eq]
      · rw [h2 i (by omega) i2, hm_w_ne (by decide)]
    · rw [h3 i (by omega), hm_w_o (by omega)]
theorem q_de126 {m n h : Nat} {c R : Nat → Nat} {g : hm} (x : s_G g m n h c R) : ∀ (d k f : Nat) (v : Int32), k + d = n → d < f → ∃ r, nlX12_deepest_126 f (nI m) v (nI k) g = some (r, g)
  | d, k, 0, v, _, hf => absurd hf (Nat.not_lt_zero _)
  | 0, k, f + 1, v, hk, _ => by
    obtain ⟨hm8, hn, hh, gn, gh, hC, hR⟩ := x
    rw [nlX12_deepest_126, if_pos (hin hm8 (by decide)), cl (by omega), gn, if_pos ((lei (by omega) (by omega)).mpr (by omega))]
    exact ⟨_, rfl⟩
  | d + 1, k, f + 1, v, hk, hf => by
    have x' := x
    obtain ⟨hm8, hn, hh, gn, gh, hC, hR⟩ := x
    have e1 : (2001 : Int32) * nI m + nI k = nI (2001 * m + k) := ix 2001 m k
    rw [nlX12_deepest_126, if_pos (hin hm8 (by decide)), cl (show m < 2147483648 by omega), gn, if_neg (fun q => absurd ((lei (by omega) (by omega)).mp q) (by omega)), e1, if_pos (hin (show 2001 * m + k < 16008 by omega) (by decide))]
    unfold njX12_deepest_168
    rw [nI_1]
    split
    · exact q_de126 x' d (k + 1) f _ (by omega) (by omega)
    · exact q_de126 x' d (k + 1) f _ (by omega) (by omega)
/-- deepest() -/
theorem q_deepest {g : hm} {N m t : Nat} {p l n h : Nat → Nat} {c R : Nat → Nat → Nat} (x : s_F g N p l n h c R) (y : s_VF N p l n h c R) (hm8 : m < N) (gt : g 285 2 = nI t) (ht : t ≤ 6000) (hv : s_V3 g) :
    Tq (nX12_deepest (nI m) g) (fun q => Fr [295, 296, 297, 298, 299, 301, 302, 303] g q.2) := by
  have hN := y.2.1
  obtain ⟨G, M⟩ := x.g y hm8
  have G' := G
  obtain ⟨hm', hn, hh, gn, gh, hC, hR⟩ := G
  unfold nX12_deepest
  have e0 : (0 : Int32) = nI 0 := rfl
  rw [e0]
  refine Tq.bv ((q_de2 (nI m) 8 0 hs_N g rfl (by unfold hs_N; omega)).mono fun q1 h1 => ?_)
  refine Tq.bv ((q_de64 (nI m) 256 0 hs_N q1 rfl (by unfold hs_N; omega)).mono fun q2 h2 => ?_)
  refine Tq.bv ((q_de91 (nI m) 16008 0 hs_N q2 rfl (by unfold hs_N; omega)).mono fun q3 h3 => ?_)
  have F3 : Fr [297, 298, 299, 301, 302, 303] g q3 := ((h1.1.mono (by decide)).trans (h2.1.mono (by decide))).trans (h3.1.mono (by decide))
  have r8 : ∀ i, i < 8 → q3 297 i = g 287 i ∧ q3 299 i = g 289 i ∧ q3 301 i = g 290 i := by
    intro i hi
    obtain ⟨a1, a2, a3, a4⟩ := h1.2.1 i (Nat.zero_le i) hi
    rw [h3.1 297 (by decide), h3.1 299 (by decide), h3.1 301 (by decide), h2.1 297 (by decide), h2.1 299 (by decide), h2.1 301 (by decide)]
    exact ⟨a1, a3, a4⟩
  obtain ⟨b, hb, gb⟩ := hv m hm'
  have hMs : s_Ms q3 m (n m) N (h m) t b (c m) p (R m) := by
    refine ⟨by rw [F3 285 (by decide)]; exact gt, ht, by rw [(r8 m hm').2.1]; exact gn, by rw [F3 300 (by decide)]; exact gb, hb, fun k hk => ?_, fun o ho => ?_, by rw [(r8 m hm').2.2]; exact gh, fun i hi => ?_⟩
    · rw [h3.2.1 _ (Nat.zero_le _) (by omega), h2.1 292 (by decide), h1.1 292 (by decide)]; exact hC k hk
    · rw [(r8 o (by omega)).1]; exact ⟨(x.2 o ho).1, (y.2.2 o ho).1⟩
    · rw [h3.1 302 (by decide), h2.2.1 _ (Nat.zero_le _) (by omega), h1.1 291 (by decide)]; exact hR i hi
  refine Tq.bd ((q_stacks (by omega) M hMs).mono fun q4 h4 => ?_)
  have F4 : Fr [295, 296, 297, 298, 299, 301, 302, 303] g q4.2 := (F3.mono (by decide)).trans (h4.1.mono (by decide))
  obtain ⟨r, e⟩ := q_de126 (G'.fr F4 (by decide) (by decide) (by decide) (by decide)) (n m) 0 hs_N (nI 0) (by omega) (by unfold hs_N; omega)
  rw [e, hm_bd_s]
  exact Tq.some F4
