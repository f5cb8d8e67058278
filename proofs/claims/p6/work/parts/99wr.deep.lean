/-! TOLD, EXACTLY: the deepest -/
theorem q_de126X {m n h : Nat} {c R : Nat → Nat} {g : hm} (x : s_G g m n h c R) (hv : ∀ i, i < n → s_dv (g 295 (2001 * m + i))) : ∀ (d k f mx : Nat), k + d = n → d < f → mx ≤ 20 → ∃ mx', nlX12_deepest_126 f (nI m) (nI mx) (nI k) g = some (nI mx', g) ∧ mx' ≤ 20 ∧ mx ≤ mx' ∧ (∀ i e, k ≤ i → i < n → e ≤ 20 → g 295 (2001 * m + i) = nI e → e ≤ mx') ∧ (mx' = mx ∨ ∃ i, i < n ∧ g 295 (2001 * m + i) = nI mx')
  | d, k, 0, mx, _, hf => absurd hf (Nat.not_lt_zero _)
  | 0, k, f + 1, mx, hk, _ => by
    intro hm
    obtain ⟨hm8, hn, hh, gn, gh, hC, hR⟩ := x
    refine ⟨mx, ?_, hm, Nat.le_refl _, fun i e h1 h2 => absurd h2 (by omega), Or.inl rfl⟩
    rw [nlX12_deepest_126, if_pos (hin hm8 (by decide)), cl (show m < 2147483648 by omega), gn, if_pos ((lei (by omega) (by omega)).mpr (by omega))]
  | d + 1, k, f + 1, mx, hk, hf => by
    intro hm
    have x' := x
    obtain ⟨hm8, hn, hh, gn, gh, hC, hR⟩ := x
    have e1 : (2001 : Int32) * nI m + nI k = nI (2001 * m + k) := ix 2001 m k
    rw [nlX12_deepest_126, if_pos (hin hm8 (by decide)), cl (show m < 2147483648 by omega), gn, if_neg (fun q => absurd ((lei (by omega) (by omega)).mp q) (by omega)), e1, if_pos (hin (show 2001 * m + k < 16008 by omega) (by decide)), cl (show 2001 * m + k < 2147483648 by omega)]
    unfold njX12_deepest_168
    rw [nI_1]
    rcases hv k (by omega) with e | ⟨y, hy, e⟩
    · have z : (-1 : Int32) ≤ nI mx := by
        rw [Int32.le_iff_toInt_le, nI_toInt (by omega), show (-1 : Int32).toInt = -1 by decide]
        omega
      rw [e, if_pos z]
      obtain ⟨mx', q2, q3, q4, q5, q6⟩ := q_de126X x' hv d (k + 1) f mx (by omega) (by omega) hm
      refine ⟨mx', q2, q3, q4, fun i y h1 h2 h3 h4 => ?_, q6⟩
      by_cases ei : i = k
      · rw [ei, e] at h4; exact absurd h4.symm (nI_m1 (by omega))
      · exact q5 i y (by omega) h2 h3 h4
    · rw [e]
      by_cases c : y ≤ mx
      · rw [if_pos ((lei (by omega) (by omega)).mpr c)]
        obtain ⟨mx', q2, q3, q4, q5, q6⟩ := q_de126X x' hv d (k + 1) f mx (by omega) (by omega) hm
        refine ⟨mx', q2, q3, q4, fun i y2 h1 h2 h3 h4 => ?_, q6⟩
        by_cases ei : i = k
        · rw [ei, e] at h4
          have := (eqi (by omega) (by omega)).mp h4
          omega
        · exact q5 i y2 (by omega) h2 h3 h4
      · rw [if_neg (fun z => c ((lei (by omega) (by omega)).mp z))]
        obtain ⟨mx', q2, q3, q4, q5, q6⟩ := q_de126X x' hv d (k + 1) f y (by omega) (by omega) hy
        refine ⟨mx', q2, q3, by omega, fun i y2 h1 h2 h3 h4 => ?_, Or.inr (q6.elim (fun z => ⟨k, by omega, by rw [z]; exact e⟩) id)⟩
        by_cases ei : i = k
        · rw [ei, e] at h4
          have := (eqi (by omega) (by omega)).mp h4
          omega
        · exact q5 i y2 (by omega) h2 h3 h4
/-- deepest(), what it answers -/
theorem q_deepestX {g : hm} {N m t : Nat} {p l n h : Nat → Nat} {c R : Nat → Nat → Nat} (x : s_F g N p l n h c R) (y : s_VF N p l n h c R) (hm8 : m < N) (gt : g 285 2 = nI t) (ht : t ≤ 6000) (hv : s_V3 g) :
    Tq (nX12_deepest (nI m) g) (fun q => Fr [295, 296, 297, 298, 299, 301, 302, 303] g q.2 ∧ ∃ D, isDeep (c m) p (h m) (R m) D ∧ q.1 = nI D) := by
  have hN := y.2.1
  obtain ⟨G, M⟩ := x.g y hm8
  have G' := G
  obtain ⟨hm', hn, hh, gn, gh, hC, hR⟩ := G
  have hD : s_DOK (c m) p (n m) (h m) (R m) := (y.2.2 m hm8).2.2.2.2
  unfold nX12_deepest
  have e0 : (0 : Int32) = nI 0 := rfl
  rw [e0]
  refine Tq.bv ((q_de2 (nI m) 8 0 hs_N g rfl (by unfold hs_N; omega)).mono fun q1 h1 => ?_)
  refine Tq.bv ((q_de64 (nI m) 256 0 hs_N q1 rfl (by unfold hs_N; omega)).mono fun q2 h2 => ?_)
  refine Tq.bv ((q_de91 (nI m) 16008 0 hs_N q2 rfl (by unfold hs_N; omega)).mono fun q3 h3 => ?_)
  have F3 : Fr [297, 298, 299, 301, 302, 303] g q3 := ((h1.1.mono (by decide)).trans (h2.1.mono (by decide))).trans (h3.1.mono (by decide))
  have r8 : ∀ i, i < 8 → q3 297 i = g 287 i ∧ q3 299 i = g 289 i ∧ q3 301 i = g 290 i := by
    intro i hi
    obtain ⟨a1, a2, a3, a4⟩ := h1.2.1 i (Nat.zero_le i) hi
    rw [h3.1 297 (by decide), h3.1 299 (by decide), h3.1 301 (by decide), h2.1 297 (by decide), h2.1 299 (by decide), h2.1 301 (by decide)]
    exact ⟨a1, a3, a4⟩
  obtain ⟨b, hb, gb⟩ := hv m hm'
  have hMs : s_Ms q3 m (n m) N (h m) t b (c m) p (R m) := by
    refine ⟨by rw [F3 285 (by decide)]; exact gt, ht, by rw [(r8 m hm').2.1]; exact gn, by rw [F3 300 (by decide)]; exact gb, hb, fun k hk => ?_, fun o ho => ?_, by rw [(r8 m hm').2.2]; exact gh, fun i hi => ?_⟩
    · rw [h3.2.1 _ (Nat.zero_le _) (by omega), h2.1 292 (by decide), h1.1 292 (by decide)]; exact hC k hk
    · rw [(r8 o (by omega)).1]; exact ⟨(x.2 o ho).1, (y.2.2 o ho).1⟩
    · rw [h3.1 302 (by decide), h2.2.1 _ (Nat.zero_le _) (by omega), h1.1 291 (by decide)]; exact hR i hi
  refine Tq.bd ((q_stacks (by omega) M hMs).mono fun q4 h4 => ?_)
  have F4 : Fr [295, 296, 297, 298, 299, 301, 302, 303] g q4.2 := (F3.mono (by decide)).trans (h4.1.mono (by decide))
  rcases h4.2 with ⟨-, -, dm⟩ | ⟨-, nd⟩
  rotate_left
  · exact absurd hD nd
  obtain ⟨D, e, D20, -, Dm, Da⟩ := q_de126X (G'.fr F4 (by decide) (by decide) (by decide) (by decide)) (fun i hi => (dm i hi).1) (n m) 0 hs_N 0 (by omega) (by unfold hs_N; omega) (by omega)
  rw [e, hm_bd_s]
  refine Tq.some ⟨F4, D, ⟨fun τ k d r => ?_, ?_⟩, rfl⟩
  · obtain ⟨k1, k2⟩ := s_Rc_in M hD.2.1 τ k d r
    exact Dm k d (Nat.zero_le _) k1 (s_Rc_20 hD τ k d r) ((dm k k1).2.2 τ d r)
  · rcases Da with q | ⟨i, i1, i2⟩
    · exact Or.inl q
    · obtain ⟨τ, r⟩ := (dm i i1).2.1 D D20 i2
      exact Or.inr ⟨τ, i, r⟩
