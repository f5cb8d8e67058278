/-! AN UNPAID LAYOUT IS NEVER LONGER -/
theorem s_pl_f (P c : Nat → Nat) (n : Nat) (b : Nat → Bool) (j : Nat) : s_pl P c n b false j = 0 := by
  unfold s_pl s_pay
  rw [if_neg (fun q => absurd q.1 (by decide)), if_neg (fun q => absurd q.1 (by decide))]
theorem s_S_between {c S w : Nat → Nat} {n : Nat} (hS : ∀ j, s_B c j → j < n → S (j + s_sz (c j)) = S j + w j) (hw : ∀ j, s_B c j → j < n → w j ≤ s_sz (c j) ∧ 0 < s_sz (c j)) : ∀ (d i j : Nat), j ≤ i + d → s_B c i → s_B c j → i ≤ j → j ≤ n → S i ≤ S j ∧ S j ≤ S i + (j - i)
  | 0, i, j, h1, _, _, h2, _ => by
    rw [show j = i by omega]
    exact ⟨Nat.le_refl _, by omega⟩
  | d + 1, i, j, h1, hi, hj, h2, h3 => by
    by_cases e : i = j
    · rw [e]; exact ⟨Nat.le_refl _, by omega⟩
    · have h4 := s_B_ge hi hj (by omega)
      obtain ⟨w1, w2⟩ := hw i hi (by omega)
      have h5 := hS i hi (by omega)
      obtain ⟨a1, a2⟩ := s_S_between hS hw d (i + s_sz (c i)) j (by omega) (s_B_next hi) hj h4 h3
      omega
theorem s_tgt_near {c : Nat → Nat} {k : Nat} (h : c k ≠ 168) (hc : c (k + 1) < 256) : (k : Int) - 128 ≤ s_tgt c k ∧ s_tgt c k ≤ (k : Int) + 127 := by
  have := s_s8_b hc
  unfold s_tgt s_tg
  rw [if_neg h]
  omega
theorem s_ln_le {c : Nat → Nat} {far : Nat → Bool} {j : Nat} (h : far j = true → c j = 168) : s_ln c far j ≤ s_sz (c j) := by
  unfold s_ln
  by_cases c1 : c j = 167 ∨ c j = 168
  · rw [if_pos c1]
    rcases c1 with q | q
    · by_cases hf : far j = true
      · exact absurd (h hf) (by omega)
      · rw [if_neg hf, q]; decide
    · rw [q]
      split
      · decide
      · decide
  · rw [if_neg c1]
    by_cases hf : far j = true
    · exact absurd (Or.inr (h hf)) c1
    · rw [if_neg (fun q => hf q.2)]
      exact Nat.le_refl _
theorem s_fit_near {c pl S : Nat → Nat} {n l N h : Nat} {R : Nat → Nat} {far : Nat → Bool} (hM : s_Mt n l N h c R) (hc : ∀ k, k < n → c k < 256) (hpl : ∀ j, pl j = 0) (hS : ∀ j, s_B c j → j < n → S (j + s_sz (c j)) = S j + pl j + s_ln c far j) (hf : ∀ j, j < n → s_B c j → far j = true → c j = 168) {j : Nat} (hj : j < n) (hB : s_B c j) (hJ : s_isJ (c j) = true) (h168 : c j ≠ 168) : s_ft (S (s_tgt c j).toNat) (S j + pl j) = true := by
  have hok := hM.2.2.2.2.1 j hB hj
  have hsz := hok.2.1
  have hs2 := (s_isJ_sz hJ).1
  obtain ⟨t1, t2, t3⟩ := hM.2.2.2.2.2.2 j hj hB hJ
  obtain ⟨n1, n2⟩ := s_tgt_near h168 (hc (j + 1) (by omega))
  have hb := s_S_between (c := c) (S := S) (w := fun j => pl j + s_ln c far j) (n := n) (fun j j1 j2 => by rw [hS j j1 j2, Nat.add_assoc]) (fun j j1 j2 => ⟨by have := s_ln_le (c := c) (hf j j2 j1); have := hpl j; show pl j + s_ln c far j ≤ _; omega, s_isK_sz (hM.2.2.2.2.1 j j1 j2).1⟩) n
  have hpj := hpl j
  by_cases e : j ≤ (s_tgt c j).toNat
  · obtain ⟨a1, a2⟩ := hb j (s_tgt c j).toNat (by omega) hB t3 e (by omega)
    simp only [s_ft, Bool.and_eq_true, decide_eq_true_eq]
    omega
  · obtain ⟨a1, a2⟩ := hb (s_tgt c j).toNat j (by omega) t3 hB (by omega) (by omega)
    simp only [s_ft, Bool.and_eq_true, decide_eq_true_eq]
    omega
theorem s_Fa_168 {c pl : Nat → Nat} {n l N h : Nat} {R : Nat → Nat} (hM : s_Mt n l N h c R) (hc : ∀ k, k < n → c k < 256) (hpl : ∀ j, pl j = 0) : ∀ (r : Nat) (far : Nat → Bool), s_Fa c pl n r far → ∀ j, j < n → s_B c j → far j = true → c j = 168
  | 0, far, hF, j, hj, _, ht => by rw [hF j hj] at ht; exact absurd ht (by decide)
  | r + 1, far, hF, j, hj, hB, ht => by
    obtain ⟨far0, S, h1, h2, h3, h4, h5⟩ := hF
    have ih := s_Fa_168 hM hc hpl r far0 h1
    rcases (h5 j hj).mp ht with q | q
    · exact ih j hj hB q
    · refine Classical.byContradiction fun no => ?_
      have := s_fit_near hM hc hpl h3 ih hj hB q.2.1 no
      rw [q.2.2] at this
      exact absurd this (by decide)
/-- an unpaid layout: only jumps of three bytes are far, and the code does not grow -/
theorem s_Lo.short {c pl S : Nat → Nat} {n l N h : Nat} {R : Nat → Nat} {far : Nat → Bool} (hL : s_Lo c pl n far S) (hM : s_Mt n l N h c R) (hc : ∀ k, k < n → c k < 256) (hpl : ∀ j, pl j = 0) :
    (∀ j, j < n → s_B c j → far j = true → c j = 168) ∧ (∀ i j, s_B c i → s_B c j → i ≤ j → j ≤ n → S i ≤ S j ∧ S j ≤ S i + (j - i)) ∧ ∀ j, s_B c j → j ≤ n → S j ≤ j := by
  obtain ⟨h0, h1, h2, r, h3⟩ := hL
  have hf := s_Fa_168 hM hc hpl r far h3
  have hb := s_S_between (c := c) (S := S) (w := fun j => pl j + s_ln c far j) (n := n) (fun j j1 j2 => by rw [h1 j j1 j2, Nat.add_assoc]) (fun j j1 j2 => ⟨by have := s_ln_le (c := c) (hf j j2 j1); have := hpl j; show pl j + s_ln c far j ≤ _; omega, s_isK_sz (hM.2.2.2.2.1 j j1 j2).1⟩) n
  refine ⟨hf, fun i j i1 j1 ij jn => hb i j (by omega) i1 j1 ij jn, fun j j1 jn => ?_⟩
  have := (hb 0 j (by omega) (s_B_0 c) j1 (by omega) jn).2
  omega
