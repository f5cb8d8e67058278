/-! THE UNWRITING -/
theorem q_u67 {a : Nat} {r : Nat → Nat} (ha : a + 3 ≤ 256) (hr : ∀ i, i < 3 → r i < 2001) (v1 v2 v3 v4 : Int32) : ∀ (d k f : Nat) (g : hm), k + d = 3 → d < f → (∀ i, k ≤ i → i < 3 → g 291 (a + i) = nI (r i)) →
    Tq (nlX12_unwrite_67 f v1 v2 v3 v4 (nI a) (nI k) g) (fun q => Fr [291] g q ∧ (∀ i, k ≤ i → i < 3 → q 291 (a + i) = g 308 (r i)) ∧ ∀ i, (i < a + k ∨ a + 3 ≤ i) → q 291 i = g 291 i)
  | d, k, 0, g, _, hf => absurd hf (Nat.not_lt_zero _)
  | 0, k, f + 1, g, hk, _ => by
    intro _
    have u : (3 : Int32) ≤ nI k := (lei (a := 3) (by decide) (by omega)).mpr (by omega)
    rw [nlX12_unwrite_67, if_pos u]
    exact Tq.some ⟨Fr.rf, fun i h1 h2 => absurd h2 (by omega), fun i _ => rfl⟩
  | d + 1, k, f + 1, g, hk, hf => by
    intro hg
    have u : ¬ (3 : Int32) ≤ nI k := fun q => absurd ((lei (a := 3) (by decide) (by omega)).mp q) (by omega)
    have hrk := hr k (by omega)
    rw [nlX12_unwrite_67, if_neg u, nI_add, if_pos (hin (show a + k < 256 by omega) (by decide)), cl (show a + k < 2147483648 by omega), hg k (Nat.le_refl k) (by omega), if_pos (hin hrk (by decide)), nI_1, cl (show r k < 2147483648 by omega)]
    refine (q_u67 ha hr v1 v2 v3 v4 d (k + 1) f _ (by omega) (by omega) (fun i h1 h2 => by rw [hm_w_o (by omega)]; exact hg i (by omega) h2)).mono fun q hq => ?_
    obtain ⟨h1, h2, h3⟩ := hq
    refine ⟨fun b hb => (h1 b hb).trans (hm_w_ne (by simpa using hb)), fun i i1 i2 => ?_, fun i i1 => ?_⟩
    · by_cases ei : i = k
      · rw [h3 (a + i) (by omega), ei, hm_w_eq]
      · rw [h2 i (by omega) i2, hm_w_ne (by decide)]
    · rw [h3 i (by omega), hm_w_o (by omega)]
theorem q_u42 {m n h : Nat} {R : Nat → Nat} (hm8 : m < 8) (hn : n ≤ 2000) (hh : h ≤ 8) (hR3 : ∀ z, z < h → ∀ i, i < 3 → R (4 * z + i) ≤ n) (v1 v3 : Int32) : ∀ (d k f : Nat) (g : hm), k + d = h → d < f → g 290 m = nI h → (∀ i, 4 * k ≤ i → i < 4 * h → g 291 (32 * m + i) = nI (R i)) →
    Tq (nlX12_unwrite_42 f v1 (nI m) v3 (nI k) g) (fun q => Fr [291] g q ∧ (∀ z, k ≤ z → z < h → (∀ i, i < 3 → q 291 (32 * m + (4 * z + i)) = g 308 (R (4 * z + i))) ∧ q 291 (32 * m + (4 * z + 3)) = nI (R (4 * z + 3))) ∧ ∀ i, (i < 32 * m + 4 * k ∨ 32 * m + 4 * h ≤ i) → q 291 i = g 291 i)
  | d, k, 0, g, _, hf => absurd hf (Nat.not_lt_zero _)
  | 0, k, f + 1, g, hk, _ => by
    intro gh _
    rw [nlX12_unwrite_42, if_pos (hin hm8 (by decide)), cl (by omega), gh, if_pos ((lei (by omega) (by omega)).mpr (by omega))]
    exact Tq.some ⟨Fr.rf, fun i h1 h2 => absurd h2 (by omega), fun i _ => rfl⟩
  | d + 1, k, f + 1, g, hk, hf => by
    intro gh hR
    have e0 : (0 : Int32) = nI 0 := rfl
    have c1 : (32 : Int32) * nI m + (4 : Int32) * nI k = nI (32 * m + 4 * k) := by rw [show (32 : Int32) = nI 32 from rfl, show (4 : Int32) = nI 4 from rfl, pk_mul, pk_mul, nI_add]
    rw [nlX12_unwrite_42, if_pos (hin hm8 (by decide)), cl (show m < 2147483648 by omega), gh, if_neg (fun q => absurd ((lei (by omega) (by omega)).mp q) (by omega)), c1, e0]
    refine Tq.bv ((q_u67 (a := 32 * m + 4 * k) (r := fun i => R (4 * k + i)) (by omega) (fun i hi => by have := hR3 k (by omega) i hi; show R (4 * k + i) < 2001; omega) v1 (nI m) v3 (nI k) 3 0 hs_N g rfl (by unfold hs_N; omega) (fun i _ hi => by rw [Nat.add_assoc]; exact hR (4 * k + i) (by omega) (by omega))).mono fun q1 h1 => ?_)
    obtain ⟨F1, V1, W1⟩ := h1
    rw [nI_1]
    refine (q_u42 hm8 hn hh hR3 v1 v3 d (k + 1) f q1 (by omega) (by omega) (by rw [F1 290 (by decide)]; exact gh) (fun i i1 i2 => by rw [W1 _ (by omega)]; exact hR i (by omega) i2)).mono fun q hq => ?_
    obtain ⟨h1, h2, h3⟩ := hq
    refine ⟨F1.trans h1, fun z z1 z2 => ?_, fun i i1 => ?_⟩
    · by_cases ez : z = k
      · subst ez
        refine ⟨fun i hi => ?_, ?_⟩
        · rw [h3 _ (by omega), ← Nat.add_assoc]
          exact V1 i (Nat.zero_le i) hi
        · rw [h3 _ (by omega), W1 _ (by omega)]
          exact hR _ (by omega) (by omega)
      · obtain ⟨y1, y2⟩ := h2 z (by omega) z2
        refine ⟨fun i hi => ?_, y2⟩
        rw [y1 i hi, F1 308 (by decide)]
    · rw [h3 i (by omega), W1 i (by omega)]
theorem q_u113 {m e : Nat} (hm8 : m < 8) (he : e ≤ 2000) (v1 : Int32) : ∀ (d k f : Nat) (g : hm), k + d = e → d < f →
    Tq (nlX12_unwrite_113 f v1 (nI m) (nI e) (nI k) g) (fun q => Fr [292] g q ∧ (∀ i, k ≤ i → i < e → q 292 (2001 * m + i) = g 311 i) ∧ ∀ i, (i < 2001 * m + k ∨ 2001 * m + e ≤ i) → q 292 i = g 292 i)
  | d, k, 0, g, _, hf => absurd hf (Nat.not_lt_zero _)
  | 0, k, f + 1, g, hk, _ => by
    rw [nlX12_unwrite_113, if_pos ((lei (by omega) (by omega)).mpr (by omega))]
    exact Tq.some ⟨Fr.rf, fun i h1 h2 => absurd h2 (by omega), fun i _ => rfl⟩
  | d + 1, k, f + 1, g, hk, hf => by
    have e1 : (2001 : Int32) * nI m + nI k = nI (2001 * m + k) := ix 2001 m k
    rw [nlX12_unwrite_113, if_neg (fun q => absurd ((lei (by omega) (by omega)).mp q) (by omega)), e1, if_pos (hin (show k < 12008 by omega) (by decide)), if_pos (hin (show 2001 * m + k < 16008 by omega) (by decide)), nI_1, cl (show k < 2147483648 by omega), cl (show 2001 * m + k < 2147483648 by omega)]
    refine (q_u113 hm8 he v1 d (k + 1) f _ (by omega) (by omega)).mono fun q hq => ?_
    obtain ⟨h1, h2, h3⟩ := hq
    refine ⟨fun a ha => (h1 a ha).trans (hm_w_ne (by simpa using ha)), fun i i1 i2 => ?_, fun i i1 => ?_⟩
    · by_cases ei : i = k
      · rw [h3 (2001 * m + i) (by omega), ei, hm_w_eq]
      · rw [h2 i (by omega) i2, hm_w_ne (by decide)]
    · rw [h3 i (by omega), hm_w_o (by omega)]
/-- every byte of a layout belongs to an instruction -/
theorem s_cover {c S w : Nat → Nat} {n l N : Nat} (hc : s_chain c l N n) (hS : ∀ j, s_B c j → j < n → S (j + s_sz (c j)) = S j + w j) : ∀ (d j k : Nat), n ≤ j + d → s_B c j → j ≤ n → S j ≤ k → k < S n → ∃ i o, s_B c i ∧ i < n ∧ o < w i ∧ k = S i + o
  | 0, j, k, h1, hB, h2, h3, h4 => by
    rw [show n = j by omega] at h4
    omega
  | d + 1, j, k, h1, hB, h2, h3, h4 => by
    by_cases e : j = n
    · rw [e] at h3; omega
    · have hok := hc j hB (by omega)
      have hs := s_isK_sz hok.1
      have h5 := hS j hB (by omega)
      by_cases e2 : k < S j + w j
      · exact ⟨j, k - S j, hB, by omega, by omega, by omega⟩
      · exact s_cover hc hS d (j + s_sz (c j)) k (by omega) (s_B_next hB) hok.2.1 (by omega) h4
theorem s_ej_b {c S : Nat → Nat} {far : Nat → Bool} {p k o : Nat} (hc : c k < 256) : s_ej c far S p k o < 256 := by
  have h1 := s_hi_b ((S (s_tgt c k).toNat : Int) - p - 2)
  have h2 := s_lo_b ((S (s_tgt c k).toNat : Int) - p - 2)
  have h3 := s_hi_b ((S (s_tgt c k).toNat : Int) - p)
  have h4 := s_lo_b ((S (s_tgt c k).toNat : Int) - p)
  have h5 : c k < 167 → s_op (c k) < 256 := by
    intro q
    unfold s_op
    split <;> omega
  unfold s_ej
  by_cases e1 : far k = true
  · rw [if_pos e1]
    by_cases e2 : c k < 167
    · rw [if_pos e2]
      have := h5 e2
      repeat' split
      all_goals omega
    · rw [if_neg e2]
      repeat' split
      all_goals omega
  · rw [if_neg e1]
    repeat' split
    all_goals omega
theorem s_em_f (P c : Nat → Nat) (n : Nat) (b far : Nat → Bool) (S : Nat → Nat) (k o : Nat) : s_em P c n b false far S k o = if s_isJ (c k) = true then s_ej c far S (S k) k o else c (k + o) := by
  have h1 := s_pl_f P c n b k
  have h2 : s_pay P c n b false k = 0 := by unfold s_pay; rw [if_neg (fun q => absurd q.1 (by decide))]
  unfold s_em
  rw [h1, h2, if_neg (Nat.not_lt_zero _), if_neg (Nat.not_lt_zero _), Nat.add_zero, Nat.sub_zero]
def s_up {α : Type} (f : Nat → α) (m : Nat) (v : α) (z : Nat) : α := if z = m then v else f z
theorem s_up_e {α : Type} (f : Nat → α) (m : Nat) (v : α) : s_up f m v m = v := if_pos rfl
theorem s_up_n {α : Type} (f : Nat → α) {m z : Nat} (v : α) (h : z ≠ m) : s_up f m v z = f z := if_neg h
