/-! THE REWRITING -/
theorem q_w76 {m e : Nat} (hm8 : m < 8) (he : e ≤ 4000) (v1 : Int32) : ∀ (d k f : Nat) (g : hm), k + d = e → d < f →
    Tq (nlX12_rewrite_76 f v1 (nI m) (nI e) (nI k) g) (fun q => Fr [304] g q ∧ (∀ i, k ≤ i → i < e → q 304 (4001 * m + i) = g 311 i) ∧ ∀ i, (i < 4001 * m + k ∨ 4001 * m + e ≤ i) → q 304 i = g 304 i)
  | d, k, 0, g, _, hf => absurd hf (Nat.not_lt_zero _)
  | 0, k, f + 1, g, hk, _ => by
    rw [nlX12_rewrite_76_s, if_pos ((lei (by omega) (by omega)).mpr (by omega))]
    exact Tq.some ⟨Fr.rf, fun i h1 h2 => absurd h2 (by omega), fun i _ => rfl⟩
  | d + 1, k, f + 1, g, hk, hf => by
    have e1 : (4001 : Int32) * nI m + nI k = nI (4001 * m + k) := ix 4001 m k
    rw [nlX12_rewrite_76_s, if_neg (fun q => absurd ((lei (by omega) (by omega)).mp q) (by omega)), e1, if_pos (hin (show k < 12008 by omega) (by decide)), if_pos (hin (show 4001 * m + k < 32008 by omega) (by decide)), nI_1, cl (show k < 2147483648 by omega), cl (show 4001 * m + k < 2147483648 by omega)]
    refine (q_w76 hm8 he v1 d (k + 1) f _ (by omega) (by omega)).mono fun q hq => ?_
    obtain ⟨h1, h2, h3⟩ := hq
    refine ⟨fun a ha => (h1 a ha).trans (hm_w_ne (by simpa using ha)), fun i i1 i2 => ?_, fun i i1 => ?_⟩
    · by_cases ei : i = k
      · rw [h3 (4001 * m + i) (by omega), ei, hm_w_eq]
      · rw [h2 i (by omega) i2, hm_w_ne (by decide)]
    · rw [h3 i (by omega), hm_w_o (by omega)]
theorem q_w136 {a : Nat} {r : Nat → Nat} (ha : a + 3 ≤ 256) (hr : ∀ i, i < 3 → r i < 2001) (v1 v2 v4 : Int32) : ∀ (d k f : Nat) (g : hm), k + d = 3 → d < f → (∀ i, i < 3 → g 291 (a + i) = nI (r i)) →
    Tq (nlX12_rewrite_136 f v1 v2 v4 (nI a) (nI k) g) (fun q => Fr [306] g q ∧ (∀ i, k ≤ i → i < 3 → q 306 (a + i) = g 308 (r i)) ∧ ∀ i, (i < a + k ∨ a + 3 ≤ i) → q 306 i = g 306 i)
  | d, k, 0, g, _, hf => absurd hf (Nat.not_lt_zero _)
  | 0, k, f + 1, g, hk, _ => by
    intro _
    have u : (3 : Int32) ≤ nI k := (lei (a := 3) (by decide) (by omega)).mpr (by omega)
    rw [nlX12_rewrite_136_s, if_pos u]
    exact Tq.some ⟨Fr.rf, fun i h1 h2 => absurd h2 (by omega), fun i _ => rfl⟩
  | d + 1, k, f + 1, g, hk, hf => by
    intro hg
    have u : ¬ (3 : Int32) ≤ nI k := fun q => absurd ((lei (a := 3) (by decide) (by omega)).mp q) (by omega)
    have hi : hs_in (nI (a + k)) 256 = true := hin (by omega) (by decide)
    have hrk := hr k (by omega)
    rw [nlX12_rewrite_136_s, if_neg u, nI_add, if_pos hi, cl (show a + k < 2147483648 by omega), hg k (by omega), if_pos (hin hrk (by decide)), if_pos hi, nI_1, cl (show r k < 2147483648 by omega)]
    refine (q_w136 ha hr v1 v2 v4 d (k + 1) f _ (by omega) (by omega) (fun i hi => by rw [hm_w_ne (by decide)]; exact hg i hi)).mono fun q hq => ?_
    obtain ⟨h1, h2, h3⟩ := hq
    refine ⟨fun b hb => (h1 b hb).trans (hm_w_ne (by simpa using hb)), fun i i1 i2 => ?_, fun i i1 => ?_⟩
    · by_cases ei : i = k
      · rw [h3 (a + i) (by omega), ei, hm_w_eq]
      · rw [h2 i (by omega) i2, hm_w_ne (by decide)]
    · rw [h3 i (by omega), hm_w_o (by omega)]
theorem q_w111 {m n h : Nat} {c R : Nat → Nat} (hR3 : ∀ z, z < h → ∀ i, i < 3 → R (4 * z + i) ≤ n) (v1 : Int32) : ∀ (d k f : Nat) (g : hm), k + d = h → d < f → s_G g m n h c R →
    Tq (nlX12_rewrite_111 f v1 (nI m) (nI k) g) (fun q => Fr [306] g q ∧ (∀ z, k ≤ z → z < h → (∀ i, i < 3 → q 306 (32 * m + 4 * z + i) = g 308 (R (4 * z + i))) ∧ q 306 (32 * m + 4 * z + 3) = nI (R (4 * z + 3))) ∧ ∀ i, (i < 32 * m + 4 * k ∨ 32 * m + 4 * h ≤ i) → q 306 i = g 306 i)
  | d, k, 0, g, _, hf => absurd hf (Nat.not_lt_zero _)
  | 0, k, f + 1, g, hk, _ => by
    intro x
    obtain ⟨hm8, hn, hh, gn, gh, hC, hR⟩ := x
    rw [nlX12_rewrite_111_s, if_pos (hin hm8 (by decide)), cl (by omega), gh, if_pos ((lei (by omega) (by omega)).mpr (by omega))]
    exact Tq.some ⟨Fr.rf, fun i h1 h2 => absurd h2 (by omega), fun i _ => rfl⟩
  | d + 1, k, f + 1, g, hk, hf => by
    intro x
    have x' := x
    obtain ⟨hm8, hn, hh, gn, gh, hC, hR⟩ := x
    have e0 : (0 : Int32) = nI 0 := rfl
    have c1 : (32 : Int32) * nI m + (4 : Int32) * nI k = nI (32 * m + 4 * k) := by rw [show (32 : Int32) = nI 32 from rfl, show (4 : Int32) = nI 4 from rfl, pk_mul, pk_mul, nI_add]
    have c2 : nI (32 * m + 4 * k) + (3 : Int32) = nI (32 * m + 4 * k + 3) := nI_add _ 3
    rw [nlX12_rewrite_111_s, if_pos (hin hm8 (by decide)), cl (show m < 2147483648 by omega), gh, if_neg (fun q => absurd ((lei (by omega) (by omega)).mp q) (by omega)), c1, c2, e0]
    refine Tq.bv ((q_w136 (a := 32 * m + 4 * k) (r := fun i => R (4 * k + i)) (by omega) (fun i hi => by have := hR3 k (by omega) i hi; show R (4 * k + i) < 2001; omega) v1 (nI m) (nI k) 3 0 hs_N g rfl (by unfold hs_N; omega) (fun i hi => by rw [Nat.add_assoc]; exact (hR (4 * k + i) (by omega)).1)).mono fun q1 h1 => ?_)
    obtain ⟨F1, V1, W1⟩ := h1
    have hi : hs_in (nI (32 * m + 4 * k + 3)) 256 = true := hin (by omega) (by decide)
    have r3 : q1 291 (32 * m + 4 * k + 3) = nI (R (4 * k + 3)) := by rw [F1 291 (by decide), Nat.add_assoc]; exact (hR (4 * k + 3) (by omega)).1
    rw [if_pos hi, if_pos hi, cl (show 32 * m + 4 * k + 3 < 2147483648 by omega), r3]
    refine Tq.bve rfl ?_
    rw [nI_1]
    generalize hg2 : hm_w q1 306 (32 * m + 4 * k + 3) (nI (R (4 * k + 3))) = g2
    have F2 : Fr [306] g g2 := by rw [← hg2]; exact F1.w (by decide)
    have A2 : ∀ i, g2 306 i = if i = 32 * m + 4 * k + 3 then nI (R (4 * k + 3)) else q1 306 i := fun i => by rw [← hg2, hm_w_at]
    refine (q_w111 hR3 v1 d (k + 1) f g2 (by omega) (by omega) (x'.fr F2 (by decide) (by decide) (by decide) (by decide))).mono fun q hq => ?_
    obtain ⟨h1, h2, h3⟩ := hq
    refine ⟨F2.trans h1, fun z z1 z2 => ?_, fun i i1 => ?_⟩
    · by_cases ez : z = k
      · subst ez
        refine ⟨fun i hi => ?_, ?_⟩
        · rw [h3 _ (by omega), A2, if_neg (by omega)]
          exact V1 i (Nat.zero_le i) hi
        · rw [h3 _ (by omega), A2, if_pos rfl]
      · obtain ⟨y1, y2⟩ := h2 z (by omega) z2
        refine ⟨fun i hi => ?_, y2⟩
        rw [y1 i hi, F2 308 (by decide)]
    · rw [h3 i (by omega), A2, if_neg (by omega), W1 i (by omega)]
/-- what is written of method m -/
def s_Wm (g : hm) (m n h : Nat) (c R P : Nat → Nat) : Prop := ∃ (b far : Nat → Bool) (S : Nat → Nat), (∀ i, i ≤ n → (b i = true ↔ s_bl c n h R i)) ∧ s_Lo c (s_pl P c n b true) n far S ∧ S n ≤ 4000 ∧ g 305 m = nI (S n) ∧
  (∀ j, s_B c j → j < n → ∀ o, o < s_pl P c n b true j + s_ln c far j → g 304 (4001 * m + (S j + o)) = nI (s_em P c n b true far S j o)) ∧
  ∀ z, z < h → (∀ i, i < 3 → g 306 (32 * m + 4 * z + i) = nI (S (R (4 * z + i)))) ∧ g 306 (32 * m + 4 * z + 3) = nI (R (4 * z + 3))
theorem s_Lo.lt {c pl S : Nat → Nat} {n l N : Nat} {far : Nat → Bool} (hL : s_Lo c pl n far S) (hc : s_chain c l N n) {j o : Nat} (hB : s_B c j) (hj : j < n) (ho : o < pl j + s_ln c far j) : S j + o < S n := by
  have hok := hc j hB hj
  have h1 := hL.2.1 j hB hj
  have h2 := s_S_le (S := S) (w := fun j => pl j + s_ln c far j) hc (fun j j1 j2 => by rw [hL.2.1 j j1 j2, Nat.add_assoc]) n (j + s_sz (c j)) (by omega) hok.2.1 (s_B_next hB)
  omega
theorem s_Wm.fr {g g' : hm} {m n h l N : Nat} {c R P : Nat → Nat} (hM : s_Mt n l N h c R) (x : s_Wm g m n h c R P) (h1 : ∀ i, i < 4001 * m + 4001 → g' 304 i = g 304 i) (h2 : g' 305 m = g 305 m) (h3 : ∀ i, i < 32 * m + 32 → g' 306 i = g 306 i) : s_Wm g' m n h c R P := by
  obtain ⟨b, far, S, x1, x2, x3, x4, x5, x6⟩ := x
  have hh := hM.2.2.2.1
  refine ⟨b, far, S, x1, x2, x3, by rw [h2]; exact x4, fun j j1 j2 o ho => ?_, fun z hz => ⟨fun i hi => ?_, ?_⟩⟩
  · have := x2.lt hM.2.2.2.2.1 j1 j2 ho
    rw [h1 _ (by omega)]
    exact x5 j j1 j2 o ho
  · rw [h3 _ (by omega)]
    exact (x6 z hz).1 i hi
  · rw [h3 _ (by omega)]
    exact (x6 z hz).2
theorem s_Mt.r3 {n l N h : Nat} {c R : Nat → Nat} (hM : s_Mt n l N h c R) {z : Nat} (hz : z < h) {i : Nat} (hi : i < 3) : R (4 * z + i) ≤ n ∧ s_B c (R (4 * z + i)) := by
  obtain ⟨h1, h2, h3, h4, h5⟩ := hM.2.2.2.2.2.1 z hz
  have hn := s_chain_n hM.2.2.2.2.1 n 0 (by omega) (by omega) (s_B_0 c)
  obtain e | e | e : i = 0 ∨ i = 1 ∨ i = 2 := by omega
  · have q := h1.2.2
    rw [Int.toNat_natCast] at q
    rw [e]
    exact ⟨by have := h1.2.1; show R (4 * z) ≤ n; omega, q⟩
  · rw [e]
    rcases h4 with q | q
    · rw [q]; exact ⟨Nat.le_refl _, hn⟩
    · have q' := q.2.2
      rw [Int.toNat_natCast] at q'
      exact ⟨by have := q.2.1; omega, q'⟩
  · have q := h2.2.2
    rw [Int.toNat_natCast] at q
    rw [e]
    exact ⟨by have := h2.2.1; omega, q⟩
