/-! stacks(m) -/
/-- how many of the first n are 0 -/
def s_cn (G : Nat → Int32) (b : Nat) : Nat → Nat
  | 0 => 0
  | n + 1 => s_cn G b n + if G (b + n) = 0 then 1 else 0
theorem s_cn_le (G : Nat → Int32) (b n : Nat) : s_cn G b n ≤ n := by
  induction n with
  | zero => exact Nat.le_refl _
  | succ n ih =>
    show s_cn G b n + _ ≤ n + 1
    split <;> omega
theorem s_cn_eq {G G' : Nat → Int32} {b : Nat} : ∀ {n : Nat}, (∀ i, i < n → G' (b + i) = G (b + i)) → s_cn G' b n = s_cn G b n
  | 0, _ => rfl
  | n + 1, h => by
    show s_cn G' b n + _ = s_cn G b n + _
    rw [s_cn_eq (fun i hi => h i (by omega)), h n (by omega)]
theorem s_cn_set {G G' : Nat → Int32} {b k : Nat} : ∀ {n : Nat}, k < n → G (b + k) = 0 → ¬ G' (b + k) = 0 → (∀ i, i < n → i ≠ k → G' (b + i) = G (b + i)) → s_cn G' b n + 1 = s_cn G b n
  | 0, h, _, _, _ => absurd h (Nat.not_lt_zero _)
  | n + 1, h, h0, h1, ho => by
    show s_cn G' b n + _ + 1 = s_cn G b n + _
    by_cases e : k = n
    · subst e
      rw [if_neg h1, if_pos h0, s_cn_eq (fun i hi => ho i (by omega) (by omega))]
    · have ih := s_cn_set (n := n) (by omega) h0 h1 (fun i hi hk => ho i (by omega) hk)
      rw [ho n (by omega) (fun q => e q.symm)]
      omega
theorem q_s16 {m n : Nat} (hm8 : m < 8) (hn : n ≤ 2000) (v1 : Int32) : ∀ (d k f : Nat) (g : hm), k + d = n → d < f →
    Tq (nlX12_stacks_16 f v1 (nI n) (nI (2001 * m)) (nI k) g) (fun g' => Fr [295, 296] g g' ∧ (∀ i, g' 295 i = if 2001 * m + k ≤ i ∧ i < 2001 * m + n then -1 else g 295 i) ∧ ∀ i, g' 296 i = if 2001 * m + k ≤ i ∧ i < 2001 * m + n then 0 else g 296 i)
  | d, k, 0, g, _, hf => absurd hf (Nat.not_lt_zero _)
  | 0, k, f + 1, g, hk, _ => by
    rw [nlX12_stacks_16_s, if_pos ((lei (by omega) (by omega)).mpr (by omega))]
    exact Tq.some ⟨Fr.rf, fun i => by rw [if_neg (by omega)], fun i => by rw [if_neg (by omega)]⟩
  | d + 1, k, f + 1, g, hk, hf => by
    have i0 : hs_in (nI (2001 * m + k)) 16008 = true := hin (by omega) (by decide)
    rw [nlX12_stacks_16_s, if_neg (fun q => absurd ((lei (by omega) (by omega)).mp q) (by omega)), nI_add, if_pos i0, if_pos i0, cl (by omega), nI_1]
    refine Tq.bve rfl ((q_s16 hm8 hn v1 d (k + 1) f _ (by omega) (by omega)).mono fun g' h => ⟨((Fr.rf.w (by decide)).w (by decide)).trans h.1, fun i => ?_, fun i => ?_⟩)
    · rw [h.2.1 i, hm_w_ne (show (295 : Nat) ≠ 296 by decide), hm_w_at]
      by_cases e : i = 2001 * m + k
      · rw [if_neg (by omega), if_pos e, if_pos (by omega)]
      · by_cases e2 : 2001 * m + k ≤ i ∧ i < 2001 * m + n
        · rw [if_pos (by omega), if_pos e2]
        · rw [if_neg (by omega), if_neg e, if_neg e2]
    · rw [h.2.2 i, hm_w_at, hm_w_ne (show (296 : Nat) ≠ 295 by decide)]
      by_cases e : i = 2001 * m + k
      · rw [if_neg (by omega), if_pos e, if_pos (by omega)]
      · by_cases e2 : 2001 * m + k ≤ i ∧ i < 2001 * m + n
        · rw [if_pos (by omega), if_pos e2]
        · rw [if_neg (by omega), if_neg e, if_neg e2]
theorem q_s58 {m n h : Nat} {R : Nat → Nat} (hm8 : m < 8) (hn : n ≤ 2000) (hh : h ≤ 8) (hat : ∀ q, q < h → R (4 * q + 2) < n) : ∀ (d k f : Nat) (g : hm), k + d = h → d < f → g 301 m = nI h → s_Rw g 302 (32 * m) h R → (∀ q, q < k → R (4 * q + 2) ≠ 0) →
    Tq (nlX12_stacks_58 f (nI m) (nI n) (nI (2001 * m)) (nI k) g) (fun q => Fr [295] g q.2 ∧ (∀ i, (i < 2001 * m ∨ 2001 * m + n ≤ i) → q.2 295 i = g 295 i) ∧ ((q.1 = 1 ∧ ¬ ∀ q, q < h → R (4 * q + 2) ≠ 0) ∨ (q.1 = 0 ∧ (∀ q, q < h → R (4 * q + 2) ≠ 0) ∧ ∀ i, i < n → (((∃ z, k ≤ z ∧ z < h ∧ i = R (4 * z + 2)) → q.2 295 (2001 * m + i) = 1) ∧ ((¬ ∃ z, k ≤ z ∧ z < h ∧ i = R (4 * z + 2)) → q.2 295 (2001 * m + i) = g 295 (2001 * m + i))))))
  | d, k, 0, g, _, hf => absurd hf (Nat.not_lt_zero _)
  | 0, k, f + 1, g, hk, _ => by
    intro gh hR hz
    rw [nlX12_stacks_58_s, if_pos (hin hm8 (by decide)), cl (by omega), gh, if_pos ((lei (by omega) (by omega)).mpr (by omega))]
    refine Tq.some ⟨Fr.rf, fun _ _ => rfl, Or.inr ⟨rfl, fun q hq => hz q (by omega), fun i _ => ⟨?_, fun _ => rfl⟩⟩⟩
    rintro ⟨z, z1, z2, -⟩
    omega
  | d + 1, k, f + 1, g, hk, hf => by
    intro gh hR hz
    have c1 : (32 : Int32) * nI m + (4 : Int32) * nI k + (2 : Int32) = nI (32 * m + (4 * k + 2)) := by rw [show (32 : Int32) = nI 32 from rfl, show (4 : Int32) = nI 4 from rfl, show (2 : Int32) = nI 2 from rfl, pk_mul, pk_mul, nI_add, nI_add]; rfl
    obtain ⟨g2, b2⟩ := hR (4 * k + 2) (by omega)
    have ha := hat k (by omega)
    rw [nlX12_stacks_58_s, if_pos (hin hm8 (by decide)), cl (by omega), gh, if_neg (fun q => absurd ((lei (by omega) (by omega)).mp q) (by omega)), c1, if_pos (hin (by omega) (by decide)), cl (by omega), g2]
    by_cases e : R (4 * k + 2) = 0
    · rw [if_pos (by rw [e]; rfl)]
      exact Tq.some ⟨Fr.rf, fun _ _ => rfl, Or.inl ⟨rfl, fun q => q k (by omega) e⟩⟩
    · rw [if_neg (nI_ne0 (by omega) (by omega)), nI_add, if_pos (hin (by omega) (by decide)), cl (by omega), nI_1]
      refine Tq.bve rfl ((q_s58 hm8 hn hh hat d (k + 1) f _ (by omega) (by omega) (by rw [hm_w_ne (by decide)]; exact gh) (fun i hi => by rw [hm_w_ne (by decide)]; exact hR i hi) (fun q hq => ?_)).mono fun q hq => ⟨(Fr.rf.w (by decide)).trans hq.1, fun i hi => ?_, ?_⟩)
      · by_cases e2 : q = k
        · rw [e2]; exact e
        · exact hz q (by omega)
      · rw [hq.2.1 i hi, hm_w_o (by omega)]
      · refine hq.2.2.imp id fun y => ⟨y.1, y.2.1, fun i hi => ?_⟩
        obtain ⟨y1, y2⟩ := y.2.2 i hi
        constructor
        · rintro ⟨z, z1, z2, z3⟩
          by_cases w : ∃ z, k + 1 ≤ z ∧ z < h ∧ i = R (4 * z + 2)
          · exact y1 w
          · rw [y2 w]
            have : z = k := Classical.byContradiction fun u => w ⟨z, by omega, z2, z3⟩
            rw [this] at z3
            rw [z3, hm_w_eq]
        · intro w
          rw [y2 (fun ⟨z, z1, z2, z3⟩ => w ⟨z, by omega, z2, z3⟩), hm_w_o (fun u => w ⟨k, Nat.le_refl k, by omega, by omega⟩)]
