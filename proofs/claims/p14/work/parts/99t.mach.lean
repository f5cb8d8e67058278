/-! THE TWO MACHINES: what is thrown -/
theorem CM.hn {s0 s : hs_S} {g : hm} {m h k i : Nat} (B : Ba s0 s g) (hm8 : m < 8) (r1 : hs_R s0 (73 + 2 * m) 1 = 75 + 2 * m) (ht : ∀ i, i < 4 * h → hs_I s0 (74 + 2 * m) i = hs_I s0 306 (32 * m + i)) (hh : h ≤ 8) (hk : k < h) (hi : i < 4) : fX7_handlerNumber (73 + 2 * m) (nI k) (nI i) s = some (hs_I s0 306 (32 * m + (4 * k + i)), s) := by
  obtain ⟨k6, k7, k8⟩ := k6_m hm8
  have hR : hs_R s (73 + 2 * m) = hs_R s0 (73 + 2 * m) := B.2.2.2.2.1 _ (by rw [k6]; decide)
  rw [x_hnum (tb := 74 + 2 * m) B.1 k6 (by rw [hR, r1]; omega) k7 k8 (by omega) hi, B.2.2.1 _ (by omega), ht _ (by omega)]
/-- which handler has it -/
theorem h_loop {s0 s : hs_S} {g : hm} {m h e : Nat} {X : Int32} (B : Ba s0 s g) (hm8 : m < 8) (r1 : hs_R s0 (73 + 2 * m) 1 = 75 + 2 * m) (h6 : hs_I s0 (73 + 2 * m) 6 = nI h) (g6 : hs_I s0 290 m = nI h) (ht : ∀ i, i < 4 * h → hs_I s0 (74 + 2 * m) i = hs_I s0 306 (32 * m + i)) (hh : h ≤ 8) (h47 : g 285 47 = nI e) : ∀ (d k f f' : Nat), k + d = h → d < f → d < f' →
    (∃ z, z < h ∧ lX7_handlerFor_2 f (73 + 2 * m) X (nI e) (nI k) s = some (1, nI z, s) ∧ nlX12_caught_33 f' (nI m) X (nI k) g = some (1, nI (32 * m + 4 * z), g)) ∨ ∃ v, lX7_handlerFor_2 f (73 + 2 * m) X (nI e) (nI k) s = some (0, v, s) ∧ nlX12_caught_33 f' (nI m) X (nI k) g = some (0, 0, g)
  | d, k, 0, f', _, hf, _ => absurd hf (Nat.not_lt_zero _)
  | d, k, f + 1, 0, _, _, hf => absurd hf (Nat.not_lt_zero _)
  | 0, k, f + 1, f' + 1, hk, _, _ => by
    right
    have k6 := B.1.k (k6_m hm8).1
    have s6 : hs_I s (73 + 2 * m) 6 = nI h := by rw [B.2.2.1 _ (by omega)]; exact h6
    have g6' : g 290 m = nI h := by rw [B.2.2.2.2.2.1 290 (by decide) (by decide)]; exact g6
    have u : nI h ≤ nI k := (lei (by omega) (by omega)).mpr (by omega)
    exact ⟨nI k, by rw [lX7_handlerFor_2, if_pos k6, s6, if_pos u], by rw [nlX12_caught_33, if_pos (hin hm8 (by decide)), cl (show m < 2147483648 by omega), g6', if_pos u]⟩
  | d + 1, k, f + 1, f' + 1, hk, hf, hf' => by
    have k6 := B.1.k (k6_m hm8).1
    have s6 : hs_I s (73 + 2 * m) 6 = nI h := by rw [B.2.2.1 _ (by omega)]; exact h6
    have g6' : g 290 m = nI h := by rw [B.2.2.2.2.2.1 290 (by decide) (by decide)]; exact g6
    have g306 : g 306 = hs_I s0 306 := B.2.2.2.2.2.1 306 (by decide) (by decide)
    have u : ¬ nI h ≤ nI k := fun z => absurd ((lei (by omega) (by omega)).mp z) (by omega)
    have n3 : fX7_handlerNumber (73 + 2 * m) (nI k) (3 : Int32) s = some (hs_I s0 306 (32 * m + (4 * k + 3)), s) := CM.hn B hm8 r1 ht hh (by omega) (i := 3) (by decide)
    have n0 : fX7_handlerNumber (73 + 2 * m) (nI k) (0 : Int32) s = some (hs_I s0 306 (32 * m + (4 * k + 0)), s) := CM.hn B hm8 r1 ht hh (by omega) (i := 0) (by decide)
    have n1 : fX7_handlerNumber (73 + 2 * m) (nI k) (1 : Int32) s = some (hs_I s0 306 (32 * m + (4 * k + 1)), s) := CM.hn B hm8 r1 ht hh (by omega) (i := 1) (by decide)
    have d1 : (32 : Int32) * nI m + (4 : Int32) * nI k = nI (32 * m + 4 * k) := by rw [show (32 : Int32) = nI 32 from rfl, show (4 : Int32) = nI 4 from rfl, pk_mul, pk_mul, nI_add]
    have d3 : nI (32 * m + 4 * k) + (3 : Int32) = nI (32 * m + 4 * k + 3) := nI_add _ 3
    have d4 : nI (32 * m + 4 * k) + (1 : Int32) = nI (32 * m + 4 * k + 1) := nI_add _ 1
    have i0 : hs_in (nI (32 * m + 4 * k)) 256 = true := hin (by omega) (by decide)
    have i1 : hs_in (nI (32 * m + 4 * k + 1)) 256 = true := hin (by omega) (by decide)
    have i3 : hs_in (nI (32 * m + 4 * k + 3)) 256 = true := hin (by omega) (by decide)
    have ih := h_loop (X := X) B hm8 r1 h6 g6 ht hh h47 d (k + 1) f f' (by omega) (by omega) (by omega)
    have ca : (X < hs_I s0 306 (32 * m + 4 * k) ∨ hs_I s0 306 (32 * m + 4 * k + 1) ≤ X ∨ (¬ hs_I s0 306 (32 * m + 4 * k + 3) = nI e ∧ ¬ hs_I s0 306 (32 * m + 4 * k + 3) = 0)) ∨ (¬ X < hs_I s0 306 (32 * m + 4 * k) ∧ ¬ hs_I s0 306 (32 * m + 4 * k + 1) ≤ X ∧ (hs_I s0 306 (32 * m + 4 * k + 3) = nI e ∨ hs_I s0 306 (32 * m + 4 * k + 3) = 0)) := by
      by_cases p1 : X < hs_I s0 306 (32 * m + 4 * k)
      · exact Or.inl (Or.inl p1)
      by_cases p2 : hs_I s0 306 (32 * m + 4 * k + 1) ≤ X
      · exact Or.inl (Or.inr (Or.inl p2))
      by_cases p3 : hs_I s0 306 (32 * m + 4 * k + 3) = nI e
      · exact Or.inr ⟨p1, p2, Or.inl p3⟩
      by_cases p4 : hs_I s0 306 (32 * m + 4 * k + 3) = 0
      · exact Or.inr ⟨p1, p2, Or.inr p4⟩
      exact Or.inl (Or.inr (Or.inr ⟨p3, p4⟩))
    rw [Nat.add_zero] at n0
    rw [← Nat.add_assoc] at n3 n1
    rw [lX7_handlerFor_2, if_pos k6, s6, if_neg u, n3, hs_bd_s, if_pos k6, n0, hs_bd_s, if_pos k6, n1, hs_bd_s, nlX12_caught_33, if_pos (hin hm8 (by decide)), cl (show m < 2147483648 by omega), g6', if_neg u, d1, d3, if_pos i3, cl (show 32 * m + 4 * k + 3 < 2147483648 by omega), g306, h47]
    unfold jX7_handlerFor_42 jX7_handlerFor_43 jX7_handlerFor_68 njX12_caught_78 njX12_caught_153
    rw [if_pos i0, cl (show 32 * m + 4 * k < 2147483648 by omega), d4, if_pos i1, cl (show 32 * m + 4 * k + 1 < 2147483648 by omega), g306, if_pos (show (0 : Int32) = 0 from rfl), if_neg i1_ne, nI_1]
    rcases ca with ca | ⟨p1, p2, p3⟩
    · have hL : (if X < hs_I s0 306 (32 * m + 4 * k) then lX7_handlerFor_2 f (73 + 2 * m) X (nI e) (nI (k + 1)) s else if hs_I s0 306 (32 * m + 4 * k + 1) ≤ X then lX7_handlerFor_2 f (73 + 2 * m) X (nI e) (nI (k + 1)) s else if hs_I s0 306 (32 * m + 4 * k + 3) = nI e then some (1, nI k, s) else if hs_I s0 306 (32 * m + 4 * k + 3) = 0 then some (1, nI k, s) else lX7_handlerFor_2 f (73 + 2 * m) X (nI e) (nI (k + 1)) s) = lX7_handlerFor_2 f (73 + 2 * m) X (nI e) (nI (k + 1)) s := by
        by_cases p1 : X < hs_I s0 306 (32 * m + 4 * k)
        · rw [if_pos p1]
        rw [if_neg p1]
        by_cases p2 : hs_I s0 306 (32 * m + 4 * k + 1) ≤ X
        · rw [if_pos p2]
        rw [if_neg p2]
        obtain ⟨p3, p4⟩ := (ca.resolve_left p1).resolve_left p2
        rw [if_neg p3, if_neg p4]
      have hN : (if hs_I s0 306 (32 * m + 4 * k + 3) = 0 then (if X < hs_I s0 306 (32 * m + 4 * k) then nlX12_caught_33 f' (nI m) X (nI (k + 1)) g else if hs_I s0 306 (32 * m + 4 * k + 1) ≤ X then nlX12_caught_33 f' (nI m) X (nI (k + 1)) g else some (1, nI (32 * m + 4 * k), g)) else if hs_I s0 306 (32 * m + 4 * k + 3) = nI e then (if X < hs_I s0 306 (32 * m + 4 * k) then nlX12_caught_33 f' (nI m) X (nI (k + 1)) g else if hs_I s0 306 (32 * m + 4 * k + 1) ≤ X then nlX12_caught_33 f' (nI m) X (nI (k + 1)) g else some (1, nI (32 * m + 4 * k), g)) else nlX12_caught_33 f' (nI m) X (nI (k + 1)) g) = nlX12_caught_33 f' (nI m) X (nI (k + 1)) g := by
        by_cases p1 : X < hs_I s0 306 (32 * m + 4 * k)
        · rw [if_pos p1]
          split
          · rfl
          · split <;> rfl
        rw [if_neg p1]
        by_cases p2 : hs_I s0 306 (32 * m + 4 * k + 1) ≤ X
        · rw [if_pos p2]
          split
          · rfl
          · split <;> rfl
        obtain ⟨p3, p4⟩ := (ca.resolve_left p1).resolve_left p2
        rw [if_neg p4, if_neg p3]
      have hL2 := hL
      have hN2 := hN
      rcases ih with ⟨z, z1, z2, z3⟩ | ⟨v, z2, z3⟩
      · exact Or.inl ⟨z, z1, hL.trans z2, hN.trans z3⟩
      · exact Or.inr ⟨v, hL.trans z2, hN.trans z3⟩
    · left
      refine ⟨k, by omega, ?_, ?_⟩
      · rw [if_neg p1, if_neg p2]
        by_cases p4 : hs_I s0 306 (32 * m + 4 * k + 3) = nI e
        · rw [if_pos p4]
        · rw [if_neg p4, if_pos (p3.resolve_left p4)]
      · rw [if_neg p1, if_neg p2]
        by_cases p4 : hs_I s0 306 (32 * m + 4 * k + 3) = 0
        · rw [if_pos p4]
        · rw [if_neg p4, if_pos (p3.resolve_right p4)]
