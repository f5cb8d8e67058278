theorem pi_ite {c : Prop} {i : Decidable c} {A B A' B' : Option (Int32 × hs_S)} {g : hs_S} (hA : A = some ((A'.getD (0, hs_0)).1, g)) (hB : B = some ((B'.getD (0, hs_0)).1, g)) : @ite _ c i A B = some (((@ite _ c i A' B').getD (0, hs_0)).1, g) := by
  by_cases h : c
  · rw [if_pos h, if_pos h]; exact hA
  · rw [if_neg h, if_neg h]; exact hB
theorem pi_ex {f : hs_S → Option (Int32 × hs_S)} (h : ∀ g, f g = some (((f hs_0).getD (0, hs_0)).1, g)) : ∃ z : Int32, ∀ g, f g = some (z, g) := ⟨_, h⟩
theorem pv_two (k : Int32) : ∃ z : Int32, ∀ g, fX4_isOfTwo k g = some (z, g) := by
  refine pi_ex fun g => ?_
  unfold fX4_isOfTwo
  repeat' (first | apply pi_ite | rfl)
theorem pv_brn (k : Int32) : ∃ z : Int32, ∀ g, fX4_isBranch k g = some (z, g) := by
  refine pi_ex fun g => ?_
  unfold fX4_isBranch
  repeat' (first | apply pi_ite | rfl)
theorem pv_arr (k : Int32) : ∃ z : Int32, ∀ g, fX4_isOfArray k g = some (z, g) := by
  refine pi_ex fun g => ?_
  unfold fX4_isOfArray jX4_isOfArray_26
  repeat' (first | apply pi_ite | rfl)
def pv_sz (k : Int32) : Int32 := ((fX4_sizeOf k hs_0).getD (0, hs_0)).1
set_option maxHeartbeats 4000000 in
theorem pv_sz_eq (k : Int32) (g : hs_S) : fX4_sizeOf k g = some (pv_sz k, g) := by
  obtain ⟨z1, e1⟩ := pv_two k
  obtain ⟨z2, e2⟩ := pv_brn k
  obtain ⟨z3, e3⟩ := pv_arr k
  unfold pv_sz fX4_sizeOf jX4_sizeOf_147
  simp only [e1, e2, e3, hs_bd_s]
  repeat' (first | apply pi_ite | rfl)
set_option maxHeartbeats 4000000 in
theorem pv_sz_out {k : Int32} (h : k < 0 ∨ (255 : Int32) < k) : pv_sz k = 0 := by
  have hne : ∀ c : Int32, (¬ c < 0) → (¬ (255 : Int32) < c) → ¬ k = c := fun c a b e => by subst e; exact h.elim a b
  have h1 : fX4_isOfTwo k hs_0 = some (0, hs_0) := by
    unfold fX4_isOfTwo
    rw [if_neg (hne 96 (by decide) (by decide)), if_neg (hne 100 (by decide) (by decide)), if_neg (hne 104 (by decide) (by decide)), if_neg (hne 108 (by decide) (by decide)), if_neg (hne 112 (by decide) (by decide)), if_neg (hne 126 (by decide) (by decide)), if_neg (hne 128 (by decide) (by decide)), if_neg (hne 130 (by decide) (by decide))]
  have h2 : fX4_isBranch k hs_0 = some (0, hs_0) := by
    unfold fX4_isBranch
    rcases h with h | h
    · rw [if_pos (Int32.lt_trans h (by decide))]
    · rw [if_neg (fun q => absurd (Int32.lt_trans h q) (by decide)), if_pos (Int32.lt_trans (by decide) h)]
  have h3 : fX4_isOfArray k hs_0 = some (0, hs_0) := by
    unfold fX4_isOfArray
    rw [if_neg (hne 188 (by decide) (by decide)), if_neg (hne 190 (by decide) (by decide)), if_neg (hne 46 (by decide) (by decide)), if_neg (hne 79 (by decide) (by decide))]
  unfold pv_sz fX4_sizeOf
  rw [if_neg (hne 0 (by decide) (by decide)), if_neg (hne 16 (by decide) (by decide)), if_neg (hne 17 (by decide) (by decide)), if_neg (hne 21 (by decide) (by decide)), if_neg (hne 54 (by decide) (by decide)), if_neg (hne 87 (by decide) (by decide)), if_neg (hne 89 (by decide) (by decide)), if_neg (hne 116 (by decide) (by decide)), if_neg (hne 167 (by decide) (by decide)), if_neg (hne 168 (by decide) (by decide)), if_neg (hne 172 (by decide) (by decide)), if_neg (hne 184 (by decide) (by decide)), if_neg (hne 191 (by decide) (by decide)), h1, hs_bd_s, if_pos rfl, h2, hs_bd_s, if_pos rfl, h3, hs_bd_s, if_pos rfl]
  rfl
def pv_sm (k : Int32) : Int32 := ((fX12_size k hs_0).getD (0, hs_0)).1
set_option maxHeartbeats 4000000 in
theorem pv_sm_eq (k : Int32) (g : hs_S) : fX12_size k g = some (pv_sm k, g) := by
  unfold pv_sm fX12_size jX12_size_56 jX12_size_191
  repeat' (first | apply pi_ite | rfl)
def pv_km (k : Int32) : Int32 := ((fX12_isKind k hs_0).getD (0, hs_0)).1
theorem pv_km_eq (k : Int32) (g : hs_S) : fX12_isKind k g = some (pv_km k, g) := by
  unfold pv_km fX12_isKind
  rw [pv_sm_eq k g, pv_sm_eq k hs_0, hs_bd_s, hs_bd_s]
  repeat' (first | apply pi_ite | rfl)
set_option maxRecDepth 100000 in
theorem pv_same : (List.range 256).all (fun j => decide (pv_sz (nI j) = 0) == decide (pv_km (nI j) = 0)) = true := by decide +kernel
theorem pv_same' {j : Nat} (h : j < 256) : pv_sz (nI j) = 0 ↔ pv_km (nI j) = 0 := by
  have := List.all_eq_true.mp pv_same j (List.mem_range.mpr h)
  simpa using this
theorem pq_price {g : hs_S} (hF : pp_F g = true) (hA : pp_A g = true) (k v : Int32) : ∃ (r : Int32) (g5 g6 : hs_S), fX11_price 0 k v g = some (r, g5) ∧ hs_kd g5 285 = 10 ∧ fX12_price 285 k v g5 = some (r, g6) := by
  simp only [pp_F, Bool.and_eq_true, decide_eq_true_eq] at hF
  obtain ⟨⟨⟨⟨⟨⟨⟨⟨⟨⟨⟨⟨⟨⟨⟨⟨⟨⟨⟨⟨⟨⟨⟨⟨⟨⟨⟨⟨⟨⟨⟨⟨⟨⟨⟨⟨⟨k0, r00⟩, r01⟩, r03⟩, r04⟩, r07⟩, k1⟩, k23⟩, k67⟩, u1⟩, c23⟩, c67⟩, row1⟩, k6⟩, l6⟩, k89⟩, r89⟩, k90⟩, l90⟩, k100⟩, r100⟩, k102⟩, r102⟩, k103⟩, l103⟩, k285⟩, tp⟩, hf_⟩, rw_⟩, rt⟩, k286⟩, l286⟩, rp⟩, k312⟩, l312⟩, rs⟩, k313⟩, l313⟩ := hF
  simp only [pp_A, Bool.and_eq_true, List.all_eq_true, List.mem_range, decide_eq_true_eq] at hA
  unfold fX11_price
  rw [pv_sz_eq, hs_bd_s]
  by_cases h1 : k < 0
  · rw [if_pos (pv_sz_out (Or.inl h1))]
    exact ⟨-3, g, g, rfl, k285, by unfold fX12_price; rw [if_pos h1]⟩
  by_cases h2 : (255 : Int32) < k
  · rw [if_pos (pv_sz_out (Or.inr h2))]
    exact ⟨-3, g, g, rfl, k285, by unfold fX12_price; rw [if_neg h1, if_pos h2]⟩
  obtain ⟨j, hj, e⟩ := pq_range h1 h2
  have hz : pv_sz k = 0 ↔ pv_km k = 0 := by rw [e]; exact pv_same' hj
  by_cases h3 : pv_sz k = 0
  · rw [if_pos h3]
    exact ⟨-3, g, g, rfl, k285, by unfold fX12_price; rw [if_neg h1, if_neg h2, pv_km_eq, hs_bd_s, if_pos (hz.mp h3)]⟩
  have h3' : ¬ pv_km k = 0 := fun q => h3 (hz.mpr q)
  rw [if_neg h3]
  by_cases h4 : v < 0
  · rw [if_pos h4]
    exact ⟨-3, g, g, rfl, k285, by unfold fX12_price; rw [if_neg h1, if_neg h2, pv_km_eq, hs_bd_s, if_neg h3', if_pos h4]⟩
  rw [if_neg h4]
  by_cases h5 : v ≤ (1000 : Int32)
  · rw [if_pos h5]
    have y1 : fX8_of 89 k g = some (hs_I g 90 j, g) := by
      unfold fX8_of
      have : fX9_at 90 k g = some (hs_I g 90 j, g) := by rw [e]; exact pq_at k90 l90 hj (by decide)
      simp [k89, r89, this, hs_bd]
    have y2 : fX8_become 89 k v g = some (hs_wI g 90 j v) := by
      unfold fX8_become
      have : fX9_put 90 k v g = some (hs_wI g 90 j v) := by rw [e]; exact pq_put k90 l90 hj (by decide)
      simp [k89, r89, this, hs_bv]
    have y3 : k.toNatClampNeg = j := by rw [e]; exact nI_clamp (by omega)
    have y4 : hs_in k 256 = true := by rw [e]; exact hs_in_nI hj (by omega)
    refine ⟨hs_I g 90 j, hs_wI g 90 j v, hs_wI (hs_wI g 90 j v) 312 j v, ?_, k285, ?_⟩
    · simp [k0, r04, k89, y1, y2, hs_bd, hs_bv]
    · unfold fX12_price
      rw [if_neg h1, if_neg h2, pv_km_eq, hs_bd_s, if_neg h3', if_neg h4, if_pos h5]
      simp [hs_kd_wI, hs_R_wI, hs_ln_wI, hs_I_wI, k285, rp, k312, l312, y3, y4, hA.2 j hj]
  · rw [if_neg h5]
    exact ⟨-3, g, g, rfl, k285, by unfold fX12_price; rw [if_neg h1, if_neg h2, pv_km_eq, hs_bd_s, if_neg h3', if_neg h4, if_neg h5]⟩
/-- the two tapes, of u and v bytes -/
def pt_T (g : hs_S) (u v : Nat) : Prop := hs_kd g 0 = 9 ∧ hs_R g 0 0 = 2 ∧ hs_kd g 1 = 0 ∧ hs_R g 1 0 = 7 ∧ hs_kd g 6 = 100 ∧ hs_ln g 6 = 6000 ∧ hs_I g 1 3 = nI u ∧ hs_kd g 285 = 10 ∧ hs_I g 285 2 = nI v ∧ hs_R g 285 1 = 287 ∧ hs_kd g 286 = 100 ∧ hs_ln g 286 = 6000
theorem pt_app {g : hs_S} {u v : Nat} (h : pt_T g u v) (hu : u < 6000) (b : Int32) : ∃ g' : hs_S, fX0_append 1 b g = some g' ∧ pt_T g' (u + 1) v := by
  obtain ⟨a1, a2, a3, a4, a5, a6, a7, a8, a9, a10, a11, a12⟩ := h
  have y1 : fX9_put 6 (nI u) (b &&& 255) g = some (hs_wI g 6 u (b &&& 255)) := pq_put a5 a6 hu (by decide)
  have y2 : ¬ Int32.ofNat 6000 ≤ nI u := nI_ge (a := u) (b := 6000) hu (by decide)
  refine ⟨hs_wI (hs_wI g 6 u (b &&& 255)) 1 3 (nI (u + 1)), ?_, ?_⟩
  · unfold fX0_append
    simp only [a3, a4, a5, a6, a7]
    rw [if_pos trivial, if_pos (by decide), if_pos trivial, if_neg y2]
    show hs_bv (fX9_put 6 (nI u) (b &&& 255) g) _ = _
    rw [y1, hs_bv_s]
    simp only [hs_kd_wI, a3, hs_I_wI]
    rw [if_pos trivial, if_neg (by decide), a7, nI_1]
  · refine ⟨a1, a2, a3, a4, a5, a6, ?_, a8, ?_, a10, a11, a12⟩
    · simp [hs_I_wI]
    · simp [hs_I_wI, a9]
theorem pt_m1 (k : Nat) : nI k + (-1) = nI k - 1 := by rw [Int32.sub_eq_add_neg]
theorem pt_neg : (nI 0 - 1 : Int32) < 0 := by decide
theorem pt_C (w : Int64) : ∀ (t n u v : Nat) (g : hs_S), t < n → u + t ≤ 6000 → pt_T g u v → ∃ g' : hs_S, lX11_feed_37 n 0 w (nI t - 1) g = some g' ∧ pt_T g' (u + t) v
  | t, 0, u, v, g, hn, _, _ => absurd hn (Nat.not_lt_zero t)
  | 0, n + 1, u, v, g, _, _, h => ⟨g, by rw [lX11_feed_37_s, if_pos pt_neg], h⟩
  | t + 1, n + 1, u, v, g, hn, hu, h => by
    obtain ⟨g2, e2, h2⟩ := pt_app h (by omega) ((w >>> (((8 : Int32) * nI t).toInt64 &&& 63)).toInt32)
    obtain ⟨g3, e3, h3⟩ := pt_C w t n (u + 1) v g2 (by omega) (by omega) h2
    refine ⟨g3, ?_, by rw [show u + (t + 1) = u + 1 + t by omega]; exact h3⟩
    obtain ⟨a1, a2, a3, -⟩ := h
    rw [lX11_feed_37_s, nI_pred, if_neg (nI_pos (by omega)), if_pos a1, if_pos (by rw [a2]; decide), a2, if_pos a3]
    show hs_bv (fX0_append 1 _ g) _ = _
    rw [e2, hs_bv_s, pt_m1, e3]
theorem pt_M (w : Int64) : ∀ (t n u v : Nat) (g : hs_S), t < n → v + t ≤ 6000 → pt_T g u v → ∃ g' : hs_S, lX12_feed_34 n 285 w (nI t - 1) g = some g' ∧ pt_T g' u (v + t)
  | t, 0, u, v, g, hn, _, _ => absurd hn (Nat.not_lt_zero t)
  | 0, n + 1, u, v, g, _, _, h => ⟨g, by rw [lX12_feed_34_s, if_pos pt_neg], h⟩
  | t + 1, n + 1, u, v, g, hn, hu, h => by
    obtain ⟨a1, a2, a3, a4, a5, a6, a7, a8, a9, a10, a11, a12⟩ := id h
    have hc : (nI v).toNatClampNeg = v := nI_clamp (by omega)
    have hi : hs_in (nI v) 6000 = true := hs_in_nI (by omega) (by omega)
    obtain ⟨g3, e3, h3⟩ := pt_M w t n u (v + 1) (hs_wI (hs_wI g 286 v ((((w.toUInt64 >>> (((8 : Int32) * nI t).toInt64.toUInt64 &&& Int64.toUInt64 63)).toInt64).toInt32) &&& (255 : Int32))) 285 2 (nI (v + 1))) (by omega) (by omega)
      ⟨a1, a2, a3, a4, a5, a6, by simp [hs_I_wI, a7], a8, by simp [hs_I_wI], a10, a11, a12⟩
    refine ⟨g3, ?_, by rw [show v + (t + 1) = v + 1 + t by omega]; exact h3⟩
    rw [lX12_feed_34_s, nI_pred, if_neg (nI_pos (by omega)), if_pos a8, if_pos (by rw [a10]; decide)]
    simp only [a10, a9, a12]
    rw [if_pos a11, if_pos hi, hs_bv_s]
    show lX12_feed_34 n 285 w _ (hs_wI (hs_wI g 286 (nI v).toNatClampNeg _) 285 2 (hs_I (hs_wI g 286 (nI v).toNatClampNeg _) 285 2 + 1)) = _
    rw [hc, hs_I_wI, if_neg (by decide), a9, nI_1, pt_m1, e3]
theorem pq_feed {g : hs_S} (hF : pp_F g = true) (w : Int64) (n : Int32) : ∃ (r : Int32) (g5 g6 : hs_S), fX11_feed 0 w n g = some (r, g5) ∧ hs_kd g5 285 = 10 ∧ fX12_feed 285 w n g5 = some (r, g6) := by
  simp only [pp_F, Bool.and_eq_true, decide_eq_true_eq] at hF
  obtain ⟨⟨⟨⟨⟨⟨⟨⟨⟨⟨⟨⟨⟨⟨⟨⟨⟨⟨⟨⟨⟨⟨⟨⟨⟨⟨⟨⟨⟨⟨⟨⟨⟨⟨⟨⟨⟨k0, r00⟩, r01⟩, r03⟩, r04⟩, r07⟩, k1⟩, k23⟩, k67⟩, u1⟩, c23⟩, c67⟩, row1⟩, k6⟩, l6⟩, k89⟩, r89⟩, k90⟩, l90⟩, k100⟩, r100⟩, k102⟩, r102⟩, k103⟩, l103⟩, k285⟩, tp⟩, hf_⟩, rw_⟩, rt⟩, k286⟩, l286⟩, rp⟩, k312⟩, l312⟩, rs⟩, k313⟩, l313⟩ := hF
  have hT : pt_T g 0 0 := ⟨k0, r00, k1, row1, k6, l6, by rw [u1]; rfl, k285, by rw [tp]; rfl, rt, k286, l286⟩
  unfold fX11_feed
  by_cases h1 : n < (1 : Int32)
  · rw [if_pos h1]
    exact ⟨-3, g, g, rfl, k285, by unfold fX12_feed; rw [if_pos h1]⟩
  rw [if_neg h1]
  by_cases h2 : n ≤ (8 : Int32)
  · rw [if_pos h2]
    have h0 : ¬ n < 0 := fun q => h1 (Int32.lt_trans q (by decide))
    obtain ⟨j, hj, e⟩ := nI_of h0
    have hj8 : j ≤ 8 := by
      rcases Nat.lt_or_ge 8 j with q | q
      · exact absurd h2 (by rw [e]; exact nI_ge (a := 8) q hj)
      · exact q
    obtain ⟨g2, e2, hT2⟩ := pt_C w j hs_N 0 0 g (by unfold hs_N; omega) (by omega) hT
    obtain ⟨g3, e3, hT3⟩ := pt_M w j hs_N (0 + j) 0 g2 (by unfold hs_N; omega) (by omega) hT2
    obtain ⟨b1, b2, b3, b4, b5, b6, b7, b8, b9, b10, b11, b12⟩ := id hT2
    obtain ⟨d1, d2, d3, d4, d5, d6, d7, d8, d9, d10, d11, d12⟩ := id hT3
    have hle : (0 + n : Int32) ≤ 6000 := by rw [e, ← nI_0, nI_add]; exact nI_le (b := 6000) (by omega) (by decide)
    refine ⟨nI j, g2, g3, ?_, b8, ?_⟩
    · rw [if_pos k0, if_pos (by rw [r00]; decide), r00, if_pos k1]
      show (if hs_I g 1 3 + n ≤ 6000 then _ else _) = _
      rw [u1, if_pos hle, e, e2, hs_bv_s, if_pos b1, if_pos (by rw [b2]; decide), b2, if_pos b3]
      show some (hs_I g2 1 3, g2) = _
      rw [b7, Nat.zero_add]
    · unfold fX12_feed
      rw [if_neg h1, if_pos h2, if_pos b8, b9, nI_0, if_pos hle, e, e3, hs_bv_s, if_pos d8, d9, Nat.zero_add]
  · rw [if_neg h2]
    exact ⟨-3, g, g, rfl, k285, by unfold fX12_feed; rw [if_neg h1, if_neg h2]⟩
