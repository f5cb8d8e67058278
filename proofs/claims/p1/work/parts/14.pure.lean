theorem pz_call {A : Option (Int32 × hs_S)} {Bf : hs_S → Option (Int32 × hs_S)} {J K : hs_S → Option (Nat × hs_S)} (h : ∃ (r : Int32) (g5 g6 : hs_S), A = some (r, g5) ∧ hs_kd g5 285 = 10 ∧ Bf g5 = some (r, g6)) (hJ : ∀ g, J g = some (0, g)) :
    ∃ g5 : hs_S, hs_bd A (fun r g5 => if hs_kd g5 285 = 10 then hs_bd (Bf g5) (fun r' g6 => if r = r' then J g6 else K g6) else none) = some (0, g5) := by
  obtain ⟨r, g5, g6, a, b, c⟩ := h
  refine ⟨g6, ?_⟩
  rw [a, hs_bd_s, if_pos b, c, hs_bd_s, if_pos rfl, hJ]
theorem pz_same {A : Option (Int32 × hs_S)} {Bf : hs_S → Option (Int32 × hs_S)} {g : hs_S} {r : Int32} (k : hs_kd g 285 = 10) (h : A = some (r, g) ∧ Bf g = some (r, g)) : ∃ (r : Int32) (g5 g6 : hs_S), A = some (r, g5) ∧ hs_kd g5 285 = 10 ∧ Bf g5 = some (r, g6) := ⟨r, g, g, h.1, k, h.2⟩
set_option maxRecDepth 100000 in
theorem pz_exit (xs : Nat → Int32) (g : hs_S) : jL_law_609 xs 5 (fun y0 g => lL_law_18 xs 5 4294967295 0 285 y0 g) 0 285 0 g = some (0, g) := by
  unfold jL_law_609
  show lL_law_18 xs 5 (4294967294 + 1) 0 285 (0 + 5) g = some (0, g)
  rw [lL_law_18_s, if_pos (by decide)]
set_option maxHeartbeats 4000000 in
set_option maxRecDepth 100000 in
theorem pz_five (xs : Nat → Int32) {g4 : hs_S} (hF : pp_F g4 = true) (hA : pp_A g4 = true) (hC : pp_C g4 = true) : ∃ g5 : hs_S, lL_law_18 xs 5 (4294967295 + 1) 0 285 0 g4 = some (0, g5) := by
  have k0 : hs_kd g4 0 = 9 := by
    simp only [pp_F, Bool.and_eq_true, decide_eq_true_eq] at hF
    exact hF.1.1.1.1.1.1.1.1.1.1.1.1.1.1.1.1.1.1.1.1.1.1.1.1.1.1.1.1.1.1.1.1.1.1.1.1.1
  have k285 : hs_kd g4 285 = 10 := by
    simp only [pp_F, Bool.and_eq_true, decide_eq_true_eq] at hF
    exact hF.1.1.1.1.1.1.1.1.1.1.1.1.2
  have hE := pz_exit xs
  simp only [pp_C, Bool.and_eq_true] at hC
  obtain ⟨⟨⟨⟨⟨⟨q1, q3⟩, q9⟩, q10⟩, q11⟩, q13⟩, q14⟩ := hC
  rw [lL_law_18_s, if_neg (by decide), if_pos (by decide)]
  by_cases h0 : (xs (0 : Int32).toNatClampNeg &&& 15) = 0
  · rw [if_pos h0]
    rw [if_pos (by decide), if_pos (by decide), if_pos (by decide), if_pos k0]
    exact pz_call (pq_feed hF _ _) hE
  rw [if_neg h0]
  by_cases h1 : (xs (0 : Int32).toNatClampNeg &&& 15) = 1
  · rw [if_pos h1]
    rw [if_pos k0]
    exact pz_call (pp_two_ok q1) hE
  rw [if_neg h1]
  by_cases h2 : (xs (0 : Int32).toNatClampNeg &&& 15) = 2
  · rw [if_pos h2]
    rw [if_pos (by decide), if_pos (by decide), if_pos k0]
    exact pz_call (pq_price hF hA _ _) hE
  rw [if_neg h2]
  by_cases h3 : (xs (0 : Int32).toNatClampNeg &&& 15) = 3
  · rw [if_pos h3]
    rw [if_pos k0]
    exact pz_call (pp_two_ok q3) hE
  rw [if_neg h3]
  by_cases h4 : (xs (0 : Int32).toNatClampNeg &&& 15) = 4
  · rw [if_pos h4]
    rw [if_pos (by decide), if_pos (by decide)]
    by_cases hz : xs ((0 : Int32) + 2).toNatClampNeg = 0
    · rw [if_pos hz]
      unfold jL_law_249
      have a := pq_told hF (xs ((0 : Int32) + 1).toNatClampNeg) 0 (xs ((0 : Int32) + 3).toNatClampNeg)
      refine ⟨g4, ?_⟩
      rw [if_pos (by decide), if_pos k0, a.1, hs_bd_s, if_pos (by decide), if_pos (by decide), if_pos hz]
      unfold jL_law_276
      rw [if_pos (by decide), if_pos k285, a.2, hs_bd_s, if_pos rfl, hE]
    · rw [if_neg hz]
      unfold jL_law_249
      have a := pq_told hF (xs ((0 : Int32) + 1).toNatClampNeg) 1 (xs ((0 : Int32) + 3).toNatClampNeg)
      refine ⟨g4, ?_⟩
      rw [if_pos (by decide), if_pos k0, a.1, hs_bd_s, if_pos (by decide), if_pos (by decide), if_neg hz]
      unfold jL_law_276
      rw [if_pos (by decide), if_pos k285, a.2, hs_bd_s, if_pos rfl, hE]
  rw [if_neg h4]
  by_cases h5 : (xs (0 : Int32).toNatClampNeg &&& 15) = 5
  · rw [if_pos h5]
    rw [if_pos (by decide), if_pos (by decide)]
    by_cases hz : xs ((0 : Int32) + 2).toNatClampNeg = 0
    · rw [if_pos hz]
      unfold jL_law_308
      have a := pq_byteAt hF (xs ((0 : Int32) + 1).toNatClampNeg) 0 (xs ((0 : Int32) + 3).toNatClampNeg)
      refine ⟨g4, ?_⟩
      rw [if_pos (by decide), if_pos k0, a.1, hs_bd_s, if_pos (by decide), if_pos (by decide), if_pos hz]
      unfold jL_law_335
      rw [if_pos (by decide), if_pos k285, a.2, hs_bd_s, if_pos rfl, hE]
    · rw [if_neg hz]
      unfold jL_law_308
      have a := pq_byteAt hF (xs ((0 : Int32) + 1).toNatClampNeg) 1 (xs ((0 : Int32) + 3).toNatClampNeg)
      refine ⟨g4, ?_⟩
      rw [if_pos (by decide), if_pos k0, a.1, hs_bd_s, if_pos (by decide), if_pos (by decide), if_neg hz]
      unfold jL_law_335
      rw [if_pos (by decide), if_pos k285, a.2, hs_bd_s, if_pos rfl, hE]
  rw [if_neg h5]
  by_cases h6 : (xs (0 : Int32).toNatClampNeg &&& 15) = 6
  · rw [if_pos h6]
    rw [if_pos (by decide), if_pos (by decide)]
    by_cases hz : xs ((0 : Int32) + 2).toNatClampNeg = 0
    · rw [if_pos hz]
      unfold jL_law_367
      have a := pq_handler hF (xs ((0 : Int32) + 1).toNatClampNeg) 0 (xs ((0 : Int32) + 3).toNatClampNeg) (xs ((0 : Int32) + 4).toNatClampNeg)
      refine ⟨g4, ?_⟩
      rw [if_pos (by decide), if_pos (by decide), if_pos k0, a.1, hs_bd_s, if_pos (by decide), if_pos (by decide), if_pos hz]
      unfold jL_law_399
      rw [if_pos (by decide), if_pos (by decide), if_pos k285, a.2, hs_bd_s, if_pos rfl, hE]
    · rw [if_neg hz]
      unfold jL_law_367
      have a := pq_handler hF (xs ((0 : Int32) + 1).toNatClampNeg) 1 (xs ((0 : Int32) + 3).toNatClampNeg) (xs ((0 : Int32) + 4).toNatClampNeg)
      refine ⟨g4, ?_⟩
      rw [if_pos (by decide), if_pos (by decide), if_pos k0, a.1, hs_bd_s, if_pos (by decide), if_pos (by decide), if_neg hz]
      unfold jL_law_399
      rw [if_pos (by decide), if_pos (by decide), if_pos k285, a.2, hs_bd_s, if_pos rfl, hE]
  rw [if_neg h6]
  by_cases h7 : (xs (0 : Int32).toNatClampNeg &&& 15) = 7
  · rw [if_pos h7]
    rw [if_pos (by decide), if_pos (by decide), if_pos (by decide), if_pos k0]
    exact pz_call (pz_same k285 (pq_block hF _ _ _)) hE
  rw [if_neg h7]
  by_cases h8 : (xs (0 : Int32).toNatClampNeg &&& 15) = 8
  · rw [if_pos h8]
    rw [if_pos (by decide), if_pos (by decide), if_pos (by decide), if_pos (by decide), if_pos k0]
    exact pz_call (pz_same k285 (pq_run hF _ _ _ _)) hE
  rw [if_neg h8]
  by_cases h9 : (xs (0 : Int32).toNatClampNeg &&& 15) = 9
  · rw [if_pos h9]
    rw [if_pos k0]
    exact pz_call (pp_two_ok q9) hE
  rw [if_neg h9]
  by_cases h10 : (xs (0 : Int32).toNatClampNeg &&& 15) = 10
  · rw [if_pos h10]
    rw [if_pos k0]
    exact pz_call (pp_two_ok q10) hE
  rw [if_neg h10]
  by_cases h11 : (xs (0 : Int32).toNatClampNeg &&& 15) = 11
  · rw [if_pos h11]
    rw [if_pos k0]
    exact pz_call (pp_two_ok q11) hE
  rw [if_neg h11]
  by_cases h12 : (xs (0 : Int32).toNatClampNeg &&& 15) = 12
  · rw [if_pos h12]
    rw [if_pos (by decide), if_pos (by decide), if_pos k0]
    obtain ⟨r, he⟩ := pq_element hF hA (xs ((0 : Int32) + 1).toNatClampNeg) (xs ((0 : Int32) + 2).toNatClampNeg)
    exact pz_call (pz_same k285 he) hE
  rw [if_neg h12]
  by_cases h13 : (xs (0 : Int32).toNatClampNeg &&& 15) = 13
  · rw [if_pos h13]
    rw [if_pos k0]
    exact pz_call (pp_two_ok q13) hE
  rw [if_neg h13]
  by_cases h14 : (xs (0 : Int32).toNatClampNeg &&& 15) = 14
  · rw [if_pos h14]
    rw [if_pos k0]
    obtain ⟨g5, g6, a, b, c⟩ := pp_clr_ok q14
    exact ⟨g6, by rw [a, hs_bv_s, if_pos b, c, hs_bv_s, hE]⟩
  rw [if_neg h14]
  exact ⟨g4, hE g4⟩
set_option maxRecDepth 100000 in
theorem law_pure {xs : Nat → Int32} {L : Nat} (hL : L ≤ 5) : ∃ g : hs_S, fL_law xs L hs_0 = some (1, g) := by
  obtain ⟨g1, g4, e1, e2, e3, hF, hA, hC⟩ := pp_facts
  have key : ∃ g5 : hs_S, lL_law_18 xs L (4294967295 + 1) 0 285 0 g4 = some (0, g5) := by
    rcases (show L = 0 ∨ L = 1 ∨ L = 2 ∨ L = 3 ∨ L = 4 ∨ L = 5 by omega) with rfl | rfl | rfl | rfl | rfl | rfl
    · exact ⟨g4, by rw [lL_law_18_s, if_pos (by decide)]⟩
    · exact ⟨g4, by rw [lL_law_18_s, if_pos (by decide)]⟩
    · exact ⟨g4, by rw [lL_law_18_s, if_pos (by decide)]⟩
    · exact ⟨g4, by rw [lL_law_18_s, if_pos (by decide)]⟩
    · exact ⟨g4, by rw [lL_law_18_s, if_pos (by decide)]⟩
    · exact pz_five xs hF hA hC
  obtain ⟨g5, hk⟩ := key
  refine ⟨g5, ?_⟩
  unfold fL_law
  rw [e1, hs_bv_s, e2, hs_bv_s, e3]
  show hs_bd (lL_law_18 xs L (4294967295 + 1) 0 285 0 g4) _ = _
  rw [hk, hs_bd_s, if_pos rfl]
