theorem pp_facts : ∃ g1 g4 : hs_S, fX11_init hs_0.1 (hs_new hs_0 9 0) = some g1 ∧ fX12_init g1.1 (hs_new g1 10 0) = some g4 ∧ g1.1 = 285 ∧ pp_F g4 = true ∧ pp_A g4 = true ∧ pp_C g4 = true := by
  have h := pp_run
  unfold pp_all pp_st at h
  generalize fX11_init hs_0.1 (hs_new hs_0 9 0) = x1 at h ⊢
  cases x1 with
  | none => cases h
  | some g1 =>
    rw [hs_bv_s] at h
    generalize hx2 : fX12_init g1.1 (hs_new g1 10 0) = x2 at h
    cases x2 with
    | none => cases h
    | some g4 =>
      rw [hs_bv_s] at h
      simp only [Bool.and_eq_true, decide_eq_true_eq] at h
      exact ⟨g1, g4, rfl, hx2, h.1.1.1, h.1.1.2, h.1.2, h.2⟩
theorem pq_told {g : hs_S} (hF : pp_F g = true) (m w k : Int32) : fX11_told 0 m w k g = some (-2, g) ∧ fX12_told 285 m w k g = some (-2, g) := by
  simp only [pp_F, Bool.and_eq_true, decide_eq_true_eq] at hF
  obtain ⟨⟨⟨⟨⟨⟨⟨⟨⟨⟨⟨⟨⟨⟨⟨⟨⟨⟨⟨⟨⟨⟨⟨⟨⟨⟨⟨⟨⟨⟨⟨⟨⟨⟨⟨⟨⟨k0, r00⟩, r01⟩, r03⟩, r04⟩, r07⟩, k1⟩, k23⟩, k67⟩, u1⟩, c23⟩, c67⟩, row1⟩, k6⟩, l6⟩, k89⟩, r89⟩, k90⟩, l90⟩, k100⟩, r100⟩, k102⟩, r102⟩, k103⟩, l103⟩, k285⟩, tp⟩, hf_⟩, rw_⟩, rt⟩, k286⟩, l286⟩, rp⟩, k312⟩, l312⟩, rs⟩, k313⟩, l313⟩ := hF
  constructor
  · unfold fX11_told jX11_told_15
    simp [k0, r01, r03, k23, k67, c23, c67]
  · unfold fX12_told
    simp [k285, hf_, rw_]
theorem pq_byteAt {g : hs_S} (hF : pp_F g = true) (m w k : Int32) : fX11_byteAt 0 m w k g = some (-2, g) ∧ fX12_byteAt 285 m w k g = some (-2, g) := by
  simp only [pp_F, Bool.and_eq_true, decide_eq_true_eq] at hF
  obtain ⟨⟨⟨⟨⟨⟨⟨⟨⟨⟨⟨⟨⟨⟨⟨⟨⟨⟨⟨⟨⟨⟨⟨⟨⟨⟨⟨⟨⟨⟨⟨⟨⟨⟨⟨⟨⟨k0, r00⟩, r01⟩, r03⟩, r04⟩, r07⟩, k1⟩, k23⟩, k67⟩, u1⟩, c23⟩, c67⟩, row1⟩, k6⟩, l6⟩, k89⟩, r89⟩, k90⟩, l90⟩, k100⟩, r100⟩, k102⟩, r102⟩, k103⟩, l103⟩, k285⟩, tp⟩, hf_⟩, rw_⟩, rt⟩, k286⟩, l286⟩, rp⟩, k312⟩, l312⟩, rs⟩, k313⟩, l313⟩ := hF
  constructor
  · unfold fX11_byteAt jX11_byteAt_15
    simp [k0, r01, r03, k23, k67, c23, c67]
  · unfold fX12_byteAt
    simp [k285, hf_, rw_]
theorem pq_handler {g : hs_S} (hF : pp_F g = true) (m w k j : Int32) : fX11_handler 0 m w k j g = some (-2, g) ∧ fX12_handler 285 m w k j g = some (-2, g) := by
  simp only [pp_F, Bool.and_eq_true, decide_eq_true_eq] at hF
  obtain ⟨⟨⟨⟨⟨⟨⟨⟨⟨⟨⟨⟨⟨⟨⟨⟨⟨⟨⟨⟨⟨⟨⟨⟨⟨⟨⟨⟨⟨⟨⟨⟨⟨⟨⟨⟨⟨k0, r00⟩, r01⟩, r03⟩, r04⟩, r07⟩, k1⟩, k23⟩, k67⟩, u1⟩, c23⟩, c67⟩, row1⟩, k6⟩, l6⟩, k89⟩, r89⟩, k90⟩, l90⟩, k100⟩, r100⟩, k102⟩, r102⟩, k103⟩, l103⟩, k285⟩, tp⟩, hf_⟩, rw_⟩, rt⟩, k286⟩, l286⟩, rp⟩, k312⟩, l312⟩, rs⟩, k313⟩, l313⟩ := hF
  constructor
  · unfold fX11_handler jX11_handler_15
    simp [k0, r01, r03, k23, k67, c23, c67]
  · unfold fX12_handler
    simp [k285, hf_, rw_]
theorem pq_block {g : hs_S} (hF : pp_F g = true) (m k j : Int32) : fX11_block 0 m k j g = some (-2, g) ∧ fX12_block 285 m k j g = some (-2, g) := by
  simp only [pp_F, Bool.and_eq_true, decide_eq_true_eq] at hF
  obtain ⟨⟨⟨⟨⟨⟨⟨⟨⟨⟨⟨⟨⟨⟨⟨⟨⟨⟨⟨⟨⟨⟨⟨⟨⟨⟨⟨⟨⟨⟨⟨⟨⟨⟨⟨⟨⟨k0, r00⟩, r01⟩, r03⟩, r04⟩, r07⟩, k1⟩, k23⟩, k67⟩, u1⟩, c23⟩, c67⟩, row1⟩, k6⟩, l6⟩, k89⟩, r89⟩, k90⟩, l90⟩, k100⟩, r100⟩, k102⟩, r102⟩, k103⟩, l103⟩, k285⟩, tp⟩, hf_⟩, rw_⟩, rt⟩, k286⟩, l286⟩, rp⟩, k312⟩, l312⟩, rs⟩, k313⟩, l313⟩ := hF
  constructor
  · unfold fX11_block
    simp [k0, r01, k23, c23]
  · unfold fX12_block
    simp [k285, hf_]
theorem pq_run {g : hs_S} (hF : pp_F g = true) (m x y z : Int32) : fX11_run 0 m x y z g = some (-2, g) ∧ fX12_run 285 m x y z g = some (-2, g) := by
  simp only [pp_F, Bool.and_eq_true, decide_eq_true_eq] at hF
  obtain ⟨⟨⟨⟨⟨⟨⟨⟨⟨⟨⟨⟨⟨⟨⟨⟨⟨⟨⟨⟨⟨⟨⟨⟨⟨⟨⟨⟨⟨⟨⟨⟨⟨⟨⟨⟨⟨k0, r00⟩, r01⟩, r03⟩, r04⟩, r07⟩, k1⟩, k23⟩, k67⟩, u1⟩, c23⟩, c67⟩, row1⟩, k6⟩, l6⟩, k89⟩, r89⟩, k90⟩, l90⟩, k100⟩, r100⟩, k102⟩, r102⟩, k103⟩, l103⟩, k285⟩, tp⟩, hf_⟩, rw_⟩, rt⟩, k286⟩, l286⟩, rp⟩, k312⟩, l312⟩, rs⟩, k313⟩, l313⟩ := hF
  constructor
  · unfold fX11_run
    simp [k0, r03, k67, c67]
  · unfold fX12_run
    simp [k285, rw_]
theorem pq_range {k : Int32} (h : ¬ k < 0) (h2 : ¬ (255 : Int32) < k) : ∃ j : Nat, j < 256 ∧ k = nI j := by
  obtain ⟨j, hj, e⟩ := nI_of h
  refine ⟨j, ?_, e⟩
  rcases Nat.lt_or_ge j 256 with q | q
  · exact q
  · exact absurd (by rw [e]; exact nI_lt (a := 255) (by omega) hj) h2
theorem pq_r4 {k : Int32} (h : ¬ k < 0) (h2 : k < (4 : Int32)) : ∃ j : Nat, j < 4 ∧ k = nI j := by
  obtain ⟨j, hj, e⟩ := nI_of h
  refine ⟨j, ?_, e⟩
  rcases Nat.lt_or_ge j 4 with q | q
  · exact q
  · exact absurd h2 (by rw [e]; exact nI_nlt (b := 4) q hj)
theorem pq_at {g : hs_S} {a n j : Nat} (hk : hs_kd g a = 100) (hn : hs_ln g a = n) (hj : j < n) (hn2 : n < 2 ^ 31) : fX9_at a (nI j) g = some (hs_I g a j, g) := by
  unfold fX9_at
  rw [if_neg (nI_pos (by omega)), if_pos hk, if_neg (by rw [hn]; exact nI_ge (a := j) (b := n) hj hn2), if_pos (by rw [hn]; exact hs_in_nI hj (by omega)), nI_clamp (by omega)]
theorem pq_put {g : hs_S} {a n j : Nat} {v : Int32} (hk : hs_kd g a = 100) (hn : hs_ln g a = n) (hj : j < n) (hn2 : n < 2 ^ 31) : fX9_put a (nI j) v g = some (hs_wI g a j v) := by
  unfold fX9_put
  rw [if_neg (nI_pos (by omega)), if_pos hk, if_neg (by rw [hn]; exact nI_ge (a := j) (b := n) hj hn2), if_pos (by rw [hn]; exact hs_in_nI hj (by omega)), nI_clamp (by omega)]
theorem pq_element {g : hs_S} (hF : pp_F g = true) (hA : pp_A g = true) (a i : Int32) : ∃ r : Int32, fX11_element 0 a i g = some (r, g) ∧ fX12_element 285 a i g = some (r, g) := by
  simp only [pp_F, Bool.and_eq_true, decide_eq_true_eq] at hF
  obtain ⟨⟨⟨⟨⟨⟨⟨⟨⟨⟨⟨⟨⟨⟨⟨⟨⟨⟨⟨⟨⟨⟨⟨⟨⟨⟨⟨⟨⟨⟨⟨⟨⟨⟨⟨⟨⟨k0, r00⟩, r01⟩, r03⟩, r04⟩, r07⟩, k1⟩, k23⟩, k67⟩, u1⟩, c23⟩, c67⟩, row1⟩, k6⟩, l6⟩, k89⟩, r89⟩, k90⟩, l90⟩, k100⟩, r100⟩, k102⟩, r102⟩, k103⟩, l103⟩, k285⟩, tp⟩, hf_⟩, rw_⟩, rt⟩, k286⟩, l286⟩, rp⟩, k312⟩, l312⟩, rs⟩, k313⟩, l313⟩ := hF
  simp only [pp_A, Bool.and_eq_true, List.all_eq_true, List.mem_range, decide_eq_true_eq] at hA
  unfold fX11_element fX12_element
  by_cases h1 : a < 0
  · exact ⟨-3, by rw [if_pos h1], by rw [if_pos h1]⟩
  rw [if_neg h1, if_neg h1]
  by_cases h2 : a < (4 : Int32)
  · obtain ⟨j, hj, e⟩ := pq_r4 h1 h2
    have h3 : a ≤ (3 : Int32) := by rw [e]; exact nI_le (b := 3) (by omega) (by decide)
    have z1 : hs_I g 103 j = 0 := (hA.1 j hj).1
    have z2 : hs_I g 313 j = 0 := (hA.1 j hj).2
    have y1 : fX9_at 103 a g = some (0, g) := by rw [e, pq_at k103 l103 hj (by decide), z1]
    have y2 : hs_in a 4 = true := by rw [e]; exact hs_in_nI hj (by omega)
    have y3 : a.toNatClampNeg = j := by rw [e]; exact nI_clamp (by omega)
    have y4 : fX10_sizeOf 102 a g = some (0, g) := by
      unfold fX10_sizeOf
      simp [k102, r102, y1, hs_bd]
    rw [if_pos h2, if_pos h3]
    by_cases h4 : i = (-1 : Int32)
    · refine ⟨0, ?_, ?_⟩
      · rw [if_pos h4]; simp [k0, r07, k100, r100, k102, y4, hs_bd]
      · rw [if_pos h4]; simp [k285, rs, k313, l313, y2, y3, z2]
    · refine ⟨-1, ?_, ?_⟩
      · rw [if_neg h4]
        have y5 : fX10_has 102 a i g = some (0, g) := by
          unfold fX10_has
          by_cases h5 : i < 0
          · simp [h5]
          · have h6 : (0 : Int32) ≤ i := Int32.not_lt.mp h5
            simp [h5, k102, y4, hs_bd, h6]
        simp [k0, r07, k100, r100, k102, y5, hs_bd]
      · rw [if_neg h4]
        unfold jX12_element_38
        by_cases h5 : i < 0
        · simp [h5]
        · simp [h5, k285, rs, k313, l313, y2, y3, z2]
  · have h3 : ¬ a ≤ (3 : Int32) := fun q => h2 (Int32.lt_of_le_of_lt q (by decide))
    exact ⟨-3, by rw [if_neg h2], by rw [if_neg h3]⟩
theorem pq_two (k : Int32) (g : hs_S) : fX4_isOfTwo k g = (fX4_isOfTwo k hs_0).map (fun q => (q.1, g)) := by
  unfold fX4_isOfTwo
  repeat' split
  all_goals rfl
theorem pq_brn (k : Int32) (g : hs_S) : fX4_isBranch k g = (fX4_isBranch k hs_0).map (fun q => (q.1, g)) := by
  unfold fX4_isBranch
  repeat' split
  all_goals rfl
theorem pq_arr (k : Int32) (g : hs_S) : fX4_isOfArray k g = (fX4_isOfArray k hs_0).map (fun q => (q.1, g)) := by
  unfold fX4_isOfArray jX4_isOfArray_26
  repeat' split
  all_goals rfl
theorem pq_bdm {x : Option (Int32 × hs_S)} {f : Int32 → hs_S → Option (Int32 × hs_S)} {g : hs_S} (h : ∀ r, f r g = (f r hs_0).map (fun q => (q.1, g))) (hx : ∀ r g', x = some (r, g') → g' = hs_0) : hs_bd (x.map (fun q => (q.1, g))) f = (hs_bd x f).map (fun q => (q.1, g)) := by
  cases x with
  | none => rfl
  | some q =>
    have : q.2 = hs_0 := hx q.1 q.2 rfl
    show f q.1 g = (f q.1 q.2).map _
    rw [this]; exact h q.1
