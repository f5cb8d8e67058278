/-! BYTEAT AND HANDLER: the two answer alike -/
theorem x_has0 {s : hs_S} {A : Nat} {v : Int32} (h : v < 0) : fX0_has A v s = some (0, s) := by
  unfold fX0_has
  rw [if_pos h]
theorem x_has1 {s : hs_S} {A N m : Nat} (w : WT s) (hA : isS A) (h4 : hs_I s A 4 = nI N) (hN : N ≤ 8) (hm0 : m < 2147483648) (h : N ≤ m) : fX0_has A (nI m) s = some (0, s) := by
  unfold fX0_has
  rw [if_neg (nI_pos hm0), if_pos (w.k (sk hA).1), h4, if_pos ((lei (by omega) hm0).mpr h)]
theorem x_has2 {s : hs_S} {A N m : Nat} (w : WT s) (hA : isS A) (h4 : hs_I s A 4 = nI N) (hN : N ≤ 8) (h : m < N) : fX0_has A (nI m) s = some (1, s) := by
  unfold fX0_has
  rw [if_neg (nI_pos (by omega)), if_pos (w.k (sk hA).1), h4, if_neg (fun z => absurd ((lei (by omega) (by omega)).mp z) (by omega))]
theorem n0_ne {N : Nat} (h : 1 ≤ N) (h8 : N ≤ 8) : ¬ nI N = 0 := fun z => by
  have := (eqi (a := N) (b := 0) (by omega) (by omega)).mp z
  omega
theorem i1_ne : ¬ (1 : Int32) = 0 := by decide
theorem v_byte {s : hs_S} {A L T Y o N : Nat} (w : WT s) (v : VW s A L T Y o N) (a1 a2 a3 : Int32) (hc : (a2 = 0 ∧ L = 289 ∧ Y = 292 ∧ o = 2001) ∨ (¬ a2 = 0 ∧ L = 305 ∧ Y = 304 ∧ o = 4001)) : ∃ r, jX11_byteAt_15 a1 a3 A s = some (r, s) ∧ njX12_byteAt_24 a1 a2 a3 (hs_I s) = some (r, hs_I s) := by
  obtain ⟨hA, hR, h4, N1, N8, g4, hm⟩ := v
  have hN0 : ¬ hs_I s A 4 = 0 := by rw [h4]; exact n0_ne N1 N8
  have k0 := (sk hA).1
  unfold jX11_byteAt_15 njX12_byteAt_24
  rw [if_pos (w.k k0), if_neg hN0, g4]
  by_cases c1 : a1 < 0
  · exact ⟨-3, by rw [x_has0 c1, hs_bd_s, if_pos (show (0 : Int32) = 0 from rfl)], by rw [if_pos c1]⟩
  obtain ⟨m, hm0, em⟩ := nI_of c1
  subst em
  rw [if_neg c1]
  by_cases c2 : m < N
  rotate_left
  · exact ⟨-3, by rw [x_has1 w hA h4 N8 hm0 (by omega), hs_bd_s, if_pos (show (0 : Int32) = 0 from rfl)], by rw [if_pos ((lei (by omega) hm0).mpr (by omega))]⟩
  rw [x_has2 w hA h4 N8 c2, hs_bd_s, if_neg i1_ne, if_neg (fun q => absurd ((lei (by omega) (by omega)).mp q) (by omega))]
  by_cases c3 : a3 < 0
  · exact ⟨-3, by rw [if_pos c3], by rw [if_pos c3]⟩
  obtain ⟨k, hk0, ek⟩ := nI_of c3
  subst ek
  obtain ⟨a, n, h, e, mv, n1, l1, s6, h8, g6, tb, by1⟩ := hm m c2
  have hi : hs_in (nI m) 8 = true := hin (by omega) (by decide)
  have on : o ≤ 4001 := by rcases hc with ⟨-, -, -, q⟩ | ⟨-, -, -, q⟩ <;> omega
  have cls : ∀ r, (if nI k < nI n then (if hs_kd s A = 0 then hs_bd (fX0_method A (nI m) s) (fun r14 g13 => if hs_kd g13 r14 = 6 then hs_bd (fX7_valueAt r14 (nI k) g13) (fun r18 g17 => some (r18, g17)) else none) else none) else some ((-3 : Int32), s)) = some (r, s) → (if nI k < 0 then some ((-3 : Int32), s) else if hs_kd s A = 0 then hs_bd (fX0_method A (nI m) s) (fun r9 g8 => if hs_kd g8 r9 = 6 then (if nI k < hs_I g8 r9 3 then (if hs_kd g8 A = 0 then hs_bd (fX0_method A (nI m) g8) (fun r14 g13 => if hs_kd g13 r14 = 6 then hs_bd (fX7_valueAt r14 (nI k) g13) (fun r18 g17 => some (r18, g17)) else none) else none) else some ((-3 : Int32), g8)) else none) else none) = some (r, s) := by
    intro r hr
    rw [if_neg c3, if_pos (w.k k0), x_mth w hA hR (by omega), hs_bd_s, if_pos (w.k mv.1), mv.2.2.1]
    exact hr
  by_cases c5 : k < n
  rotate_left
  · have c5' : ¬ nI k < nI n := fun q => absurd ((lti (by omega) (by omega)).mp q) (by omega)
    refine ⟨-3, cls _ (by rw [if_neg c5']), ?_⟩
    rw [if_neg c3, if_pos hi, if_pos hi, cl (show m < 2147483648 by omega)]
    unfold njX12_byteAt_60
    rcases hc with ⟨c4, rfl, rfl, rfl⟩ | ⟨c4, rfl, rfl, rfl⟩
    · rw [if_pos c4, l1, if_neg c5']
    · rw [if_neg c4, l1, if_neg c5']
  · have c5' : nI k < nI n := (lti (by omega) (by omega)).mpr c5
    refine ⟨nI (e k % 256), cls _ ?_, ?_⟩
    · rw [if_pos c5', if_pos (w.k k0), x_mth w hA hR (by omega), hs_bd_s, if_pos (w.k mv.1), x_val w mv hk0, hs_bd_s]
      unfold vE
      rw [if_pos c5]
    · rw [if_neg c3, if_pos hi, if_pos hi, cl (show m < 2147483648 by omega)]
      unfold njX12_byteAt_60
      rcases hc with ⟨c4, rfl, rfl, rfl⟩ | ⟨c4, rfl, rfl, rfl⟩
      · have e3 : (2001 : Int32) * nI m + nI k = nI (2001 * m + k) := ix 2001 m k
        rw [if_pos c4, l1, if_pos c5', if_pos c4]
        unfold nX12_kindAt
        rw [e3, if_pos (hin (show 2001 * m + k < 16008 by omega) (by decide)), cl (show 2001 * m + k < 2147483648 by omega), by1 k c5]
        rfl
      · have e3 : (4001 : Int32) * nI m + nI k = nI (4001 * m + k) := ix 4001 m k
        rw [if_neg c4, l1, if_pos c5', if_neg c4, e3, if_pos (hin (show 4001 * m + k < 32008 by omega) (by decide)), cl (show 4001 * m + k < 2147483648 by omega), by1 k c5]
theorem e_byteAt {s : hs_S} (h : AG s) (a1 a2 a3 : Int32) : ∃ r, fX11_byteAt 0 a1 a2 a3 s = some (r, s) ∧ nX12_byteAt a1 a2 a3 (hs_I s) = some (r, hs_I s) := by
  have w := h.1.1
  have f1 := w.f9_1 gk_0
  have f3 := w.f9_3 gk_0
  unfold fX11_byteAt nX12_byteAt
  by_cases c : a2 = 0
  · rw [if_pos c, if_pos c, if_pos (w.k gk_0), if_pos f1.1]
    rcases h.f with ⟨x1, x2⟩ | ⟨x1, N, x2⟩
    · refine ⟨-2, ?_, by rw [if_pos x1]⟩
      unfold jX11_byteAt_15
      rw [if_pos (w.k f1.2), if_pos x2]
    · rw [if_neg x1]
      exact v_byte w x2 a1 a2 a3 (Or.inl ⟨c, rfl, rfl, rfl⟩)
  · have r3 : hs_R s 0 3 - 1 = 67 := by rw [h.2.2.1.2.2.2.2.2.1]
    rw [if_neg c, if_neg c, if_pos (w.k gk_0), if_pos f3.1, r3]
    rcases h.w with ⟨x1, x2⟩ | ⟨x1, N, x2⟩
    · refine ⟨-2, ?_, by rw [if_pos x1]⟩
      unfold jX11_byteAt_15
      rw [if_pos (w.k (sk isS_67).1), if_pos x2]
    · rw [if_neg x1]
      exact v_byte w x2 a1 a2 a3 (Or.inr ⟨c, rfl, rfl, rfl⟩)
theorem v_hand {s : hs_S} {A L T Y o N : Nat} (w : WT s) (v : VW s A L T Y o N) (a1 a2 a3 a4 : Int32) (hc : (a2 = 0 ∧ T = 291) ∨ (¬ a2 = 0 ∧ T = 306)) : ∃ r, jX11_handler_15 a1 a3 a4 A s = some (r, s) ∧ njX12_handler_24 a1 a2 a3 a4 (hs_I s) = some (r, hs_I s) := by
  obtain ⟨hA, hR, h4, N1, N8, g4, hm⟩ := v
  have hN0 : ¬ hs_I s A 4 = 0 := by rw [h4]; exact n0_ne N1 N8
  have k0 := (sk hA).1
  unfold jX11_handler_15 njX12_handler_24
  rw [if_pos (w.k k0), if_neg hN0, g4]
  by_cases c1 : a1 < 0
  · exact ⟨-3, by rw [x_has0 c1, hs_bd_s, if_pos (show (0 : Int32) = 0 from rfl)], by rw [if_pos c1]⟩
  obtain ⟨m, hm0, em⟩ := nI_of c1
  subst em
  rw [if_neg c1]
  by_cases c2 : m < N
  rotate_left
  · exact ⟨-3, by rw [x_has1 w hA h4 N8 hm0 (by omega), hs_bd_s, if_pos (show (0 : Int32) = 0 from rfl)], by rw [if_pos ((lei (by omega) hm0).mpr (by omega))]⟩
  rw [x_has2 w hA h4 N8 c2, hs_bd_s, if_neg i1_ne, if_neg (fun q => absurd ((lei (by omega) (by omega)).mp q) (by omega))]
  by_cases c3 : a3 < 0
  · exact ⟨-3, by rw [if_pos c3], by rw [if_pos c3]⟩
  obtain ⟨k, hk0, ek⟩ := nI_of c3
  subst ek
  obtain ⟨a, n, h, e, mv, n1, l1, s6, h8, g6, tb, by1⟩ := hm m c2
  have hi : hs_in (nI m) 8 = true := hin (by omega) (by decide)
  rw [if_neg c3, if_neg c3, if_pos (w.k k0), x_mth w hA hR (by omega), hs_bd_s, if_pos (w.k mv.1), s6, if_pos hi, cl (show m < 2147483648 by omega), g6]
  by_cases c5 : k < h
  rotate_left
  · exact ⟨-3, by rw [if_neg (fun q => absurd ((lti (by omega) (by omega)).mp q) (by omega))], by rw [if_pos ((lei (by omega) (by omega)).mpr (by omega))]⟩
  rw [if_pos ((lti (by omega) (by omega)).mpr c5), if_neg (fun q => absurd ((lei (by omega) (by omega)).mp q) (by omega))]
  by_cases c6 : a4 < 0
  · exact ⟨-3, by rw [if_pos c6], by rw [if_pos c6]⟩
  obtain ⟨x, hx0, ex⟩ := nI_of c6
  subst ex
  rw [if_neg c6, if_neg c6]
  by_cases c7 : x ≤ 3
  rotate_left
  · have c7a : ¬ nI x < (4 : Int32) := fun q => absurd ((lti (b := 4) (by omega) (by decide)).mp q) (by omega)
    have c7b : ¬ nI x ≤ (3 : Int32) := fun q => absurd ((lei (b := 3) (by omega) (by decide)).mp q) (by omega)
    exact ⟨-3, by rw [if_neg c7a], by rw [if_neg c7b]⟩
  have c7a : nI x < (4 : Int32) := (lti (b := 4) (by omega) (by decide)).mpr (by omega)
  have c7b : nI x ≤ (3 : Int32) := (lei (b := 3) (by omega) (by decide)).mpr c7
  have d1 : (32 : Int32) * nI m + (4 : Int32) * nI k = nI (32 * m + 4 * k) := by rw [show (32 : Int32) = nI 32 from rfl, show (4 : Int32) = nI 4 from rfl, pk_mul, pk_mul, nI_add]
  have hi2 : hs_in (nI (32 * m + 4 * k + x)) 256 = true := hin (by omega) (by decide)
  obtain ⟨-, -, -, -, -, k6⟩ := sk hA
  obtain ⟨q1, q2, q3⟩ := k6 m (by omega)
  refine ⟨hs_I s (A + 7 + 2 * m) (4 * k + x), ?_, ?_⟩
  · rw [if_pos c7a, if_pos (w.k k0), x_mth w hA hR (by omega), hs_bd_s, if_pos (w.k mv.1), x_hnum (tb := A + 7 + 2 * m) w mv.1 (by rw [(hR.2.2.2.2 m (by omega)).2.2]; omega) q2 q3 (by omega) (by omega), hs_bd_s]
  · rw [if_pos c7b, d1, nI_add, if_pos hi2, if_pos hi2, cl (show 32 * m + 4 * k + x < 2147483648 by omega), tb (4 * k + x) (by omega), ← Nat.add_assoc]
    rcases hc with ⟨c4, rfl⟩ | ⟨c4, rfl⟩
    · rw [if_pos c4]
    · rw [if_neg c4]
theorem e_handler {s : hs_S} (h : AG s) (a1 a2 a3 a4 : Int32) : ∃ r, fX11_handler 0 a1 a2 a3 a4 s = some (r, s) ∧ nX12_handler a1 a2 a3 a4 (hs_I s) = some (r, hs_I s) := by
  have w := h.1.1
  have f1 := w.f9_1 gk_0
  have f3 := w.f9_3 gk_0
  unfold fX11_handler nX12_handler
  by_cases c : a2 = 0
  · rw [if_pos c, if_pos c, if_pos (w.k gk_0), if_pos f1.1]
    rcases h.f with ⟨x1, x2⟩ | ⟨x1, N, x2⟩
    · refine ⟨-2, ?_, by rw [if_pos x1]⟩
      unfold jX11_handler_15
      rw [if_pos (w.k f1.2), if_pos x2]
    · rw [if_neg x1]
      exact v_hand w x2 a1 a2 a3 a4 (Or.inl ⟨c, rfl⟩)
  · have r3 : hs_R s 0 3 - 1 = 67 := by rw [h.2.2.1.2.2.2.2.2.1]
    rw [if_neg c, if_neg c, if_pos (w.k gk_0), if_pos f3.1, r3]
    rcases h.w with ⟨x1, x2⟩ | ⟨x1, N, x2⟩
    · refine ⟨-2, ?_, by rw [if_pos x1]⟩
      unfold jX11_handler_15
      rw [if_pos (w.k (sk isS_67).1), if_pos x2]
    · rw [if_neg x1]
      exact v_hand w x2 a1 a2 a3 a4 (Or.inr ⟨c, rfl⟩)
/-- lifted -/
theorem a_same {s : hs_S} (h : AG s) {x y : Option (Int32 × hs_S)} {n : Option (Int32 × hm)} {r : Int32} (ex : x = some (r, s)) (e : y = hl_d (hs_R s) n) (en : n = some (r, hs_I s)) : x = some (r, s) ∧ Tq y (fun z => AG z.2 ∧ z.1 = r) := by
  refine ⟨ex, (a_rf h e (Q := fun q => q = (r, hs_I s)) ⟨_, en, rfl⟩ fun q hq => by rw [hq]; exact ⟨h.2.1, fun _ _ => rfl, rT.rf⟩).mono fun q hq => ⟨hq.1, congrArg Prod.fst hq.2⟩⟩
theorem a_byteAtC {s : hs_S} (h : AG s) (a1 a2 a3 : Int32) : ∃ r, fX11_byteAt 0 a1 a2 a3 s = some (r, s) ∧ Tq (fX12_byteAt 285 a1 a2 a3 s) (fun z => AG z.2 ∧ z.1 = r) := by
  have e := tX12_byteAt (hs_R s) h.1.2.1 a1 a2 a3 (hs_I s)
  rw [← h.1.1.gm] at e
  obtain ⟨r, e1, e2⟩ := e_byteAt h a1 a2 a3
  exact ⟨r, a_same h e1 e e2⟩
theorem a_handlerC {s : hs_S} (h : AG s) (a1 a2 a3 a4 : Int32) : ∃ r, fX11_handler 0 a1 a2 a3 a4 s = some (r, s) ∧ Tq (fX12_handler 285 a1 a2 a3 a4 s) (fun z => AG z.2 ∧ z.1 = r) := by
  have e := tX12_handler (hs_R s) h.1.2.1 a1 a2 a3 a4 (hs_I s)
  rw [← h.1.1.gm] at e
  obtain ⟨r, e1, e2⟩ := e_handler h a1 a2 a3 a4
  exact ⟨r, a_same h e1 e e2⟩
