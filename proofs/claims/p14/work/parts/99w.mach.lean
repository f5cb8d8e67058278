/-! THE TWO MACHINES: a step, of either -/
theorem s_Cx.Sn {g0 : hm} {N m j t d0 : Nat} {p l n h P S : Nat → Nat} {c R : Nat → Nat → Nat} {b far : Nat → Bool} (hW : s_WB g0 N p l n h c R P) (x : s_Cx g0 N p n h c R P m b far S j t d0) : S j + s_pl P (c m) (n m) b true j + s_ln (c m) far j ≤ S (n m) := by
  obtain ⟨-, -, hl, hM, hD⟩ := hW.2.1.2.2 m x.1
  have h1 := x.2.1.1.2.1 j x.2.2.1 x.2.2.2.1
  have h2 := s_S_le (S := S) (w := fun j => s_pl P (c m) (n m) b true j + s_ln (c m) far j) hM.2.2.2.2.1 (fun j j1 j2 => by rw [x.2.1.1.2.1 j j1 j2, Nat.add_assoc]) (n m) (j + s_sz (c m j)) (by omega) (x.dk hW).2.2.1.2.1 (s_B_next x.2.2.1)
  omega
theorem jK {k : Nat} (h : s_isJ k = true) : s_isK k = true := by
  rcases s_isJ_c h with ⟨h1, h2, h3⟩ | ⟨h1, h2⟩
  · obtain e | e | e | e | e | e : k = 153 ∨ k = 154 ∨ k = 155 ∨ k = 156 ∨ k = 157 ∨ k = 158 := by omega
    all_goals
      rw [e]
      decide
  · rcases h2 with e | e <;> rw [e] <;> decide
theorem TR.jmps {s0 s : hs_S} {g0 g : hm} {N m j t d0 F ln : Nat} {p l n h P S : Nat → Nat} {c R : Nat → Nat → Nat} {b far : Nat → Bool} (h304 : g0 304 = hs_I s0 304) (hW : s_WB g0 N p l n h c R P) (x : s_Cx g0 N p n h c R P m b far S j t d0) (hJ : s_isJ (c m j) = true) (C : CM s0 m ln) (hSn : S j + s_pl P (c m) (n m) b true j + s_ln (c m) far j ≤ ln) : ∃ kd, kd < 256 ∧ kd ≠ 202 ∧ kd ≠ 203 ∧ hs_I s0 304 (4001 * m + (S j + s_pl P (c m) (n m) b true j)) = nI kd ∧ ∀ s1 g1, TR s0 s1 g1 F m (S j + s_pl P (c m) (n m) b true j) d0 → SO s0 (c_rest (105 + 3 * F) (nI kd) s1) (ns_rest (nI kd) g1) F := by
  obtain ⟨o1, o2, o3, o4, o5⟩ := x.dk hW
  have hm8 := x.1
  have hln := s_ln_j (far := far) hJ
  have hS4 := x.S4 hW
  have xt := x.jump hW hJ
  have hSt := (xt.S4 hW).1
  have ht : c m j < 167 → 0 < d0 := by
    intro c1
    have h3 := s_isJ_c hJ
    have h184 : c m j ≠ 184 := by omega
    have h1 := o1.1
    unfold s_tq at h1
    rw [if_neg h184] at h1
    obtain e | e | e | e | e | e : c m j = 153 ∨ c m j = 154 ∨ c m j = 155 ∨ c m j = 156 ∨ c m j = 157 ∨ c m j = 158 := by omega
    all_goals
      rw [e] at h1
      exact h1
  by_cases hf : far j = true
  · rw [if_pos hf] at hln
    by_cases c1 : c m j < 167
    · rw [if_pos c1] at hln
      have h3 := s_isJ_c hJ
      obtain ⟨t1, t2, t3, t4⟩ := s_op_t (k := c m j) (by omega) (by omega)
      have hJ2 : s_isJ (s_op (c m j)) = true := by
        simp only [s_isJ, Bool.or_eq_true, Bool.and_eq_true, decide_eq_true_eq]
        exact Or.inl (Or.inl ⟨t3, t4⟩)
      have y0 := x.mainJ hW hJ (i := 0) (by omega)
      have y1 := x.mainJ hW hJ (i := 1) (by omega)
      unfold s_ej at y0 y1
      rw [if_pos hf, if_pos c1, if_pos rfl, Nat.add_zero, h304] at y0
      rw [if_pos hf, if_pos c1, if_neg (by decide), if_pos rfl, h304] at y1
      have htg : s_tg (s_op (c m j)) (S j + s_pl P (c m) (n m) b true j) 5 0 = ((S j + s_pl P (c m) (n m) b true j + 5 : Nat) : Int) := by
        unfold s_tg
        rw [if_neg (by omega)]
        have : s_s8 5 = 5 := by decide
        omega
      exact ⟨s_op (c m j), by omega, by omega, by omega, y0.1, fun s1 g1 T => T.jmp C hJ2 (jK hJ2) (fun _ => ht c1) (by omega) y0.1 y1.1 (by decide) (fun q => absurd q (by omega)) (by decide) htg⟩
    · rw [if_neg c1] at hln
      have y0 := x.mainJ hW hJ (i := 0) (by omega)
      have y1 := x.mainJ hW hJ (i := 1) (by omega)
      have y2 := x.mainJ hW hJ (i := 2) (by omega)
      unfold s_ej at y0 y1 y2
      rw [if_pos hf, if_neg c1, if_pos rfl, Nat.add_zero, h304] at y0
      rw [if_pos hf, if_neg c1, if_neg (by decide), if_pos rfl, h304] at y1
      rw [if_pos hf, if_neg c1, if_neg (by decide), if_neg (by decide), h304] at y2
      have htg : s_tg 168 (S j + s_pl P (c m) (n m) b true j) (s_hi ((S (s_tgt (c m) j).toNat : Int) - (S j + s_pl P (c m) (n m) b true j : Nat))) (s_lo ((S (s_tgt (c m) j).toNat : Int) - (S j + s_pl P (c m) (n m) b true j : Nat))) = ((S (s_tgt (c m) j).toNat : Nat) : Int) := by
        unfold s_tg
        rw [if_pos rfl, s_hi_s (by omega) (by omega)]
        omega
      exact ⟨168, by decide, by decide, by decide, y0.1, fun s1 g1 T => T.jmp C (by decide) (by decide) (fun q => absurd q (by decide)) (by omega) y0.1 y1.1 (s_hi_b _) (fun _ => ⟨by omega, y2.1⟩) (s_lo_b _) htg⟩
  · rw [if_neg hf] at hln
    have hL := x.2.1.1
    have hft : s_ft (S (s_tgt (c m) j).toNat) (S j + s_pl P (c m) (n m) b true j) = true := by
      by_cases e : s_ft (S (s_tgt (c m) j).toNat) (S j + s_pl P (c m) (n m) b true j) = true
      · exact e
      · exact absurd (hL.2.2.1 j x.2.2.2.1 ⟨x.2.2.1, hJ, by simpa using e⟩) hf
    simp only [s_ft, Bool.and_eq_true, decide_eq_true_eq] at hft
    have y0 := x.mainJ hW hJ (i := 0) (by omega)
    have y1 := x.mainJ hW hJ (i := 1) (by omega)
    unfold s_ej at y0 y1
    rw [if_neg hf, if_pos rfl, Nat.add_zero, h304] at y0
    rw [if_neg hf, if_neg (by decide), h304] at y1
    by_cases c1 : c m j < 167
    · rw [if_pos c1] at y0
      obtain ⟨w1, w2, w3⟩ := s_isJ_256 hJ
      have h3 := s_isJ_c hJ
      have htg : s_tg (c m j) (S j + s_pl P (c m) (n m) b true j) (s_lo ((S (s_tgt (c m) j).toNat : Int) - (S j + s_pl P (c m) (n m) b true j : Nat))) 0 = ((S (s_tgt (c m) j).toNat : Nat) : Int) := by
        unfold s_tg
        rw [if_neg (by omega), s_lo_s (by omega) (by omega)]
        omega
      exact ⟨c m j, w1, w2, w3, y0.1, fun s1 g1 T => T.jmp C hJ (jK hJ) (fun _ => ht c1) (by omega) y0.1 y1.1 (s_lo_b _) (fun q => absurd q (by omega)) (by decide) htg⟩
    · rw [if_neg c1] at y0
      have htg : s_tg 167 (S j + s_pl P (c m) (n m) b true j) (s_lo ((S (s_tgt (c m) j).toNat : Int) - (S j + s_pl P (c m) (n m) b true j : Nat))) 0 = ((S (s_tgt (c m) j).toNat : Nat) : Int) := by
        unfold s_tg
        rw [if_neg (by decide), s_lo_s (by omega) (by omega)]
        omega
      exact ⟨167, by decide, by decide, by decide, y0.1, fun s1 g1 T => T.jmp C (by decide) (by decide) (fun q => absurd q (by decide)) (by omega) y0.1 y1.1 (s_lo_b _) (fun q => absurd q (by decide)) (by decide) htg⟩
/-- the long jump behind a test that is turned -/
theorem TR.jmp4 {s0 : hs_S} {g0 : hm} {N m j t d0 F ln : Nat} {p l n h P S : Nat → Nat} {c R : Nat → Nat → Nat} {b far : Nat → Bool} (h304 : g0 304 = hs_I s0 304) (hW : s_WB g0 N p l n h c R P) (x : s_Cx g0 N p n h c R P m b far S j t d0) (hJ : s_isJ (c m j) = true) (hf : far j = true) (c1 : c m j < 167) (C : CM s0 m ln) (hSn : S j + s_pl P (c m) (n m) b true j + s_ln (c m) far j ≤ ln) : S j + s_pl P (c m) (n m) b true j + 2 < ln ∧ hs_I s0 304 (4001 * m + (S j + s_pl P (c m) (n m) b true j + 2)) = nI 168 ∧ ∀ s1 g1 d, TR s0 s1 g1 F m (S j + s_pl P (c m) (n m) b true j + 2) d → SO s0 (c_rest (105 + 3 * F) (nI 168) s1) (ns_rest (nI 168) g1) F := by
  have hln := s_ln_j (far := far) hJ
  rw [if_pos hf, if_pos c1] at hln
  have hS4 := x.S4 hW
  have xt := x.jump hW hJ
  have hSt := (xt.S4 hW).1
  have y0 := x.mainJ hW hJ (i := 2) (by omega)
  have y1 := x.mainJ hW hJ (i := 3) (by omega)
  have y2 := x.mainJ hW hJ (i := 4) (by omega)
  unfold s_ej at y0 y1 y2
  rw [if_pos hf, if_pos c1, if_neg (by decide), if_neg (by decide), if_pos rfl, h304] at y0
  rw [if_pos hf, if_pos c1, if_neg (by decide), if_neg (by decide), if_neg (by decide), if_pos rfl, h304] at y1
  rw [if_pos hf, if_pos c1, if_neg (by decide), if_neg (by decide), if_neg (by decide), if_neg (by decide), h304] at y2
  have htg : s_tg 168 (S j + s_pl P (c m) (n m) b true j + 2) (s_hi ((S (s_tgt (c m) j).toNat : Int) - (S j + s_pl P (c m) (n m) b true j : Nat) - 2)) (s_lo ((S (s_tgt (c m) j).toNat : Int) - (S j + s_pl P (c m) (n m) b true j : Nat) - 2)) = ((S (s_tgt (c m) j).toNat : Nat) : Int) := by
    unfold s_tg
    rw [if_pos rfl, s_hi_s (by omega) (by omega)]
    omega
  exact ⟨by omega, y0.1, fun s1 g1 d T => T.jmp C (by decide) (by decide) (fun q => absurd q (by decide)) (by omega) y0.1 y1.1 (s_hi_b _) (fun _ => ⟨by omega, y2.1⟩) (s_lo_b _) htg⟩
/-- an instruction that is no jump -/
theorem TR.rest {s0 s : hs_S} {g0 g : hm} {N m j t d0 F ln : Nat} {p l n h P S : Nat → Nat} {c R : Nat → Nat → Nat} {b far : Nat → Bool} (h304 : g0 304 = hs_I s0 304) (h287 : g0 287 = hs_I s0 287) (hW : s_WB g0 N p l n h c R P) (x : s_Cx g0 N p n h c R P m b far S j t d0) (hJ : ¬ s_isJ (c m j) = true) (hS : SF (hs_R s0) 67) (hC : ∀ m, m < N → ∃ ln, CM s0 m ln) (C : CM s0 m ln) (hSn : S j + s_pl P (c m) (n m) b true j + s_ln (c m) far j ≤ ln) (hlow : ∀ G, F = G + 1 → ∃ m' x' d', m' < 8 ∧ g 315 G = nI m' ∧ g 316 G = nI x' ∧ g 317 G = nI d' ∧ d' < 20) (hAz : s_Az g) (T : TR s0 s g F m (S j + s_pl P (c m) (n m) b true j) d0) : SO s0 (c_rest (105 + 3 * F) (nI (c m j)) s) (ns_rest (nI (c m j)) g) F := by
  obtain ⟨o1, o2, o3, o4, o5⟩ := x.dk hW
  have hsz0 := s_isK_sz o3.1
  have y0 := x.main hW hJ (i := 0) (by omega)
  have hk : c m j < 256 := y0.2.2
  rw [s_ln_n hJ] at hSn
  have hm8 := x.1
  have k5 := T.k5
  have tq := o1.1
  have d2 := o1.2.1
  unfold s_d2 at d2
  unfold s_tq at tq d2
  have by1 : 1 < s_sz (c m j) → hs_I s0 304 (4001 * m + (S j + s_pl P (c m) (n m) b true j + 1)) = nI (c m (j + 1)) ∧ c m (j + 1) < 256 := fun q => by
    have y1 := x.main hW hJ (i := 1) q
    rw [h304] at y1
    exact ⟨y1.1, y1.2.2⟩
  rcases s_kinds hk o3.1 hJ with e | e | e | ⟨e, ne⟩
  · -- ends
    rw [e]
    rw [if_neg (by omega), e] at tq
    have tq' : 1 ≤ d0 := tq
    obtain ⟨d', rfl⟩ : ∃ d', d0 = d' + 1 := ⟨d0 - 1, by omega⟩
    obtain ⟨v, s1, e1, e2, q⟩ := T.ends hlow
    have hp : c_rest (105 + 3 * F) (nI 172) s = fX6_leave 100 v s1 := by
      unfold c_rest
      rw [if_neg (by decide), if_pos (by decide), if_pos T.k3, e1, hs_bd_s, if_pos e2, hs_bd_id]
    have hq : ns_rest (nI 172) g = nX12_ends g := by
      unfold ns_rest
      rw [if_pos (by decide), hm_bv_id]
    rw [hp, hq]
    rcases q with ⟨s', g', -, q1, q2, q3, q4, q5, q6⟩ | ⟨s', g', G, m', y, dd, q1, q2, q3⟩
    · exact Or.inr (Or.inr (Or.inl ⟨s', g', q1, q2, q3, q4, q5, q6⟩))
    · exact Or.inl ⟨s', g', G, m', y, dd, q1, q2, q3⟩
  · -- call
    have ho := o3.2.2.2.1 e
    have hs2 : s_sz (c m j) = 2 := by rw [e]; decide
    obtain ⟨b1, -⟩ := by1 (by omega)
    rw [if_pos e] at tq
    obtain ⟨lo, Co⟩ := hC _ ho
    have hpm : hs_I s0 287 (c m (j + 1)) = nI (p (c m (j + 1))) := by rw [← h287]; exact (hW.1 _ ho).1
    rw [e]
    have hp : c_rest (105 + 3 * F) (nI 184) s = fX6_call 100 (105 + 3 * F) s := by
      unfold c_rest
      rw [if_pos (by decide), hs_bd_id]
    have hq : ns_rest (nI 184) g = nX12_calls g := by
      unfold ns_rest
      rw [if_neg (by decide), if_pos (by decide), hm_bv_id]
    rw [hp, hq]
    rcases T.call hS C Co (by omega) (by omega) b1 hpm tq with ⟨-, q1, q2⟩ | ⟨s', g', q1, q2, q3⟩
    · exact T.stop q1 q2
    · exact Or.inl ⟨s', g', F + 1, c m (j + 1), 0, 0, q1, q2, q3⟩
  · -- arrays
    rw [rest_a e]
    have n1 : c m j ≠ 184 := by omega
    have n2 : c m j ≠ 172 := by omega
    rw [if_neg n1] at tq d2
    by_cases c191 : c m j = 191
    · refine TH1.so hk hJ n1 n2 k5 ?_
      rw [c191]
      exact T.a191
    have ha4 : c m (j + 1) < 4 := o3.2.2.2.2 (by omega)
    have hs2 : s_sz (c m j) = 2 := by
      rcases e with e | e | e | e | e
      all_goals
        first
        | (rw [e]; decide)
        | exact absurd e c191
    obtain ⟨b1, -⟩ := by1 (by omega)
    obtain ⟨z, hz, hg⟩ := hAz _ ha4
    rcases e with e | e | e | e | e
    · rw [e] at tq d2 ⊢
      have tq' : 1 ≤ d0 := tq
      obtain ⟨d', rfl⟩ : ∃ d', d0 = d' + 1 := ⟨d0 - 1, by omega⟩
      rcases T.a188 C (by omega) ha4 b1 with q | q
      · exact OK1.so (by decide) (by decide) (by decide) (by decide) (by decide) k5 q
      · exact TH1.so (by decide) (by decide) (by decide) (by decide) k5 q
    · rw [e] at tq d2 ⊢
      have d2' : d0 - 0 + 1 ≤ 20 := d2
      exact OK1.so (by decide) (by decide) (by decide) (by decide) (by decide) k5 (T.a190 C (by omega) (by omega) ha4 b1)
    · rw [e] at tq d2 ⊢
      have tq' : 1 ≤ d0 := tq
      obtain ⟨d', rfl⟩ : ∃ d', d0 = d' + 1 := ⟨d0 - 1, by omega⟩
      rcases T.a46 C (by omega) ha4 b1 hz hg with q | q
      · exact OK1.so (by decide) (by decide) (by decide) (by decide) (by decide) k5 q
      · exact TH1.so (by decide) (by decide) (by decide) (by decide) k5 q
    · rw [e] at tq d2 ⊢
      have tq' : 2 ≤ d0 := tq
      obtain ⟨d', rfl⟩ : ∃ d', d0 = d' + 1 + 1 := ⟨d0 - 2, by omega⟩
      rcases T.a79 C (by omega) ha4 b1 hz hg with q | q
      · exact OK1.so (by decide) (by decide) (by decide) (by decide) (by decide) k5 q
      · exact TH1.so (by decide) (by decide) (by decide) (by decide) k5 q
    · exact absurd e c191
  · -- plain
    have n172 : c m j ≠ 172 := by
      intro e2
      rw [e2] at e
      revert e
      decide
    have n184 : c m j ≠ 184 := by
      intro e2
      rw [e2] at e
      revert e
      decide
    rw [rest_p hk hJ (by omega)]
    rw [if_neg n184] at tq d2
    rcases e with e | e | e | e | e | e | e | e | ⟨t1, t2, t3, t4, t5, t6, t7, t8, t9, t10, t11⟩
    · rw [e]
      exact OK1.so (by decide) (by decide) (by decide) (by decide) (by decide) k5 (T.p0 C)
    · obtain ⟨b1, b2⟩ := by1 (by rw [e]; decide)
      rw [e] at tq d2 hSn ⊢
      have d2' : d0 - 0 + 1 ≤ 20 := d2
      rw [show s_sz 16 = 2 by decide] at hSn
      exact OK1.so (by decide) (by decide) (by decide) (by decide) (by decide) k5 (T.p16 C (by omega) (by omega) b2 b1)
    · obtain ⟨b1, b2⟩ := by1 (by rw [e]; decide)
      have y2 := x.main hW hJ (i := 2) (by rw [e]; decide)
      rw [h304] at y2
      rw [e] at tq d2 hSn ⊢
      have d2' : d0 - 0 + 1 ≤ 20 := d2
      rw [show s_sz 17 = 3 by decide] at hSn
      exact OK1.so (by decide) (by decide) (by decide) (by decide) (by decide) k5 (T.p17 C (by omega) (by omega) b2 y2.2.2 b1 y2.1)
    · obtain ⟨b1, b2⟩ := by1 (by rw [e]; decide)
      have h20 : c m (j + 1) < 20 := Nat.lt_of_lt_of_le (o3.2.2.1 (Or.inl e)) o4
      rw [e] at tq d2 hSn ⊢
      have d2' : d0 - 0 + 1 ≤ 20 := d2
      rw [show s_sz 21 = 2 by decide] at hSn
      exact OK1.so (by decide) (by decide) (by decide) (by decide) (by decide) k5 (T.p21 C (by omega) (by omega) h20 b1)
    · obtain ⟨b1, b2⟩ := by1 (by rw [e]; decide)
      have h20 : c m (j + 1) < 20 := Nat.lt_of_lt_of_le (o3.2.2.1 (Or.inr e)) o4
      rw [e] at tq d2 hSn ⊢
      have tq' : 1 ≤ d0 := tq
      obtain ⟨d', rfl⟩ : ∃ d', d0 = d' + 1 := ⟨d0 - 1, by omega⟩
      rw [show s_sz 54 = 2 by decide] at hSn
      exact OK1.so (by decide) (by decide) (by decide) (by decide) (by decide) k5 (T.p54 C (by omega) h20 b1)
    · rw [e] at tq d2 ⊢
      have tq' : 1 ≤ d0 := tq
      obtain ⟨d', rfl⟩ : ∃ d', d0 = d' + 1 := ⟨d0 - 1, by omega⟩
      exact OK1.so (by decide) (by decide) (by decide) (by decide) (by decide) k5 T.p87
    · rw [e] at tq d2 ⊢
      have tq' : 1 ≤ d0 := tq
      have d2' : d0 - 1 + 2 ≤ 20 := d2
      obtain ⟨d', rfl⟩ : ∃ d', d0 = d' + 1 := ⟨d0 - 1, by omega⟩
      exact OK1.so (by decide) (by decide) (by decide) (by decide) (by decide) k5 (T.p89 (by omega))
    · rw [e] at tq d2 ⊢
      have tq' : 1 ≤ d0 := tq
      obtain ⟨d', rfl⟩ : ∃ d', d0 = d' + 1 := ⟨d0 - 1, by omega⟩
      exact OK1.so (by decide) (by decide) (by decide) (by decide) (by decide) k5 T.p116
    · have q2 := all_r kinds2 hk
      have hJ2 : s_isJ (c m j) = false := by simpa using hJ
      rw [o3.1, decide_eq_true t1, decide_eq_true t2, hJ2] at q2
      have q3 := of_decide_eq_true (show decide (c m j = 172 ∨ c m j = 184 ∨ c m j = 188 ∨ c m j = 190 ∨ c m j = 46 ∨ c m j = 79 ∨ c m j = 191 ∨ c m j = 0 ∨ c m j = 16 ∨ c m j = 17 ∨ c m j = 21 ∨ c m j = 54 ∨ c m j = 87 ∨ c m j = 89 ∨ c m j = 116 ∨ c m j = 96 ∨ c m j = 100 ∨ c m j = 104 ∨ c m j = 126 ∨ c m j = 128 ∨ c m j = 130 ∨ c m j = 108 ∨ c m j = 112) = true from q2)
      rw [t1] at tq
      obtain ⟨d', rfl⟩ : ∃ d', d0 = d' + 1 + 1 := ⟨d0 - 2, by omega⟩
      have hT : isT (c m j) ∨ c m j = 108 ∨ c m j = 112 := by unfold isT; omega
      have hsz := (isT.c hT).2.1
      rcases hT with q | q
      · have := T.two q
        rw [← hsz] at this
        exact OK1.so hk o3.1 hJ n184 n172 k5 this
      · rcases T.div q with w | w
        · rw [← hsz] at w
          exact OK1.so hk o3.1 hJ n184 n172 k5 w
        · exact TH1.so hk hJ n184 n172 k5 w
