/-! TOLD: the two answer alike -/
/-- what the two hold of method m of the set at A, as told() tells it -/
def TF (s : hs_S) (A : Nat) (a2 : Int32) (m : Nat) : Prop :=
  (if a2 = 0 then hs_I s 289 m else hs_I s 305 m) = hs_I s (A + 6 + 2 * m) 3 ∧
  Tq (nX12_countBlocks (nI m) (hs_I s)) (fun q => q.1 = hs_I s (A + 6 + 2 * m) 7 ∧ Fr [294] (hs_I s) q.2) ∧
  hs_I s 290 m = hs_I s (A + 6 + 2 * m) 6 ∧
  (if a2 = 0 then (0 : Int32) else hs_I s 307 m) = hs_I s (A + 6 + 2 * m) 8 ∧
  (∃ v, nX12_longJumps (nI m) a2 (hs_I s) = some (v, hs_I s) ∧ (if a2 = 0 then v - (0 : Int32) else v - hs_I s 307 m) = hs_I s (A + 6 + 2 * m) 9) ∧
  (a2 = 0 → Tq (nX12_deepest (nI m) (hs_I s)) (fun q => q.1 = hs_I s (A + 6 + 2 * m) 10 ∧ Fr [295, 296, 297, 298, 299, 301, 302, 303] (hs_I s) q.2))
theorem v_told {s : hs_S} {A N : Nat} {a2 : Int32} (w : WT s) (hA : isS A) (hR : SF (hs_R s) A) (h4 : hs_I s A 4 = nI N) (N1 : 1 ≤ N) (N8 : N ≤ 8) (g4 : hs_I s 285 4 = nI N) (a1 a3 : Int32) (t : ∀ m, m < N → TF s A a2 m) : ∃ r, jX11_told_15 a1 a2 a3 A s = some (r, s) ∧ Tq (njX12_told_24 a1 a2 a3 (hs_I s)) (fun q => q.1 = r ∧ Fr [294, 295, 296, 297, 298, 299, 301, 302, 303] (hs_I s) q.2) := by
  have hN0 : ¬ hs_I s A 4 = 0 := by rw [h4]; exact n0_ne N1 N8
  have k0 := (sk hA).1
  unfold jX11_told_15 njX12_told_24
  rw [if_pos (w.k k0), if_neg hN0, g4]
  by_cases c1 : a1 < 0
  · exact ⟨-3, by rw [x_has0 c1, hs_bd_s, if_pos (show (0 : Int32) = 0 from rfl)], by rw [if_pos c1]; exact Tq.some ⟨rfl, Fr.rf⟩⟩
  obtain ⟨m, hm0, em⟩ := nI_of c1
  subst em
  rw [if_neg c1]
  by_cases c2 : m < N
  rotate_left
  · exact ⟨-3, by rw [x_has1 w hA h4 N8 hm0 (by omega), hs_bd_s, if_pos (show (0 : Int32) = 0 from rfl)], by rw [if_pos ((lei (by omega) hm0).mpr (by omega))]; exact Tq.some ⟨rfl, Fr.rf⟩⟩
  rw [x_has2 w hA h4 N8 c2, hs_bd_s, if_neg i1_ne, if_neg (fun q => absurd ((lei (by omega) (by omega)).mp q) (by omega)), if_pos (w.k k0), x_mth w hA hR (by omega), hs_bd_s]
  obtain ⟨t0, t1, t2, t3, t4, t5⟩ := t m c2
  have km : hs_kd s (A + 6 + 2 * m) = 6 := w.k ((sk hA).2.2.2.2.2 m (by omega)).1
  have hi : hs_in (nI m) 8 = true := hin (by omega) (by decide)
  have clm : (nI m).toNatClampNeg = m := cl (by omega)
  generalize A + 6 + 2 * m = M at t0 t1 t2 t3 t4 t5 km
  by_cases c3 : a3 < 0
  · have n : ∀ b : Int32, ¬ b < 0 → ¬ a3 = b := fun b hb e => hb (by rw [← e]; exact c3)
    refine ⟨-3, ?_, by rw [if_pos c3]; exact Tq.some ⟨rfl, Fr.rf⟩⟩
    rw [if_neg (n 0 (by decide)), if_neg (n 1 (by decide)), if_neg (n 2 (by decide)), if_neg (n 3 (by decide)), if_neg (n 4 (by decide)), if_neg (n 5 (by decide))]
  obtain ⟨k, hk0, ek⟩ := nI_of c3
  subst ek
  rw [if_neg c3]
  by_cases c4 : k ≤ 5
  rotate_left
  · have n : ∀ b : Nat, b ≤ 5 → ¬ nI k = nI b := fun b hb e => by
      have := (eqi hk0 (by omega)).mp e
      omega
    have u5 : ¬ nI k ≤ (5 : Int32) := fun q => c4 ((lei (b := 5) hk0 (by decide)).mp q)
    refine ⟨-3, ?_, by rw [if_neg u5]; exact Tq.some ⟨rfl, Fr.rf⟩⟩
    have n0 : ¬ nI k = (0 : Int32) := n 0 (by decide)
    have n1 : ¬ nI k = (1 : Int32) := n 1 (by decide)
    have n2 : ¬ nI k = (2 : Int32) := n 2 (by decide)
    have n3 : ¬ nI k = (3 : Int32) := n 3 (by decide)
    have n4 : ¬ nI k = (4 : Int32) := n 4 (by decide)
    have n5 : ¬ nI k = (5 : Int32) := n 5 (by decide)
    rw [if_neg n0, if_neg n1, if_neg n2, if_neg n3, if_neg n4, if_neg n5]
  have u5 : nI k ≤ (5 : Int32) := (lei (b := 5) hk0 (by decide)).mpr c4
  rw [if_pos u5]
  obtain e | e | e | e | e | e : k = 0 ∨ k = 1 ∨ k = 2 ∨ k = 3 ∨ k = 4 ∨ k = 5 := by omega
  · subst e
    have z : nI 0 = (0 : Int32) := rfl
    rw [if_pos z, if_pos z, if_pos km]
    refine ⟨_, rfl, ?_⟩
    rw [if_pos hi, if_pos hi, clm]
    by_cases ca : a2 = 0
    · rw [if_pos ca]
      rw [if_pos ca] at t0
      exact Tq.some ⟨t0, Fr.rf⟩
    · rw [if_neg ca]
      rw [if_neg ca] at t0
      exact Tq.some ⟨t0, Fr.rf⟩
  · subst e
    have z0 : ¬ nI 1 = (0 : Int32) := by decide
    have z : nI 1 = (1 : Int32) := rfl
    rw [if_neg z0, if_neg z0, if_pos z, if_pos z, if_pos km]
    refine ⟨_, rfl, Tq.bd (t1.mono fun q hq => Tq.some ⟨hq.1, Fr.mono hq.2 (by decide)⟩)⟩
  · subst e
    have z0 : ¬ nI 2 = (0 : Int32) := by decide
    have z1 : ¬ nI 2 = (1 : Int32) := by decide
    have z : nI 2 = (2 : Int32) := rfl
    rw [if_neg z0, if_neg z0, if_neg z1, if_neg z1, if_pos z, if_pos z, if_pos km]
    refine ⟨_, rfl, ?_⟩
    rw [if_pos hi, clm]
    exact Tq.some ⟨t2, Fr.rf⟩
  · subst e
    have z0 : ¬ nI 3 = (0 : Int32) := by decide
    have z1 : ¬ nI 3 = (1 : Int32) := by decide
    have z2 : ¬ nI 3 = (2 : Int32) := by decide
    have z : nI 3 = (3 : Int32) := rfl
    rw [if_neg z0, if_neg z0, if_neg z1, if_neg z1, if_neg z2, if_neg z2, if_pos z, if_pos z, if_pos km]
    refine ⟨_, rfl, ?_⟩
    rw [if_pos hi, clm]
    by_cases ca : a2 = 0
    · rw [if_pos ca]
      rw [if_pos ca] at t3
      exact Tq.some ⟨t3, Fr.rf⟩
    · rw [if_neg ca]
      rw [if_neg ca] at t3
      exact Tq.some ⟨t3, Fr.rf⟩
  · subst e
    have z0 : ¬ nI 4 = (0 : Int32) := by decide
    have z1 : ¬ nI 4 = (1 : Int32) := by decide
    have z2 : ¬ nI 4 = (2 : Int32) := by decide
    have z3 : ¬ nI 4 = (3 : Int32) := by decide
    have z : nI 4 = (4 : Int32) := rfl
    rw [if_neg z0, if_neg z0, if_neg z1, if_neg z1, if_neg z2, if_neg z2, if_neg z3, if_neg z3, if_pos z, if_pos z, if_pos km]
    obtain ⟨v, v1, v2⟩ := t4
    refine ⟨_, rfl, ?_⟩
    rw [v1, hm_bd_s, if_pos hi, clm]
    by_cases ca : a2 = 0
    · rw [if_pos ca]
      rw [if_pos ca] at v2
      exact Tq.some ⟨v2, Fr.rf⟩
    · rw [if_neg ca]
      rw [if_neg ca] at v2
      exact Tq.some ⟨v2, Fr.rf⟩
  · subst e
    have z0 : ¬ nI 5 = (0 : Int32) := by decide
    have z1 : ¬ nI 5 = (1 : Int32) := by decide
    have z2 : ¬ nI 5 = (2 : Int32) := by decide
    have z3 : ¬ nI 5 = (3 : Int32) := by decide
    have z4 : ¬ nI 5 = (4 : Int32) := by decide
    have z : nI 5 = (5 : Int32) := rfl
    rw [if_neg z0, if_neg z0, if_neg z1, if_neg z1, if_neg z2, if_neg z2, if_neg z3, if_neg z3, if_neg z4, if_neg z4, if_pos z, if_pos km]
    by_cases ca : a2 = 0
    · rw [if_pos ca, if_pos ca]
      exact ⟨_, rfl, Tq.bd ((t5 ca).mono fun q hq => Tq.some ⟨hq.1, Fr.mono hq.2 (by decide)⟩)⟩
    · rw [if_neg ca, if_neg ca]
      exact ⟨_, rfl, Tq.some ⟨rfl, Fr.rf⟩⟩
/-- how many blocks the FILE's method has -/
theorem tf_count {s : hs_S} {A tu m : Nat} {u : Nat → Nat} (hac : s_AC u tu) (hF : s_Fu (hs_I s) u) (h : cF s A u) (hm0 : m < u 0) : Tq (nX12_countBlocks (nI m) (hs_I s)) (fun q => q.1 = hs_I s (A + 6 + 2 * m) 7 ∧ Fr [294] (hs_I s) q.2) := by
  obtain ⟨G, M⟩ := hF.g hac.v hm0
  obtain ⟨⟨m4, m5, m6, m8, m9, mt, e, v, c1, m7⟩, -⟩ := h.2 m hm0
  refine (q_countBlocks G M).mono fun q hq => ⟨?_, hq.1⟩
  obtain ⟨-, b, -, b2, b3⟩ := hq
  rw [b3, m7]
  exact congrArg nI (t_ct_cg _ (b_uq (fun i hi => b2 i (Nat.le_of_lt hi)) (fun i hi => (c1 i hi).2.2)))
theorem tf_file {s : hs_S} {A tu m : Nat} {u : Nat → Nat} (hac : s_AC u tu) (hF : s_Fu (hs_I s) u) (h : cF s A u) (hm0 : m < u 0) {t : Nat} (gt : hs_I s 285 2 = nI t) (ht : t ≤ 6000) (hv : s_V3 (hs_I s)) : TF s A 0 m := by
  have G := (hF.g hac.v hm0).1
  have M := hac.mt hm0
  obtain ⟨⟨m4, m5, m6, m8, m9, mt, e, v, c1, m7⟩, D, dD, d10⟩ := h.2 m hm0
  obtain ⟨f1, f2, f3, f4, f5, f6⟩ := hF.2 m hm0
  have z : (0 : Int32) = 0 := rfl
  refine ⟨?_, tf_count hac hF h hm0, ?_, ?_, ⟨_, q_longF M G, ?_⟩, fun _ => ?_⟩
  · rw [if_pos z, v.2.2.1]; exact f3
  · rw [m6]; exact f4
  · rw [if_pos z, m8]
  · rw [if_pos z, m9]; exact Int32.sub_zero _
  · refine (q_deepestX hF hac.v hm0 gt ht hv).mono fun q hq => ⟨?_, hq.1⟩
    obtain ⟨-, D', dD', e'⟩ := hq
    rw [e', d10, dD.eq dD']
/-- what the two tell of what is rewritten -/
def LG (s : hs_S) : Prop := ∀ N z, N ≤ 8 → hs_I s 67 4 = nI N → z < N → hs_I s 307 z = hs_I s (73 + 2 * z) 8 ∧ hs_I s (73 + 2 * z) 7 = hs_I s (hs_R s 0 1 - 1 + 6 + 2 * z) 7
theorem tf_written {s : hs_S} {tu m : Nat} {u : Nat → Nat} {a2 : Int32} (ha : ¬ a2 = 0) (hl : LG s) (hS : SF (hs_R s) 67) (hac : s_AC u tu) (hF : s_Fu (hs_I s) u) (h : cF s (hs_R s 0 1 - 1) u) (hW : WA s u) (h22 : ¬ hs_I s 285 22 = 0) (hm0 : m < u 0) : TF s 67 a2 m := by
  obtain ⟨-, -, v3, -, v5, v6, v7⟩ := hW.vw hS hac hF h22
  rcases hW with ⟨x, -⟩ | ⟨-, -, hW⟩
  · exact absurd x h22
  obtain ⟨l1, l2⟩ := hl (u 0) m v5 v3 hm0
  obtain ⟨a, n0, h0, e0, mv0, n1, l0, s6, h8, g6, -, -⟩ := v7 m hm0
  obtain ⟨a', k', n, c, R, P, M, c256, -, -, k4, ak, ⟨e, far, S, x1, x2, x3, x4, w2, w3, w4, w5, w6, w7, w8, w9, -⟩, b, far', S', y1, y2, y3, y4, y5, y6⟩ := hW m hm0
  have hm8 : m < 8 := by omega
  have hb : ∀ i, i < n → eK (e i) = b i := b_uq (fun i hi => (x1 i hi).2.2) (fun i hi => y1 i (by omega))
  obtain ⟨uf, uS⟩ := Lo_uq (fun j _ j2 => s_pl_cg hb true j2) M.2.2.2.2.2.2 x2 y2
  have q8 : lks (fun i => eB (e i)) (lbk c far) n 0 = s_ws c n (lbk c far') n 0 := by
    rw [lks_0 M.2.2.2.2.1 (fun i hi => (x1 i hi).2.1)]
    exact s_ws_cg (fun i hi => by unfold lbk; rw [uf i hi]) n 0
  have q9 : lks (fun i => eB (e i)) (ljk c far) n 0 = s_ws c n (ljk c far') n 0 := by
    rw [lks_0 M.2.2.2.2.1 (fun i hi => (x1 i hi).2.1)]
    exact s_ws_cg (fun i hi => by unfold ljk; rw [uf i hi]) n 0
  have e8 : hs_I s 307 m = nI (s_ws c n (lbk c far') n 0) := by rw [l1, w8, q8]
  refine ⟨?_, ?_, ?_, ?_, ⟨_, q_longW hm8 ha M c256 y2 y3 y4 y5, ?_⟩, fun z => absurd z ha⟩
  · rw [if_neg ha, l0]; exact mv0.2.2.1.symm
  · refine (tf_count hac hF h hm0).mono fun q hq => ⟨?_, hq.2⟩
    rw [hq.1]; exact l2.symm
  · rw [g6]; exact s6.symm
  · rw [if_neg ha]; exact l1
  · have sb : nI (s_ws c n (lbk c far') n 0 + s_ws c n (ljk c far') n 0) - nI (s_ws c n (lbk c far') n 0) = nI (s_ws c n (ljk c far') n 0) := by
      rw [pk_sub (Nat.le_add_right _ _), Nat.add_sub_cancel_left]
    rw [if_neg ha, e8, sb]
    show _ = hs_I s (73 + 2 * m) 9
    rw [w9, q9]
theorem e_told {s : hs_S} (h : AG s) (hl : LG s) (a1 a2 a3 : Int32) : ∃ r, fX11_told 0 a1 a2 a3 s = some (r, s) ∧ Tq (nX12_told a1 a2 a3 (hs_I s)) (fun q => q.1 = r ∧ Fr [294, 295, 296, 297, 298, 299, 301, 302, 303] (hs_I s) q.2) := by
  obtain ⟨hJ, hr, hX, hno, ⟨t, T, hT, tA, tB⟩, hp, hF⟩ := h
  have w := hJ.1
  have f1 := w.f9_1 gk_0
  have f3 := w.f9_3 gk_0
  have i1 : isF (hs_R s 0 1 - 1) := hX.2.2.2.2.2.2.2.2.2 1 (by decide)
  unfold fX11_told nX12_told
  by_cases c : a2 = 0
  · rw [if_pos c, if_pos c, if_pos (w.k gk_0), if_pos f1.1]
    rcases hF with ⟨x1, x2, x3, x4⟩ | ⟨x1, u, tu, x2, x3, x4, x5, x6, x7⟩
    · refine ⟨-2, ?_, by rw [if_pos x1]; exact Tq.some ⟨rfl, Fr.rf⟩⟩
      unfold jX11_told_15
      rw [if_pos (w.k f1.2), if_pos x2]
    · rw [if_neg x1, c]
      exact v_told w i1.s (hX.2.1 _ i1.s) x6.1 x2.2.1 x2.2.2.1 x5.1 a1 a3 fun m hm0 => tf_file x2 x5 x6 hm0 hT.1 hT.2.1 hr.2.2.1
  · have r3 : hs_R s 0 3 - 1 = 67 := by rw [hX.2.2.2.2.2.1]
    rw [if_neg c, if_neg c, if_pos (w.k gk_0), if_pos f3.1, r3]
    have no : hs_I s 285 22 = 0 → hs_I s 67 4 = 0 → ∃ r, jX11_told_15 a1 a2 a3 67 s = some (r, s) ∧ Tq (if hs_I s 285 22 = 0 then some ((-2 : Int32), hs_I s) else njX12_told_24 a1 a2 a3 (hs_I s)) (fun q => q.1 = r ∧ Fr [294, 295, 296, 297, 298, 299, 301, 302, 303] (hs_I s) q.2) := fun y1 y2 => by
      refine ⟨-2, ?_, by rw [if_pos y1]; exact Tq.some ⟨rfl, Fr.rf⟩⟩
      unfold jX11_told_15
      rw [if_pos (w.k (sk isS_67).1), if_pos y2]
    rcases hF with ⟨x1, x2, x3, x4⟩ | ⟨x1, u, tu, x2, x3, x4, x5, x6, x7⟩
    · exact no x3 x4
    by_cases h22 : hs_I s 285 22 = 0
    · rcases x7 with ⟨-, y⟩ | ⟨y, -⟩
      · exact no h22 y
      · exact absurd h22 y
    · rw [if_neg h22]
      have h67 : hs_I s 67 4 = nI (u 0) := by
        rcases x7 with ⟨y, -⟩ | ⟨-, y, -⟩
        · exact absurd y h22
        · exact y
      exact v_told w isS_67 (hX.2.1 _ isS_67) h67 x2.2.1 x2.2.2.1 x5.1 a1 a3 fun m hm0 => tf_written c hl (hX.2.1 _ isS_67) x2 x5 x6 x7 h22 hm0
