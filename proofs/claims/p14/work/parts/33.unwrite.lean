/-- one method is unwritten -/
theorem q_u14s {N m all : Nat} {p l n h : Nat → Nat} {c R : Nat → Nat → Nat} {P : Nat → Nat} {g : hm} (y : s_VF N p l n h c R) (hm8 : m < N) (x : s_F g N p l n h c R) (hP : s_Pr g P) (f : Nat) :
    ∃ (e : Nat) (g' : hm) (n' : Nat → Nat) (c' R' : Nat → Nat → Nat), nlX12_unwrite_14 (f + 1) (nI all) (nI m) g = nlX12_unwrite_14 f (nI (all + e)) (nI (m + 1)) g' ∧ e ≤ 2000 ∧ Fr [285, 289, 291, 292, 294, 308, 309, 310, 311] g g' ∧ Fo [31] g g' ∧ s_F g' N p l n' h c' R' ∧ s_VF N p l n' h c' R' := by
  have hN := y.2.1
  obtain ⟨G, M⟩ := x.g y hm8
  have G' := G
  obtain ⟨hm', hn, hh, gn, gh, hC, hR⟩ := G
  have e0 : (0 : Int32) = s_bI false := rfl
  have e0' : (0 : Int32) = nI 0 := rfl
  obtain ⟨q1, l1, F1, b, far, S, hb, hbl, hfar, hLo, hLr, h308, hSb, hr⟩ := q_lay G' M hP false
  have G1 := G'.fr F1 (by decide) (by decide) (by decide) (by decide)
  obtain ⟨q2, l2, F2, O2, V2⟩ := q_put M false hLo.1 hSb G1 (hP.fr F1 (by decide)) hb hfar hLr
  have hc : ∀ k, k < n m → c m k < 256 := fun k hk => (hC k hk).2
  have hpl := s_pl_f P (c m) (n m) b
  obtain ⟨sh1, sh2, sh3⟩ := hLo.short M hc hpl
  have hnB := s_chain_n M.2.2.2.2.1 (n m) 0 (by omega) (by omega) (s_B_0 (c m))
  have hSn := sh3 (n m) hnB (Nat.le_refl _)
  have gh2 : q2 290 m = nI (h m) := by rw [F2 290 (by decide), F1 290 (by decide)]; exact gh
  have hR2 : ∀ i, 4 * 0 ≤ i → i < 4 * h m → q2 291 (32 * m + i) = nI (R m i) := fun i _ hi => by rw [F2 291 (by decide), F1 291 (by decide)]; exact (hR i hi).1
  obtain ⟨q3, l3, F3, V3, W3⟩ := q_u42 (n := n m) hm' hn hh (fun z hz i hi => (M.r3 hz hi).1) (nI (all + S (n m))) (nI (S (n m))) (h m) 0 hs_N q2 (by omega) (by unfold hs_N; omega) gh2 hR2
  obtain ⟨q4, l4, F4, V4, W4⟩ := q_u113 (m := m) (e := S (n m)) hm' (by omega) (nI (all + S (n m))) (S (n m)) 0 hs_N q3 (by omega) (by unfold hs_N; omega)
  have cS : ∀ j, s_B (c m) j → j < n m → S (j + s_sz (c m j)) = S j + s_ln (c m) far j := fun j j1 j2 => by rw [hLo.2.1 j j1 j2, hpl j, Nat.add_zero]
  generalize hg5 : hm_w q4 289 m (nI (S (n m))) = g5
  have F5 : Fr [289] q4 g5 := by rw [← hg5]; exact Fr.rf.w (by decide)
  have A5 : ∀ i, g5 289 i = if i = m then nI (S (n m)) else q4 289 i := fun i => by rw [← hg5, hm_w_at]
  have FA : Fr [285, 289, 291, 292, 294, 308, 309, 310, 311] g g5 := ((((F1.mono (by decide)).trans (F2.mono (by decide))).trans (F3.mono (by decide))).trans (F4.mono (by decide))).trans (F5.mono (by decide))
  have OA : Fo [31] g g5 := ((((Fo.of F1 (by decide)).trans O2).trans (Fo.of F3 (by decide))).trans (Fo.of F4 (by decide))).trans (Fo.of F5 (by decide))
  -- the new code
  have bytes : ∀ j, s_B (c m) j → j < n m → ∀ o, o < s_ln (c m) far j → g5 292 (2001 * m + (S j + o)) = nI (if s_isJ (c m j) = true then s_ej (c m) far S (S j) j o else c m (j + o)) ∧ (if s_isJ (c m j) = true then s_ej (c m) far S (S j) j o else c m (j + o)) < 256 := by
    intro j j1 j2 o ho
    have lt := hLo.lt M.2.2.2.2.1 j1 j2 (show o < s_pl P (c m) (n m) b false j + s_ln (c m) far j by rw [hpl j]; omega)
    refine ⟨?_, ?_⟩
    · rw [F5 292 (by decide), V4 _ (Nat.zero_le _) lt, F3 311 (by decide), V2 j j1 j2 o (by rw [hpl j]; omega), s_em_f]
    · have hok := (M.2.2.2.2.1 j j1 j2).2.1
      by_cases hJ : s_isJ (c m j) = true
      · rw [if_pos hJ]; exact s_ej_b (hc j j2)
      · rw [if_neg hJ]
        rw [s_ln_n hJ] at ho
        exact hc _ (by omega)
  have hcm : s_C g5 292 (2001 * m) (S (n m)) (fun i => (g5 292 (2001 * m + i)).toNatClampNeg) ∧ s_nw (c m) (n m) far S (fun i => (g5 292 (2001 * m + i)).toNatClampNeg) := by
    refine ⟨fun k hk => ?_, fun j j1 j2 o ho => ?_⟩
    · obtain ⟨j, o, j1, j2, j3, rfl⟩ := s_cover M.2.2.2.2.1 cS (n m) 0 k (by omega) (s_B_0 _) (by omega) (by rw [hLo.1]; omega) hk
      obtain ⟨v1, v2⟩ := bytes j j1 j2 o j3
      show g5 292 (2001 * m + (S j + o)) = nI (g5 292 (2001 * m + (S j + o))).toNatClampNeg ∧ (g5 292 (2001 * m + (S j + o))).toNatClampNeg < 256
      rw [v1, cl (by omega)]
      exact ⟨rfl, v2⟩
    · obtain ⟨v1, v2⟩ := bytes j j1 j2 o ho
      show (g5 292 (2001 * m + (S j + o))).toNatClampNeg = _
      rw [v1, cl (by omega)]
  generalize hcn : (fun i => (g5 292 (2001 * m + i)).toNatClampNeg) = cn at hcm
  have u := hLo.u M hc hpl hcm.2
  -- the new rows
  have hRn : ∀ q, q < h m → (∀ i, i < 3 → (if (4 * q + i) % 4 = 3 then R m (4 * q + i) else S (R m (4 * q + i))) = S (R m (4 * q + i))) ∧ (if (4 * q + 3) % 4 = 3 then R m (4 * q + 3) else S (R m (4 * q + 3))) = R m (4 * q + 3) := by
    intro q _
    refine ⟨fun i hi => ?_, ?_⟩
    · rw [if_neg (by omega)]
    · rw [if_pos (by omega)]
  have hRw : s_Rw g5 291 (32 * m) (h m) (fun i => if i % 4 = 3 then R m i else S (R m i)) := by
    intro i hi
    show g5 291 (32 * m + i) = nI (if i % 4 = 3 then R m i else S (R m i)) ∧ (if i % 4 = 3 then R m i else S (R m i)) < 65536
    obtain ⟨z1, z2⟩ := V3 (i / 4) (Nat.zero_le _) (by omega)
    rw [F5 291 (by decide), F4 291 (by decide)]
    by_cases e : i % 4 = 3
    · rw [if_pos e]
      have e2 : i = 4 * (i / 4) + 3 := by omega
      rw [← e2] at z2
      exact ⟨z2, (hR i hi).2⟩
    · rw [if_neg e]
      have e2 : i = 4 * (i / 4) + i % 4 := by omega
      have z3 := z1 (i % 4) (by omega)
      obtain ⟨r1, r2⟩ := M.r3 (z := i / 4) (by omega) (show i % 4 < 3 by omega)
      rw [← e2] at z3 r1 r2
      rw [z3, F2 308 (by decide)]
      have s3 := sh3 _ r2 r1
      refine ⟨?_, by omega⟩
      by_cases en : R m i = n m
      · rw [en]; exact h308
      · exact (hLr _ r2 (Nat.zero_le _) (by omega)).1
  refine ⟨S (n m), g5, s_up n m (S (n m)), s_up c m cn, s_up R m (fun i => if i % 4 = 3 then R m i else S (R m i)), ?_, by omega, FA, OA, ⟨by rw [OA 4 (by decide)]; exact x.1, fun z hz => ?_⟩, y.1, hN, fun z hz => ?_⟩
  · rw [nlX12_unwrite_14, x.1, if_neg (fun q => absurd ((lei (by omega) (by omega)).mp q) (by omega)), e0, l1, hm_bd_s, l2, hm_bv_s, hr, nI_add, show s_bI false = nI 0 from rfl, l3, hm_bv_s, l4, hm_bv_s, if_pos (hin hm' (by decide)), nI_1, cl (show m < 2147483648 by omega), hg5]
  · obtain ⟨w1, w2, w3, w4, w5, w6⟩ := x.2 z hz
    refine ⟨by rw [FA 287 (by decide)]; exact w1, by rw [FA 288 (by decide)]; exact w2, ?_, by rw [FA 290 (by decide)]; exact w4, ?_, ?_⟩
    · rw [A5]
      by_cases ez : z = m
      · rw [if_pos ez, ez, s_up_e]
      · rw [if_neg ez, s_up_n _ _ ez, F4 289 (by decide), F3 289 (by decide), F2 289 (by decide), F1 289 (by decide)]
        exact w3
    · by_cases ez : z = m
      · rw [ez, s_up_e, s_up_e]
        exact hcm.1
      · rw [s_up_n _ _ ez, s_up_n _ _ ez]
        have hnz := (x.g y hz).1.2.1
        intro k hk
        rw [F5 292 (by decide), W4 _ (by rcases Nat.lt_or_gt_of_ne ez with q | q <;> omega), F3 292 (by decide), F2 292 (by decide), F1 292 (by decide)]
        exact w5 k hk
    · by_cases ez : z = m
      · rw [ez, s_up_e]
        exact hRw
      · rw [s_up_n _ _ ez]
        have hhz := (x.g y hz).1.2.2.1
        intro i hi
        rw [F5 291 (by decide), F4 291 (by decide), W3 _ (by rcases Nat.lt_or_gt_of_ne ez with q | q <;> omega), F2 291 (by decide), F1 291 (by decide)]
        exact w6 i hi
  · obtain ⟨v1, v2, v3, v4, v5⟩ := y.2.2 z hz
    by_cases ez : z = m
    · subst ez
      refine ⟨v1, v2, v3, ?_, ?_⟩
      · rw [s_up_e, s_up_e, s_up_e]
        exact u.mt hRn
      · rw [s_up_e, s_up_e, s_up_e]
        exact u.dok hRn v5
    · refine ⟨v1, v2, v3, ?_, ?_⟩
      · rw [s_up_n _ _ ez, s_up_n _ _ ez, s_up_n _ _ ez]; exact v4
      · rw [s_up_n _ _ ez, s_up_n _ _ ez, s_up_n _ _ ez]; exact v5
theorem q_u14 {N : Nat} {p l h : Nat → Nat} {P : Nat → Nat} : ∀ (d m f all : Nat) (n : Nat → Nat) (c R : Nat → Nat → Nat) (g : hm), m + d = N → d < f → s_F g N p l n h c R → s_VF N p l n h c R → s_Pr g P →
    Tq (nlX12_unwrite_14 f (nI all) (nI m) g) (fun q => Fr [285, 289, 291, 292, 294, 308, 309, 310, 311] g q.2 ∧ Fo [31] g q.2 ∧ ∃ (n' : Nat → Nat) (c' R' : Nat → Nat → Nat), s_F q.2 N p l n' h c' R' ∧ s_VF N p l n' h c' R')
  | d, m, 0, all, n, c, R, g, _, hf => absurd hf (Nat.not_lt_zero _)
  | 0, m, f + 1, all, n, c, R, g, hm0, _ => by
    intro x y _
    have hN := y.2.1
    rw [nlX12_unwrite_14, x.1, if_pos ((lei (by omega) (by omega)).mpr (by omega))]
    exact Tq.some ⟨Fr.rf, Fo.rf, n, c, R, x, y⟩
  | d + 1, m, f + 1, all, n, c, R, g, hm0, hf => by
    intro x y hP
    obtain ⟨e, g', n', c', R', e1, e2, F, O, x', y'⟩ := q_u14s (all := all) y (show m < N by omega) x hP f
    rw [e1]
    refine (q_u14 (P := P) d (m + 1) f (all + e) n' c' R' g' (by omega) (by omega) x' y' (hP.fr F (by decide))).mono fun q hq => ⟨F.trans hq.1, O.trans hq.2.1, hq.2.2⟩
/-- unwrite() -/
theorem q_unwrite {g : hm} {N : Nat} {p l n h : Nat → Nat} {c R : Nat → Nat → Nat} {P : Nat → Nat} (hV : ¬ g 285 22 = 0 → s_F g N p l n h c R ∧ s_VF N p l n h c R) (hP : s_Pr g P) :
    Tq (nX12_unwrite g) (fun q => Fr [285, 289, 291, 292, 294, 308, 309, 310, 311] g q.2 ∧ Fo [31] g q.2 ∧ ((g 285 22 = 0 ∧ q = (-2, g)) ∨ (¬ g 285 22 = 0 ∧ ∃ (n' : Nat → Nat) (c' R' : Nat → Nat → Nat), s_F q.2 N p l n' h c' R' ∧ s_VF N p l n' h c' R'))) := by
  unfold nX12_unwrite
  by_cases c0 : g 285 22 = 0
  · rw [if_pos c0]
    exact Tq.some ⟨Fr.rf, Fo.rf, Or.inl ⟨c0, rfl⟩⟩
  obtain ⟨x, y⟩ := hV c0
  have hN := y.2.1
  have e0 : (0 : Int32) = nI 0 := rfl
  rw [if_neg c0, e0]
  refine Tq.bd ((q_u14 (P := P) N 0 hs_N 0 n c R g (by omega) (by unfold hs_N; omega) x y hP).mono fun q hq => ?_)
  exact Tq.some ⟨hq.1, hq.2.1, Or.inr ⟨c0, hq.2.2⟩⟩
