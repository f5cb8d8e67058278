/-! PRICES AND THE TAPE -/
def s_Pr (g : hm) (P : Nat → Nat) : Prop := ∀ k, k < 256 → P k ≤ 1000 ∧ g 312 k = nI (P k)
def s_pok (a b : Int32) (k v : Nat) : Prop := k < 256 ∧ s_isK k = true ∧ v ≤ 1000 ∧ a = nI k ∧ b = nI v
/-- price() -/
theorem q_price (a b : Int32) (g : hm) : Tq (nX12_price a b g) (fun q => ((¬ ∃ k v, s_pok a b k v) ∧ q = (-3, g)) ∨ ∃ k v, s_pok a b k v ∧ q = (g 312 k, hm_w g 312 k (nI v))) := by
  unfold nX12_price
  by_cases c1 : a < 0
  · rw [if_pos c1]
    refine Tq.some (Or.inl ⟨?_, rfl⟩)
    rintro ⟨k, v, h1, h2, h3, h4, h5⟩
    rw [h4] at c1
    exact nI_pos (by omega) c1
  obtain ⟨k, hk, ek⟩ := nI_of c1
  subst ek
  rw [if_neg c1]
  by_cases c2 : (255 : Int32) < nI k
  · rw [if_pos c2]
    refine Tq.some (Or.inl ⟨?_, rfl⟩)
    rintro ⟨k', v, h1, h2, h3, h4, h5⟩
    rw [h4] at c2
    exact absurd ((lti (a := 255) (by decide) (by omega)).mp c2) (by omega)
  rw [if_neg c2]
  have hk2 : k < 256 := by
    refine Classical.byContradiction fun q => c2 ((lti (a := 255) (by decide) (by omega)).mpr (by omega))
  rw [q_isKind hk2, hm_bd_s]
  have ke : ∀ k' v, s_pok (nI k) b k' v → k' = k := fun k' v h => ((eqi (by omega) (by have := h.1; omega)).mp h.2.2.2.1).symm
  by_cases c3 : s_isK k = true
  rotate_left
  · have u : s_bI (s_isK k) = 0 := (s_bI_0 _).mpr (by simpa using c3)
    rw [if_pos u]
    refine Tq.some (Or.inl ⟨?_, rfl⟩)
    rintro ⟨k', v, h⟩
    have e := ke k' v h
    exact c3 (by rw [← e]; exact h.2.1)
  have u : ¬ s_bI (s_isK k) = 0 := by rw [c3]; decide
  rw [if_neg u]
  by_cases c4 : b < 0
  · rw [if_pos c4]
    refine Tq.some (Or.inl ⟨?_, rfl⟩)
    rintro ⟨k', v, h1, h2, h3, h4, h5⟩
    rw [h5] at c4
    exact nI_pos (by omega) c4
  obtain ⟨v, hv, ev⟩ := nI_of c4
  subst ev
  rw [if_neg c4]
  by_cases c5 : nI v ≤ (1000 : Int32)
  rotate_left
  · rw [if_neg c5]
    refine Tq.some (Or.inl ⟨?_, rfl⟩)
    rintro ⟨k', v', h1, h2, h3, h4, h5⟩
    rw [h5] at c5
    exact c5 ((lei (b := 1000) (by omega) (by decide)).mpr h3)
  rw [if_pos c5, if_pos (hin hk2 (by decide)), cl (by omega)]
  exact Tq.some (Or.inr ⟨k, v, ⟨hk2, c3, (lei (b := 1000) (by omega) (by decide)).mp c5, rfl, rfl⟩, rfl⟩)
theorem s_Pr.w {g : hm} {P : Nat → Nat} (h : s_Pr g P) {k v : Nat} (hv : v ≤ 1000) : s_Pr (hm_w g 312 k (nI v)) (fun i => if i = k then v else P i) := by
  intro i hi
  show (if i = k then v else P i) ≤ 1000 ∧ hm_w g 312 k (nI v) 312 i = nI (if i = k then v else P i)
  by_cases e : i = k
  · rw [if_pos e, e, hm_w_eq]; exact ⟨hv, rfl⟩
  · rw [if_neg e, hm_w_o e]; exact h i hi
/-- a byte of the long that is fed -/
def s_bw (w : Int64) (k : Nat) : Int32 := (((w.toUInt64 >>> (((8 : Int32) * nI k).toInt64.toUInt64 &&& Int64.toUInt64 63)).toInt64).toInt32) &&& (255 : Int32)
def s_by (w : Int64) (k : Nat) : Nat := (s_bw w k).toNatClampNeg
theorem s_by_n (w : Int64) (k : Nat) : s_bw w k = nI (s_by w k) ∧ s_by w k < 256 := by
  obtain ⟨j, hj, e⟩ := pk_andE (((w.toUInt64 >>> (((8 : Int32) * nI k).toInt64.toUInt64 &&& Int64.toUInt64 63)).toInt64).toInt32) (m := 255) 8 (by decide)
  have e' : s_bw w k = nI j := e
  have e2 : s_by w k = j := by unfold s_by; rw [e', cl (by omega)]
  rw [e2]
  exact ⟨e', by omega⟩
theorem q_f34 (w : Int64) : ∀ (r f t : Nat) (T : Nat → Nat) (g : hm), r < f → t + r ≤ 6000 → s_T g t T →
    Tq (nlX12_feed_34 f w (nI r - 1) g) (fun q => Fr [285, 286] g q ∧ Fo [2] g q ∧ s_T q (t + r) (fun i => if i < t then T i else s_by w (t + r - 1 - i)))
  | r, 0, t, T, g, hf, _, _ => absurd hf (Nat.not_lt_zero _)
  | 0, f + 1, t, T, g, _, ht, hT => by
    have u : nI 0 - 1 < 0 := by decide
    rw [nlX12_feed_34, if_pos u]
    refine Tq.some ⟨Fr.rf, Fo.rf, hT.1, ht, fun i hi => ?_⟩
    show g 286 i = nI (if i < t then T i else _) ∧ (if i < t then T i else _) < 256
    rw [if_pos (show i < t from hi)]
    exact hT.2.2 i hi
  | r + 1, f + 1, t, T, g, hf, ht, hT => by
    have u : ¬ nI r < 0 := nI_pos (by omega)
    have e1 : nI r + (-1) = nI r - 1 := by rw [Int32.sub_eq_add_neg]
    rw [nI_pred, nlX12_feed_34, if_neg u, hT.1, if_pos (hin (show t < 6000 by omega) (by decide)), cl (by omega)]
    refine Tq.bve rfl ?_
    rw [e1]
    have eb : (((w.toUInt64 >>> (((8 : Int32) * nI r).toInt64.toUInt64 &&& Int64.toUInt64 63)).toInt64).toInt32) &&& (255 : Int32) = nI (s_by w r) := (s_by_n w r).1
    rw [eb]
    generalize hg1 : hm_w g 286 t (nI (s_by w r)) = g1
    have a1 : g1 285 2 = nI t := by rw [← hg1, hm_w_ne (by decide)]; exact hT.1
    have F1 : Fr [285, 286] g g1 := by rw [← hg1]; exact Fr.rf.w (by decide)
    have O1 : Fo [2] g g1 := by rw [← hg1]; exact Fo.rf.wa (by decide)
    have b1 : ∀ i, g1 286 i = if i = t then nI (s_by w r) else g 286 i := by intro i; rw [← hg1, hm_w_at]
    rw [a1, nI_1]
    generalize hg2 : hm_w g1 285 2 (nI (t + 1)) = g2
    have a2 : g2 285 2 = nI (t + 1) := by rw [← hg2, hm_w_eq]
    have F2 : Fr [285, 286] g g2 := by rw [← hg2]; exact F1.w (by decide)
    have O2 : Fo [2] g g2 := by rw [← hg2]; exact O1.w (by decide)
    have b2 : ∀ i, g2 286 i = if i = t then nI (s_by w r) else g 286 i := by intro i; rw [← hg2, hm_w_ne (by decide)]; exact b1 i
    have T2 : s_T g2 (t + 1) (fun i => if i = t then s_by w r else T i) := by
      refine ⟨a2, by omega, fun i hi => ?_⟩
      rw [b2 i]
      by_cases e : i = t
      · rw [if_pos e]
        show _ = nI (if i = t then _ else _) ∧ (if i = t then s_by w r else _) < 256
        rw [if_pos e]
        exact ⟨rfl, (s_by_n w r).2⟩
      · rw [if_neg e]
        show _ = nI (if i = t then _ else _) ∧ (if i = t then _ else T i) < 256
        rw [if_neg e]
        exact hT.2.2 i (by omega)
    refine (q_f34 w r f (t + 1) _ g2 (by omega) (by omega) T2).mono fun q hq => ⟨F2.trans hq.1, O2.trans hq.2.1, ?_⟩
    obtain ⟨x1, x2, x3⟩ := hq.2.2
    refine ⟨by rw [x1]; congr 1; omega, by omega, fun i hi => ?_⟩
    have y := x3 i (by omega)
    have e : (if i < t + 1 then (if i = t then s_by w r else T i) else s_by w (t + 1 + r - 1 - i)) = (if i < t then T i else s_by w (t + (r + 1) - 1 - i)) := by
      by_cases e1 : i < t
      · rw [if_pos (show i < t + 1 by omega), if_neg (show ¬ i = t by omega), if_pos e1]
      · rw [if_neg e1]
        by_cases e2 : i = t
        · rw [if_pos (show i < t + 1 by omega), if_pos e2]; congr 1; omega
        · rw [if_neg (show ¬ i < t + 1 by omega)]; congr 1; omega
    have y' : q 286 i = nI (if i < t + 1 then (if i = t then s_by w r else T i) else s_by w (t + 1 + r - 1 - i)) ∧ (if i < t + 1 then (if i = t then s_by w r else T i) else s_by w (t + 1 + r - 1 - i)) < 256 := y
    rw [e] at y'
    exact y'
/-- feed() -/
theorem q_feed (w : Int64) (a : Int32) {g : hm} {t : Nat} {T : Nat → Nat} (hT : s_T g t T) :
    Tq (nX12_feed w a g) (fun q => ((¬ ∃ r, 1 ≤ r ∧ r ≤ 8 ∧ a = nI r) ∧ q = (-3, g)) ∨ ∃ r, 1 ≤ r ∧ r ≤ 8 ∧ a = nI r ∧ ((6000 < t + r ∧ q = (-4, g)) ∨ (t + r ≤ 6000 ∧ q.1 = nI (t + r) ∧ Fr [285, 286] g q.2 ∧ Fo [2] g q.2 ∧ s_T q.2 (t + r) (fun i => if i < t then T i else s_by w (t + r - 1 - i))))) := by
  have ht := hT.2.1
  unfold nX12_feed
  by_cases c1 : a < (1 : Int32)
  · rw [if_pos c1]
    refine Tq.some (Or.inl ⟨?_, rfl⟩)
    rintro ⟨r, h1, h2, h3⟩
    rw [h3] at c1
    exact absurd ((lti (b := 1) (by omega) (by decide)).mp c1) (by omega)
  have c0 : ¬ a < 0 := fun q => c1 (Int32.lt_trans q (by decide))
  obtain ⟨r, hr, er⟩ := nI_of c0
  subst er
  have hr1 : 1 ≤ r := Classical.byContradiction fun q => c1 ((lti (b := 1) (by omega) (by decide)).mpr (by omega))
  rw [if_neg c1]
  by_cases c2 : nI r ≤ (8 : Int32)
  rotate_left
  · rw [if_neg c2]
    refine Tq.some (Or.inl ⟨?_, rfl⟩)
    rintro ⟨r', h1, h2, h3⟩
    rw [h3] at c2
    exact c2 ((lei (b := 8) (by omega) (by decide)).mpr h2)
  have hr8 : r ≤ 8 := (lei (b := 8) (by omega) (by decide)).mp c2
  rw [if_pos c2, hT.1, nI_add]
  by_cases c3 : t + r ≤ 6000
  rotate_left
  · have u : ¬ nI (t + r) ≤ (6000 : Int32) := fun q => c3 ((lei (b := 6000) (by omega) (by decide)).mp q)
    rw [if_neg u]
    exact Tq.some (Or.inr ⟨r, hr1, hr8, rfl, Or.inl ⟨by omega, rfl⟩⟩)
  have u : nI (t + r) ≤ (6000 : Int32) := (lei (b := 6000) (by omega) (by decide)).mpr c3
  rw [if_pos u]
  refine Tq.bv ((q_f34 w r hs_N t T g (by unfold hs_N; omega) c3 hT).mono fun q hq => ?_)
  exact Tq.some (Or.inr ⟨r, hr1, hr8, rfl, Or.inr ⟨c3, hq.2.2.1, hq⟩⟩)
