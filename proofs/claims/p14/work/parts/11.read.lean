/-- the tape: t bytes T -/
def s_T (g : hm) (t : Nat) (T : Nat → Nat) : Prop := g 285 2 = nI t ∧ t ≤ 6000 ∧ ∀ i, i < t → g 286 i = nI (T i) ∧ T i < 256
theorem s_T.fr {g g' : hm} {t : Nat} {T : Nat → Nat} (h : s_T g t T) (h1 : g' 285 2 = g 285 2) (h2 : g' 286 = g 286) : s_T g' t T := ⟨by rw [h1]; exact h.1, h.2.1, fun i hi => by rw [h2]; exact h.2.2 i hi⟩
theorem q_one {g : hm} {t a : Nat} {T : Nat → Nat} (h : s_T g t T) (ha : g 285 33 = nI a) (h2 : a < 1000000) : nX12_one g = some ((if a < t then nI (T a) else -1), hm_w g 285 33 (nI (a + 1))) := by
  obtain ⟨e, h3, h4⟩ := h
  unfold nX12_one njX12_one_24
  rw [e, ha, nI_1]
  by_cases c : a < t
  · rw [if_neg (fun q => absurd ((lei (by omega) (by omega)).mp q) (by omega)), if_pos (hin (by omega) (by decide)), cl (by omega), (h4 a c).1, if_pos c]
  · rw [if_pos ((lei (by omega) (by omega)).mpr (by omega)), if_neg c]
theorem q_two {g : hm} {t a : Nat} {T : Nat → Nat} (h : s_T g t T) (ha : g 285 33 = nI a) (h2 : a < 1000000) : nX12_two g = some ((if a + 1 < t then nI (256 * T a + T (a + 1)) else -1), hm_w g 285 33 (nI (a + 2))) := by
  obtain ⟨e, h3, h4⟩ := h
  unfold nX12_two njX12_two_42
  have c1 : nI a + (1 : Int32) = nI (a + 1) := nI_1 a
  have c2 : nI a + (2 : Int32) = nI (a + 2) := nI_add a 2
  rw [e, ha, c1, c2]
  by_cases c : a + 1 < t
  · have c3 : nI (T a) * (256 : Int32) + nI (T (a + 1)) = nI (256 * T a + T (a + 1)) := by rw [show (256 : Int32) = nI 256 from rfl, pk_mul, nI_add, Nat.mul_comm]
    rw [if_neg (fun q => absurd ((lei (by omega) (by omega)).mp q) (by omega)), if_pos (hin (by omega) (by decide)), if_pos (hin (by omega) (by decide)), cl (by omega), cl (by omega), (h4 a (by omega)).1, (h4 (a + 1) c).1, c3, if_pos c]
  · rw [if_pos ((lei (by omega) (by omega)).mpr (by omega)), if_neg c]
/-- the code is read -/
theorem q_r159 {m n t a : Nat} {T : Nat → Nat} (hm8 : m < 8) (hn : n ≤ 2000) (han : a + n ≤ t) (v2 : Int32) : ∀ (d k f : Nat) (g : hm), k + d = n → d < f → s_T g t T → g 285 33 = nI (a + k) →
    Tq (nlX12_readMethod_159 f (nI m) v2 (nI n) (nI k) g) (fun g' => Fr [303, 285] g g' ∧ Fo [33] g g' ∧ g' 285 33 = nI (a + n) ∧ ∀ i, g' 303 i = if 2001 * m + k ≤ i ∧ i < 2001 * m + n then nI (T (a + (i - 2001 * m))) else g 303 i)
  | d, k, 0, g, _, hf => absurd hf (Nat.not_lt_zero _)
  | 0, k, f + 1, g, hk, _ => by
    intro hT ha
    rw [nlX12_readMethod_159_s, if_pos ((lei (by omega) (by omega)).mpr (by omega))]
    exact Tq.some ⟨Fr.rf, Fo.rf, by rw [ha, show a + k = a + n by omega], fun i => by rw [if_neg (by omega)]⟩
  | d + 1, k, f + 1, g, hk, hf => by
    intro hT ha
    have ht := hT.2.1
    have c1 : (2001 : Int32) * nI m + nI k = nI (2001 * m + k) := ix 2001 m k
    rw [nlX12_readMethod_159_s, if_neg (fun q => absurd ((lei (by omega) (by omega)).mp q) (by omega)), q_one hT ha (by omega), hm_bd_s, if_pos (show a + k < t by omega), c1, if_pos (hin (by omega) (by decide)), cl (by omega), nI_1]
    refine (q_r159 hm8 hn han v2 d (k + 1) f _ (by omega) (by omega) (hT.fr ?_ ?_) ?_).mono fun g' h => ⟨((Fr.rf.w (by decide)).w (by decide)).trans h.1, ((Fo.rf.w (by decide)).wa (by decide)).trans h.2.1, h.2.2.1, fun i => ?_⟩
    · rw [hm_w_ne (by decide), hm_w_o (by decide)]
    · rw [hm_w_ne (by decide), hm_w_ne (by decide)]
    · rw [hm_w_ne (by decide), hm_w_eq, show a + k + 1 = a + (k + 1) by omega]
    · rw [h.2.2.2 i, hm_w_at, hm_w_ne (show (303 : Nat) ≠ 285 by decide)]
      by_cases e : i = 2001 * m + k
      · rw [if_neg (by omega), if_pos e, if_pos (by omega), show i - 2001 * m = k by omega]
      · by_cases e2 : 2001 * m + k ≤ i ∧ i < 2001 * m + n
        · rw [if_pos (by omega), if_pos e2]
        · rw [if_neg (by omega), if_neg e, if_neg e2]
/-- the numbers of handlers, as the tape has them from a on: 4 a handler -/
def s_hr (T : Nat → Nat) (a i : Nat) : Nat := if i % 4 = 3 then T (a + 7 * (i / 4) + 6) else 256 * T (a + 7 * (i / 4) + 2 * (i % 4)) + T (a + 7 * (i / 4) + 2 * (i % 4) + 1)
theorem q_r261 {m h t a : Nat} {T : Nat → Nat} (hm8 : m < 8) (hh : h ≤ 8) (hah : a + 7 * h ≤ t) (v2 v5 v7 : Int32) : ∀ (d k f : Nat) (g : hm), k + d = h → d < f → s_T g t T → g 285 33 = nI (a + 7 * k) →
    Tq (nlX12_readMethod_261 f (nI m) v2 v5 (nI h) v7 (nI k) g) (fun g' => Fr [302, 285] g g' ∧ Fo [33] g g' ∧ g' 285 33 = nI (a + 7 * h) ∧ ∀ i, g' 302 i = if 32 * m + 4 * k ≤ i ∧ i < 32 * m + 4 * h then nI (s_hr T a (i - 32 * m)) else g 302 i)
  | d, k, 0, g, _, hf => absurd hf (Nat.not_lt_zero _)
  | 0, k, f + 1, g, hk, _ => by
    intro hT ha
    rw [nlX12_readMethod_261_s, if_pos ((lei (by omega) (by omega)).mpr (by omega))]
    exact Tq.some ⟨Fr.rf, Fo.rf, by rw [ha, show a + 7 * k = a + 7 * h by omega], fun i => by rw [if_neg (by omega)]⟩
  | d + 1, k, f + 1, g, hk, hf => by
    intro hT ha
    have ht := hT.2.1
    have c1 : (32 : Int32) * nI m + (4 : Int32) * nI k = nI (32 * m + 4 * k) := by rw [show (32 : Int32) = nI 32 from rfl, show (4 : Int32) = nI 4 from rfl, pk_mul, pk_mul, nI_add]
    have c2 : nI (32 * m + 4 * k) + (1 : Int32) = nI (32 * m + 4 * k + 1) := nI_add _ 1
    have c3 : nI (32 * m + 4 * k) + (2 : Int32) = nI (32 * m + 4 * k + 2) := nI_add _ 2
    have c4 : nI (32 * m + 4 * k) + (3 : Int32) = nI (32 * m + 4 * k + 3) := nI_add _ 3
    rw [nlX12_readMethod_261_s, if_neg (fun q => absurd ((lei (by omega) (by omega)).mp q) (by omega)), q_two hT ha (by omega), hm_bd_s, if_pos (show a + 7 * k + 1 < t by omega), c1, if_pos (hin (by omega) (by decide)), cl (by omega), c2, c3, c4]
    have T1 : s_T (hm_w (hm_w g 285 33 (nI (a + 7 * k + 2))) 302 (32 * m + 4 * k) (nI (256 * T (a + 7 * k) + T (a + 7 * k + 1)))) t T := hT.fr (by rw [hm_w_ne (by decide), hm_w_o (by decide)]) (by rw [hm_w_ne (by decide), hm_w_ne (by decide)])
    rw [q_two (a := a + 7 * k + 2) T1 (by rw [hm_w_ne (by decide), hm_w_eq]) (by omega), hm_bd_s, if_pos (show a + 7 * k + 2 + 1 < t by omega), if_pos (hin (by omega) (by decide)), cl (by omega)]
    refine Tq.bve rfl ?_
    generalize hg2 : hm_w (hm_w (hm_w (hm_w g 285 33 (nI (a + 7 * k + 2))) 302 (32 * m + 4 * k) (nI (256 * T (a + 7 * k) + T (a + 7 * k + 1)))) 285 33 (nI (a + 7 * k + 2 + 2))) 302 (32 * m + 4 * k + 1) (nI (256 * T (a + 7 * k + 2) + T (a + 7 * k + 2 + 1))) = g2
    have T2 : s_T g2 t T := by rw [← hg2]; exact T1.fr (by rw [hm_w_ne (by decide), hm_w_o (by decide)]) (by rw [hm_w_ne (by decide), hm_w_ne (by decide)])
    have A2 : g2 285 33 = nI (a + 7 * k + 4) := by rw [← hg2, hm_w_ne (by decide), hm_w_eq]
    have F2 : Fr [302, 285] g g2 := by rw [← hg2]; exact (((Fr.rf.w (by decide)).w (by decide)).w (by decide)).w (by decide)
    have O2 : Fo [33] g g2 := by rw [← hg2]; exact (((Fo.rf.w (by decide)).wa (by decide)).w (by decide)).wa (by decide)
    have R2 : ∀ i, g2 302 i = if i = 32 * m + 4 * k + 1 then nI (256 * T (a + 7 * k + 2) + T (a + 7 * k + 3)) else if i = 32 * m + 4 * k then nI (256 * T (a + 7 * k) + T (a + 7 * k + 1)) else g 302 i := fun i => by
      rw [← hg2, hm_w_at, hm_w_ne (show (302 : Nat) ≠ 285 by decide), hm_w_at, hm_w_ne (show (302 : Nat) ≠ 285 by decide)]
    rw [q_two T2 A2 (by omega), hm_bd_s, if_pos (show a + 7 * k + 4 + 1 < t by omega), if_pos (hin (by omega) (by decide)), cl (by omega)]
    refine Tq.bve rfl ?_
    generalize hg3 : hm_w (hm_w g2 285 33 (nI (a + 7 * k + 4 + 2))) 302 (32 * m + 4 * k + 2) (nI (256 * T (a + 7 * k + 4) + T (a + 7 * k + 4 + 1))) = g3
    have T3 : s_T g3 t T := by rw [← hg3]; exact T2.fr (by rw [hm_w_ne (by decide), hm_w_o (by decide)]) (by rw [hm_w_ne (by decide), hm_w_ne (by decide)])
    have A3 : g3 285 33 = nI (a + 7 * k + 6) := by rw [← hg3, hm_w_ne (by decide), hm_w_eq]
    rw [q_one T3 A3 (by omega), hm_bd_s, if_pos (show a + 7 * k + 6 < t by omega), if_pos (hin (by omega) (by decide)), cl (by omega)]
    refine Tq.bve rfl ?_
    rw [nI_1]
    refine (q_r261 hm8 hh hah v2 v5 v7 d (k + 1) f _ (by omega) (by omega) (T3.fr ?_ ?_) ?_).mono fun g' z => ⟨?_, ?_, z.2.2.1, fun i => ?_⟩
    · rw [hm_w_ne (by decide), hm_w_o (by decide)]
    · rw [hm_w_ne (by decide), hm_w_ne (by decide)]
    · rw [hm_w_ne (by decide), hm_w_eq, show a + 7 * k + 6 + 1 = a + 7 * (k + 1) by omega]
    · refine Fr.trans ?_ z.1
      rw [← hg3]
      exact ((((F2.w (by decide)).w (by decide))).w (by decide)).w (by decide)
    · refine Fo.trans ?_ z.2.1
      rw [← hg3]
      exact (((O2.w (by decide)).wa (by decide)).w (by decide)).wa (by decide)
    · rw [z.2.2.2 i, hm_w_at, hm_w_ne (show (302 : Nat) ≠ 285 by decide), ← hg3, hm_w_at, hm_w_ne (show (302 : Nat) ≠ 285 by decide), R2 i]
      by_cases e0 : i = 32 * m + 4 * k
      · subst e0
        rw [if_neg (by omega), if_neg (by omega), if_neg (by omega), if_neg (by omega), if_pos rfl, if_pos (by omega)]
        unfold s_hr
        rw [if_neg (by omega), show (32 * m + 4 * k - 32 * m) / 4 = k by omega, show (32 * m + 4 * k - 32 * m) % 4 = 0 by omega]
        rfl
      by_cases e1 : i = 32 * m + 4 * k + 1
      · subst e1
        rw [if_neg (by omega), if_neg (by omega), if_neg (by omega), if_pos rfl, if_pos (by omega)]
        unfold s_hr
        rw [if_neg (by omega), show (32 * m + 4 * k + 1 - 32 * m) / 4 = k by omega, show (32 * m + 4 * k + 1 - 32 * m) % 4 = 1 by omega]
      by_cases e2 : i = 32 * m + 4 * k + 2
      · subst e2
        rw [if_neg (by omega), if_neg (by omega), if_pos rfl, if_pos (by omega)]
        unfold s_hr
        rw [if_neg (by omega), show (32 * m + 4 * k + 2 - 32 * m) / 4 = k by omega, show (32 * m + 4 * k + 2 - 32 * m) % 4 = 2 by omega]
      by_cases e3 : i = 32 * m + 4 * k + 3
      · subst e3
        rw [if_neg (by omega), if_pos rfl, if_pos (by omega)]
        unfold s_hr
        rw [if_pos (by omega), show (32 * m + 4 * k + 3 - 32 * m) / 4 = k by omega]
      by_cases e4 : 32 * m + 4 * k ≤ i ∧ i < 32 * m + 4 * h
      · rw [if_pos (by omega), if_pos e4]
      · rw [if_neg (by omega), if_neg e3, if_neg e2, if_neg e1, if_neg e0, if_neg e4]
/-- a place at which an instruction begins -/
def s_is (c : Nat → Nat) (n : Nat) (z : Int) : Prop := 0 ≤ z ∧ z < n ∧ s_B c z.toNat
theorem q_isB {m n : Nat} {c : Nat → Nat} {g : hm} {z : Int} (hm8 : m < 8) (hn : n ≤ 2000) (gn : g 299 m = nI n) (hB : s_Bg g (2001 * m) n c) (h1 : -1000000 < z) (h2 : z < 1000000) : ∃ r : Int32, nX12_isBegin (nI m) (zI z) g = some (r, g) ∧ (r = 0 ↔ ¬ s_is c n z) := by
  unfold nX12_isBegin
  by_cases c1 : z < 0
  · rw [if_pos ((zI_neg (by omega) (by omega)).mpr c1)]
    exact ⟨0, rfl, by simp [s_is]; omega⟩
  rw [if_neg (fun q => c1 ((zI_neg (by omega) (by omega)).mp q)), if_pos (hin hm8 (by decide)), cl (by omega), gn]
  obtain ⟨p, rfl⟩ : ∃ p : Nat, z = (p : Int) := ⟨z.toNat, by omega⟩
  rw [zI_n]
  by_cases c2 : n ≤ p
  · rw [if_pos ((lei (by omega) (by omega)).mpr c2)]
    exact ⟨0, rfl, by simp [s_is]; omega⟩
  have e1 : (2001 : Int32) * nI m + nI p = nI (2001 * m + p) := ix 2001 m p
  rw [if_neg (fun q => c2 ((lei (by omega) (by omega)).mp q)), e1, if_pos (hin (by omega) (by decide)), cl (by omega)]
  by_cases c3 : s_B c p
  · rw [(hB p (by omega)).1 c3, if_neg (by decide)]
    exact ⟨1, rfl, by simp [s_is, c3]; omega⟩
  · rw [(hB p (by omega)).2 c3, if_pos rfl]
    exact ⟨0, rfl, by simp [s_is, c3]⟩
theorem q_isBn {m n : Nat} {c : Nat → Nat} {g : hm} {p : Nat} (hm8 : m < 8) (hn : n ≤ 2000) (gn : g 299 m = nI n) (hB : s_Bg g (2001 * m) n c) (h2 : p < 1000000) : ∃ r : Int32, nX12_isBegin (nI m) (nI p) g = some (r, g) ∧ (r = 0 ↔ ¬ s_is c n p) := by
  have h := q_isB (z := (p : Int)) hm8 hn gn hB (by omega) (by omega)
  rw [zI_n] at h
  exact h
/-- a handler is right -/
def s_hk (c : Nat → Nat) (n : Nat) (R : Nat → Nat) (q : Nat) : Prop := s_is c n (R (4 * q)) ∧ s_is c n (R (4 * q + 2)) ∧ R (4 * q) < R (4 * q + 1) ∧ (R (4 * q + 1) = n ∨ s_is c n (R (4 * q + 1))) ∧ R (4 * q + 3) ≤ 4
/-- the rows of handlers of method m -/
def s_Rw (g : hm) (a b h : Nat) (R : Nat → Nat) : Prop := ∀ i, i < 4 * h → g a (b + i) = nI (R i) ∧ R i < 65536
set_option maxHeartbeats 1000000 in
theorem q_r346 {m n h t k e : Nat} {c R : Nat → Nat} {g : hm} (hm8 : m < 8) (hn : n ≤ 2000) (hh : h ≤ 8) (hk : k < h) (he : e ≤ 10000) (gt : g 285 2 = nI t) (ht : t ≤ 6000) (gn : g 299 m = nI n) (hB : s_Bg g (2001 * m) n c) (hR : s_Rw g 302 (32 * m) h R) (f : Nat) :
    (s_hk c n R k → nlX12_readMethod_346 (f + 1) (nI m) (nI n) (nI h) (nI e) 0 (nI k) g = nlX12_readMethod_346 f (nI m) (nI n) (nI h) (nI e) 0 (nI (k + 1)) g) ∧
    (¬ s_hk c n R k → ∃ r : Int32, r < 0 ∧ nlX12_readMethod_346 (f + 1) (nI m) (nI n) (nI h) (nI e) 0 (nI k) g = nlX12_readMethod_346 f (nI m) (nI n) (nI h) (nI e) r (nI (k + 1)) g) := by
  have c1 : (32 : Int32) * nI m + (4 : Int32) * nI k = nI (32 * m + 4 * k) := by rw [show (32 : Int32) = nI 32 from rfl, show (4 : Int32) = nI 4 from rfl, pk_mul, pk_mul, nI_add]
  have c2 : nI (32 * m + 4 * k) + (1 : Int32) = nI (32 * m + (4 * k + 1)) := nI_add _ 1
  have c3 : nI (32 * m + 4 * k) + (2 : Int32) = nI (32 * m + (4 * k + 2)) := nI_add _ 2
  have c4 : nI (32 * m + 4 * k) + (3 : Int32) = nI (32 * m + (4 * k + 3)) := nI_add _ 3
  have c5 : nI e + (7 : Int32) * nI k = nI (e + 7 * k) := by rw [show (7 : Int32) = nI 7 from rfl, pk_mul, nI_add]
  have i0 : hs_in (nI (32 * m + 4 * k)) 256 = true := hin (by omega) (by decide)
  have i1 : hs_in (nI (32 * m + (4 * k + 1))) 256 = true := hin (by omega) (by decide)
  have i2 : hs_in (nI (32 * m + (4 * k + 2))) 256 = true := hin (by omega) (by decide)
  have i3 : hs_in (nI (32 * m + (4 * k + 3))) 256 = true := hin (by omega) (by decide)
  have l0 : (nI (32 * m + 4 * k)).toNatClampNeg = 32 * m + 4 * k := cl (by omega)
  have l1 : (nI (32 * m + (4 * k + 1))).toNatClampNeg = 32 * m + (4 * k + 1) := cl (by omega)
  have l2 : (nI (32 * m + (4 * k + 2))).toNatClampNeg = 32 * m + (4 * k + 2) := cl (by omega)
  have l3 : (nI (32 * m + (4 * k + 3))).toNatClampNeg = 32 * m + (4 * k + 3) := cl (by omega)
  obtain ⟨g0, b0⟩ := hR (4 * k) (by omega)
  obtain ⟨g1, b1⟩ := hR (4 * k + 1) (by omega)
  obtain ⟨g2, b2⟩ := hR (4 * k + 2) (by omega)
  obtain ⟨g3, b3⟩ := hR (4 * k + 3) (by omega)
  obtain ⟨w, w1, w2⟩ := q_wrong (g := g) (p := e + 7 * k) gt (by omega) (by omega)
  have bad : njX12_readMethod_458 (fun y0 y1 g => nlX12_readMethod_346 f (nI m) (nI n) (nI h) (nI e) y0 y1 g) (nI m) (nI n) (nI h) (nI e) 0 (nI k) g = nlX12_readMethod_346 f (nI m) (nI n) (nI h) (nI e) w (nI (k + 1)) g := by
    unfold njX12_readMethod_458 njX12_readMethod_459 njX12_readMethod_480
    rw [if_pos rfl, c5, w1, hm_bd_s, nI_1]
  rw [nlX12_readMethod_346_s, if_neg (fun q => absurd ((lei (by omega) (by omega)).mp q) (by omega)), if_pos rfl, c1, c2, if_pos i1, if_pos i0, l0, g0]
  obtain ⟨r0, x0, y0⟩ := q_isBn (p := R (4 * k)) hm8 hn gn hB (by omega)
  rw [x0, hm_bd_s]
  by_cases h0 : r0 = 0
  · rw [if_pos h0, bad]
    exact ⟨fun q => absurd q.1 (y0.mp h0), fun _ => ⟨w, w2, rfl⟩⟩
  have z0 : s_is c n (R (4 * k)) := Classical.byContradiction fun q => h0 (y0.mpr q)
  rw [if_neg h0, c3, if_pos i2, l2, g2]
  obtain ⟨r2, x2, y2⟩ := q_isBn (p := R (4 * k + 2)) hm8 hn gn hB (by omega)
  rw [x2, hm_bd_s]
  by_cases h2 : r2 = 0
  · rw [if_pos h2, bad]
    exact ⟨fun q => absurd q.2.1 (y2.mp h2), fun _ => ⟨w, w2, rfl⟩⟩
  have z2 : s_is c n (R (4 * k + 2)) := Classical.byContradiction fun q => h2 (y2.mpr q)
  rw [if_neg h2, if_pos i0, l1, g1, g0]
  by_cases h3 : R (4 * k + 1) ≤ R (4 * k)
  · rw [if_pos ((lei (by omega) (by omega)).mpr h3), bad]
    exact ⟨fun q => absurd q.2.2.1 (by omega), fun _ => ⟨w, w2, rfl⟩⟩
  rw [if_neg (fun q => h3 ((lei (by omega) (by omega)).mp q))]
  have last : (R (4 * k + 1) = n ∨ s_is c n (R (4 * k + 1))) →
      ((s_hk c n R k → njX12_readMethod_441 (fun y0 y1 g => nlX12_readMethod_346 f (nI m) (nI n) (nI h) (nI e) y0 y1 g) (nI m) (nI n) (nI h) (nI e) 0 (nI k) (nI (32 * m + 4 * k)) g = nlX12_readMethod_346 f (nI m) (nI n) (nI h) (nI e) 0 (nI (k + 1)) g) ∧
      (¬ s_hk c n R k → ∃ r : Int32, r < 0 ∧ njX12_readMethod_441 (fun y0 y1 g => nlX12_readMethod_346 f (nI m) (nI n) (nI h) (nI e) y0 y1 g) (nI m) (nI n) (nI h) (nI e) 0 (nI k) (nI (32 * m + 4 * k)) g = nlX12_readMethod_346 f (nI m) (nI n) (nI h) (nI e) r (nI (k + 1)) g)) := by
    intro hto
    unfold njX12_readMethod_441
    rw [c4, if_pos i3, l3, g3]
    by_cases h4 : 4 < R (4 * k + 3)
    · have u : (4 : Int32) < nI (R (4 * k + 3)) := (lti (a := 4) (by omega) (by omega)).mpr h4
      rw [if_pos u, bad]
      exact ⟨fun q => absurd q.2.2.2.2 (by omega), fun _ => ⟨w, w2, rfl⟩⟩
    · have u : ¬ (4 : Int32) < nI (R (4 * k + 3)) := fun q => h4 ((lti (a := 4) (by omega) (by omega)).mp q)
      rw [if_neg u]
      unfold njX12_readMethod_459 njX12_readMethod_480
      rw [if_neg (by decide), nI_1]
      exact ⟨fun _ => rfl, fun q => absurd ⟨z0, z2, by omega, hto, by omega⟩ q⟩
  by_cases h5 : R (4 * k + 1) = n
  · rw [if_pos (by rw [h5])]
    exact last (Or.inl h5)
  · rw [if_neg (fun q => h5 ((eqi (by omega) (by omega)).mp q))]
    obtain ⟨r6, x6, y6⟩ := q_isBn (p := R (4 * k + 1)) hm8 hn gn hB (by omega)
    rw [x6, hm_bd_s]
    by_cases h6 : r6 = 0
    · rw [if_pos h6, bad]
      exact ⟨fun q => q.2.2.2.1.elim (fun e => absurd e h5) (fun e => absurd e (y6.mp h6)), fun _ => ⟨w, w2, rfl⟩⟩
    · rw [if_neg h6]
      exact last (Or.inr (Classical.byContradiction fun q => h6 (y6.mpr q)))
theorem q_r346_neg {r : Int32} (hr : r < 0) (v1 v5 v6 v7 v9 : Int32) (f : Nat) (g : hm) : nlX12_readMethod_346 (f + 1) v1 v5 v6 v7 r v9 g = some (r, g) := by
  rw [nlX12_readMethod_346_s]
  have : ¬ r = 0 := by rintro rfl; exact absurd hr (by decide)
  by_cases c : v6 ≤ v9
  · rw [if_pos c]
  · rw [if_neg c, if_neg this]
theorem q_r346_loop {m n h t e : Nat} {c R : Nat → Nat} {g : hm} (hm8 : m < 8) (hn : n ≤ 2000) (hh : h ≤ 8) (he : e ≤ 10000) (gt : g 285 2 = nI t) (ht : t ≤ 6000) (gn : g 299 m = nI n) (hB : s_Bg g (2001 * m) n c) (hR : s_Rw g 302 (32 * m) h R) : ∀ (d k f : Nat), k + d = h → d + 1 < f → (∀ q, q < k → s_hk c n R q) →
    ∃ r : Int32, nlX12_readMethod_346 f (nI m) (nI n) (nI h) (nI e) 0 (nI k) g = some (r, g) ∧ ((r = 0 ∧ ∀ q, q < h → s_hk c n R q) ∨ (r < 0 ∧ ¬ ∀ q, q < h → s_hk c n R q))
  | d, k, 0, _, hf, _ => absurd hf (Nat.not_lt_zero _)
  | 0, k, f + 1, hk, _, ok => ⟨0, by rw [nlX12_readMethod_346_s, if_pos ((lei (by omega) (by omega)).mpr (by omega))], Or.inl ⟨rfl, fun q hq => ok q (by omega)⟩⟩
  | d + 1, k, f + 1, hk, hf, ok => by
    obtain ⟨y, z⟩ := q_r346 hm8 hn hh (show k < h by omega) he gt ht gn hB hR f
    by_cases c1 : s_hk c n R k
    · rw [y c1]
      exact q_r346_loop hm8 hn hh he gt ht gn hB hR d (k + 1) f (by omega) (by omega) (fun q hq => by
        by_cases e : q = k
        · rw [e]; exact c1
        · exact ok q (by omega))
    · obtain ⟨r, hr, e⟩ := z c1
      obtain ⟨f', rfl⟩ : ∃ f', f = f' + 1 := ⟨f - 1, by omega⟩
      exact ⟨r, by rw [e, q_r346_neg hr], Or.inr ⟨hr, fun q => c1 (q k (by omega))⟩⟩
