/-- wrongHandler() -/
theorem x_hand {A j t a n h : Nat} {u c e : Nat → Nat} {s : hs_S} (hA : isS A) (hj : j < 8) (hh : h ≤ 8) (hend : a + n + 1 + 7 * h ≤ t) (w : WT s) (hR : SF (hs_R s) A) (v : sv s A t u) (m : mv s (A + 6 + 2 * j) a n e) (h6 : hs_I s (A + 6 + 2 * j) 6 = nI h) (hc : cl0 c e n n) :
    Tq (fX2_wrongHandler 91 A (A + 6 + 2 * j) s) (fun q => (q.1 = -1 ∧ (∀ z, z < h → s_hk c n (s_hr u (a + n + 1)) z) ∧ tF s q.2 (A + 7 + 2 * j) ∧ WT q.2 ∧ ∀ i, i < 4 * h → hs_I q.2 (A + 7 + 2 * j) i = nI (s_hr u (a + n + 1) i)) ∨ (¬ q.1 = -1 ∧ ¬ ∀ z, z < h → s_hk c n (s_hr u (a + n + 1)) z)) := by
  obtain ⟨⟨g, p, s'⟩, e1, hq⟩ := x_h2 hA hj hh hend h 0 hs_N s e (by omega) (by unfold hs_N; omega) w hR v m h6 hc
  have e1' : lX2_wrongHandler_2 hs_N 91 A (A + 6 + 2 * j) (0 : Int32) s = some (g, p, s') := e1
  unfold fX2_wrongHandler
  rw [e1']
  show Tq (if g = 0 then _ else _) _
  rcases hq with ⟨q1, q2, q3, q4, q5, -⟩ | ⟨q1, ⟨x, x1, x2⟩, q3⟩
  · have q1' : g = 0 := q1
    rw [if_pos q1']
    exact Tq.some (Or.inl ⟨rfl, fun z hz => q2 z (Nat.zero_le z) hz, q3, q4, fun i hi => q5 i (Nat.zero_le _) hi⟩)
  · have q1' : g = 1 := q1
    have x2' : p = nI x := x2
    rw [if_neg (by rw [q1']; decide), x2']
    exact Tq.some (Or.inr ⟨nI_m1 x1, fun z => q3 fun y _ hy => z y hy⟩)
/-! JUMPS -/
set_option maxRecDepth 100000 in
theorem b8_all : (List.range 256).all (fun x => decide ((nI x).toInt8.toInt32 = zI (s_s8 x))) = true := by decide +kernel
theorem b8 {x : Nat} (h : x < 256) : (nI x).toInt8.toInt32 = zI (s_s8 x) := of_decide_eq_true (List.all_eq_true.mp b8_all x (List.mem_range.mpr h))
theorem b16 {x : Nat} (h : x < 65536) : (nI x).toInt16.toInt32 = zI (s_s16 x) := by
  have hb := s_s16_b h
  apply Int32.toInt_inj.mp
  rw [zI_toInt (by omega) (by omega), Int16.toInt_toInt32, Int32.toInt_toInt16, nI_toInt (by omega)]
  unfold s_s16
  rw [Int.bmod_def]
  split <;> split <;> omega
theorem x_target {s : hs_S} {M a n k : Nat} {e : Nat → Nat} (w : WT s) (v : mv s M a n e) (hk : k < n) : fX7_targetOf M (nI k) s = some (zI (s_tg (e k % 256) k (vE e n (k + 1)) (vE e n (k + 2))), s) := by
  have hn := (v.lt w).1
  have e1 : vE e n k = e k % 256 := by unfold vE; rw [if_pos hk]
  have o1 := vE_lt e n (k + 1)
  have o2 := vE_lt e n (k + 2)
  have hz : nI k = zI (k : Int) := (zI_n k).symm
  have e2 : nI k + (2 : Int32) = nI (k + 2) := nI_add k 2
  unfold fX7_targetOf
  rw [if_pos (w.k v.1), nI_1, x_val w v (by omega)]
  rw [hs_bd_s]
  rw [if_pos (w.k v.1), x_val w v (by omega), e1]
  rw [hs_bd_s]
  unfold s_tg
  by_cases c : e k % 256 = 168
  · have x : nI (e k % 256) = (168 : Int32) := by rw [c]; rfl
    rw [if_pos x, if_pos c, if_pos (w.k v.1), e2, x_val w v (by omega)]
    rw [hs_bd_s]
    rw [x_pair o1 o2, b16 (by omega), hz, zI_add]
  · have x : ¬ nI (e k % 256) = (168 : Int32) := fun q => c ((eqi (b := 168) (by omega) (by decide)).mp q)
    rw [if_neg x, if_neg c]
    rw [b8 o1, hz, zI_add]
theorem x_begZ {s : hs_S} {M a n : Nat} {e c : Nat → Nat} {z : Int} (w : WT s) (v : mv s M a n e) (hc : cl0 c e n n) (h1 : -1000000 < z) (h2 : z < 1000000) : ∃ r, fX7_begins M (zI z) s = some (r, s) ∧ (r = 0 ↔ ¬ s_is c n z) := by
  by_cases c0 : z < 0
  · refine ⟨_, x_beg_out w v (Or.inl ((zI_neg (by omega) (by omega)).mpr c0)), fun _ q => absurd q.1 (by omega), fun _ => rfl⟩
  · obtain ⟨x, rfl⟩ : ∃ x : Nat, z = x := ⟨z.toNat, by omega⟩
    rw [zI_n]
    exact x_begB w v hc (by omega)
/-- at a beginning: is it a jump? -/
theorem x_jumpsAt {s : hs_S} {M a n k : Nat} {e c : Nat → Nat} (w : WT s) (v : mv s M a n e) (hc : ∀ i, i < n → e i % 256 = c i ∧ (eB (e i) = true ↔ s_B c i)) (hk : k < n) : ∃ r, fX7_jumpsAt M (nI k) s = some (r, s) ∧ (r = 0 ↔ ¬ (s_B c k ∧ s_isJ (c k) = true)) := by
  obtain ⟨h1, h2⟩ := hc k hk
  have hn := (v.lt w).1
  have hck : c k < 256 := by rw [← h1]; omega
  unfold fX7_jumpsAt
  rw [if_pos (w.k v.1), x_beg_in w v hk]
  rw [hs_bd_s]
  cases c1 : eB (e k)
  · rw [if_pos (by decide)]
    exact ⟨_, rfl, fun _ q => by have := h2.mpr q.1; rw [c1] at this; exact absurd this (by decide), fun _ => rfl⟩
  · have hB : s_B c k := h2.mp c1
    rw [if_neg (by decide), if_pos (w.k v.1), x_val_in w v hk, h1]
    rw [hs_bd_s]
    rw [(x_kinds hck s).1]
    rw [hs_bd_s]
    cases c2 : s_isJ (c k)
    · rw [if_pos (by decide)]
      exact ⟨_, rfl, fun _ q => absurd q.2 (by decide), fun _ => rfl⟩
    · rw [if_neg (by decide)]
      exact ⟨_, rfl, fun q => absurd q (by decide), fun q => absurd ⟨hB, rfl⟩ q⟩
theorem cl0.h {c e : Nat → Nat} {n : Nat} (h : cl0 c e n n) : ∀ i, i < n → e i % 256 = c i ∧ (eB (e i) = true ↔ s_B c i) := fun i hi => ⟨(h i hi).1, ⟨fun z => ((h i hi).2.1.mp z).2, fun z => (h i hi).2.1.mpr ⟨hi, z⟩⟩⟩
/-- where the jump at k leads -/
theorem x_tgt {s : hs_S} {M a n k l N : Nat} {e c : Nat → Nat} (w : WT s) (v : mv s M a n e) (hc : ∀ i, i < n → e i % 256 = c i) (hk : k < n) (hok : s_okI c l N n k) (hJ : s_isJ (c k) = true) : fX7_targetOf M (nI k) s = some (zI (s_tgt c k), s) := by
  rw [x_target w v hk, hc k hk]
  obtain ⟨j1, j2⟩ := s_isJ_sz hJ
  have h2 := hok.2.1
  have e1 : vE e n (k + 1) = c (k + 1) := by unfold vE; rw [if_pos (by omega), hc _ (by omega)]
  unfold s_tgt
  by_cases c1 : c k = 168
  · have := j2 c1
    have e2 : vE e n (k + 2) = c (k + 2) := by unfold vE; rw [if_pos (by omega), hc _ (by omega)]
    rw [e1, e2]
  · rw [e1, s_tg_2 c1, s_tg_2 (b := c (k + 2)) c1]
theorem s_tgt_b {c : Nat → Nat} {n k l N : Nat} (hc : ∀ i, i < n → c i < 256) (hn : n < 10000) (hk : k < n) (hok : s_okI c l N n k) (hJ : s_isJ (c k) = true) : -1000000 < s_tgt c k ∧ s_tgt c k < 1000000 := by
  obtain ⟨j1, j2⟩ := s_isJ_sz hJ
  have h2 := hok.2.1
  unfold s_tgt
  by_cases c1 : c k = 168
  · have := j2 c1
    exact s_tg_b (hc _ (by omega)) (hc _ (by omega)) (by omega)
  · rw [s_tg_2 c1]
    exact s_tg_b (hc _ (by omega)) (by decide) (by omega)
theorem x_j2 {M a n l N : Nat} {c e : Nat → Nat} {s : hs_S} (w : WT s) (v : mv s M a n e) (hc : cl0 c e n n) (hn : n < 10000) (hch : s_chain c l N n) : ∀ (d k f : Nat), k + d = n → d < f →
    Tq (lX2_wrongJump_2 f M (nI k) s) (fun q => q.2.2 = s ∧ ((q.1 = 0 ∧ ∀ z, k ≤ z → z < n → s_jk c n z) ∨ (q.1 = 1 ∧ (∃ x, x < n ∧ q.2.1 = nI x) ∧ ¬ ∀ z, k ≤ z → z < n → s_jk c n z)))
  | d, k, 0, _, hf => absurd hf (Nat.not_lt_zero _)
  | 0, k, f + 1, hk, _ => by
    have lt := (v.lt w).1
    rw [lX2_wrongJump_2, if_pos (w.k v.1), v.2.2.1, if_pos ((lei (by omega) (by omega)).mpr (by omega))]
    exact Tq.some ⟨rfl, Or.inl ⟨rfl, fun z z1 z2 => absurd z2 (by omega)⟩⟩
  | d + 1, k, f + 1, hk, hf => by
    have lt := (v.lt w).1
    have h0 : k < n := by omega
    obtain ⟨r, er, hr⟩ := x_jumpsAt w v hc.h h0
    have hcb : ∀ i, i < n → c i < 256 := fun i hi => by rw [← (hc i hi).1]; omega
    have on : s_jk c n k → Tq (jX2_wrongJump_37 (fun y0 g => lX2_wrongJump_2 f M y0 g) M (nI k) s) (fun q => q.2.2 = s ∧ ((q.1 = 0 ∧ ∀ z, k ≤ z → z < n → s_jk c n z) ∨ (q.1 = 1 ∧ (∃ x, x < n ∧ q.2.1 = nI x) ∧ ¬ ∀ z, k ≤ z → z < n → s_jk c n z))) := by
      intro hjk
      unfold jX2_wrongJump_37
      rw [nI_1]
      refine (x_j2 w v hc hn hch d (k + 1) f (by omega) (by omega)).mono fun q hq => ⟨hq.1, ?_⟩
      have all : (∀ z, k + 1 ≤ z → z < n → s_jk c n z) ↔ ∀ z, k ≤ z → z < n → s_jk c n z := by
        refine ⟨fun p z z1 z2 => ?_, fun p z z1 z2 => p z (by omega) z2⟩
        by_cases e : z = k
        · rw [e]; exact hjk
        · exact p z (by omega) z2
      rcases hq.2 with ⟨q1, q2⟩ | ⟨q1, q2, q3⟩
      · exact Or.inl ⟨q1, all.mp q2⟩
      · exact Or.inr ⟨q1, q2, fun p => q3 (all.mpr p)⟩
    rw [lX2_wrongJump_2, if_pos (w.k v.1), v.2.2.1, if_neg (fun q => absurd ((lei (by omega) (by omega)).mp q) (by omega)), er]
    show Tq (if r = 0 then _ else _) _
    by_cases c1 : r = 0
    · rw [if_pos c1]
      exact on fun h1 h2 => absurd ⟨h1, h2⟩ (hr.mp c1)
    · obtain ⟨hB, hJ⟩ : s_B c k ∧ s_isJ (c k) = true := Classical.byContradiction fun q => c1 (hr.mpr q)
      have hok := hch k hB h0
      have tb := s_tgt_b hcb hn h0 hok hJ
      obtain ⟨r2, er2, hr2⟩ := x_begZ (z := s_tgt c k) w v hc tb.1 tb.2
      rw [if_neg c1, if_pos (w.k v.1), x_tgt w v (fun i hi => (hc i hi).1) h0 hok hJ]
      show Tq (if hs_kd s M = 6 then _ else none) _
      rw [if_pos (w.k v.1), er2]
      show Tq (if r2 = 0 then _ else _) _
      by_cases c2 : r2 = 0
      · rw [if_pos c2]
        exact Tq.some ⟨rfl, Or.inr ⟨rfl, ⟨k, h0, rfl⟩, fun p => hr2.mp c2 (p k (Nat.le_refl _) h0 hB hJ)⟩⟩
      · rw [if_neg c2]
        exact on fun _ _ => Classical.byContradiction fun q => c2 (hr2.mpr q)
/-- wrongJump() -/
theorem x_wjump {v0 M a n l N : Nat} {c e : Nat → Nat} {s : hs_S} (w : WT s) (v : mv s M a n e) (hc : cl0 c e n n) (hn : n < 10000) (hch : s_chain c l N n) : Tq (fX2_wrongJump v0 M s) (fun q => q.2 = s ∧ ((q.1 = -1 ∧ ∀ z, z < n → s_jk c n z) ∨ (¬ q.1 = -1 ∧ ¬ ∀ z, z < n → s_jk c n z))) := by
  have lt := (v.lt w).1
  obtain ⟨⟨g, p, s'⟩, e1, e2, hq⟩ := x_j2 w v hc hn hch n 0 hs_N (by omega) (by unfold hs_N; omega)
  have e1' : lX2_wrongJump_2 hs_N M (0 : Int32) s = some (g, p, s') := e1
  have e2' : s' = s := e2
  unfold fX2_wrongJump
  rw [e1', e2']
  show Tq (if g = 0 then _ else _) _
  rcases hq with ⟨q1, q2⟩ | ⟨q1, ⟨x, x1, x2⟩, q3⟩
  · have q1' : g = 0 := q1
    rw [if_pos q1']
    exact Tq.some ⟨rfl, Or.inl ⟨rfl, fun z hz => q2 z (Nat.zero_le z) hz⟩⟩
  · have q1' : g = 1 := q1
    have x2' : p = nI x := x2
    rw [if_neg (by rw [q1']; decide), if_pos (w.k v.1), v.2.1, x2', nI_add]
    exact Tq.some ⟨rfl, Or.inr ⟨nI_m1 (by omega), fun z => q3 fun y _ hy => z y hy⟩⟩
