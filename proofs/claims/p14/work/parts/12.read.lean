/-- where the jump at k leads -/
def s_tgt (c : Nat → Nat) (k : Nat) : Int := s_tg (c k) k (c (k + 1)) (c (k + 2))
def s_jk (c : Nat → Nat) (n k : Nat) : Prop := s_B c k → s_isJ (c k) = true → s_is c n (s_tgt c k)
theorem s_isJ_sz {k : Nat} (h : s_isJ k = true) : 2 ≤ s_sz k ∧ (k = 168 → s_sz k = 3) := by
  simp only [s_isJ, Bool.or_eq_true, Bool.and_eq_true, decide_eq_true_eq] at h
  unfold s_sz
  refine ⟨?_, fun e => by rw [if_pos (Or.inr e)]⟩
  by_cases h1 : k = 17 ∨ k = 168
  · rw [if_pos h1]; decide
  · rw [if_neg h1, if_neg (by omega), if_pos (by omega)]
    decide
theorem s_s8_b {a : Nat} (h : a < 256) : -128 ≤ s_s8 a ∧ s_s8 a ≤ 127 := by unfold s_s8; split <;> omega
theorem s_s16_b {a : Nat} (h : a < 65536) : -32768 ≤ s_s16 a ∧ s_s16 a ≤ 32767 := by unfold s_s16; split <;> omega
theorem s_tg_b {k p a b : Nat} (ha : a < 256) (hb : b < 256) (hp : p < 10000) : -1000000 < s_tg k p a b ∧ s_tg k p a b < 1000000 := by
  have h1 := s_s8_b ha
  have h2 := s_s16_b (a := 256 * a + b) (by omega)
  unfold s_tg
  split <;> omega
theorem s_tg_2 {k p a b : Nat} (h : k ≠ 168) : s_tg k p a b = s_tg k p a 0 := by unfold s_tg; rw [if_neg h, if_neg h]
/-- the target is reckoned, at a place where an instruction of a right chain begins -/
theorem q_tgt {g : hm} {b n k l N a : Nat} {c : Nat → Nat} (hC : s_C g a b n c) (hk : k < n) (hn : n ≤ 2000) (hok : s_okI c l N n k) (hj : s_isJ (c k) = true) :
    nX12_target (g a (b + k)) (nI k) (g a (b + (k + 1))) (g a (b + (k + 2))) g = some (zI (s_tgt c k), g) ∧ -1000000 < s_tgt c k ∧ s_tgt c k < 1000000 := by
  obtain ⟨s2, s3⟩ := s_isJ_sz hj
  have hsz := hok.2.1
  obtain ⟨g0, b0⟩ := hC k hk
  obtain ⟨g1, b1⟩ := hC (k + 1) (by omega)
  unfold s_tgt
  by_cases e : c k = 168
  · have := s3 e
    obtain ⟨g2, b2⟩ := hC (k + 2) (by omega)
    rw [g0, g1, g2]
    exact ⟨q_target b0 b1 b2 g, s_tg_b b1 b2 (by omega)⟩
  · rw [g0, g1, s_tg_2 e]
    exact ⟨q_target2 b0 e b1 _ g, s_tg_b b1 (by decide) (by omega)⟩
theorem q_r489 {m n t k l N b : Nat} {c : Nat → Nat} {g : hm} (hm8 : m < 8) (hn : n ≤ 2000) (hk : k < n) (gt : g 285 2 = nI t) (ht : t ≤ 6000) (gn : g 299 m = nI n) (gb : g 300 m = nI b) (hb : b ≤ 20000) (hB : s_Bg g (2001 * m) n c) (hC : s_C g 303 (2001 * m) n c) (hch : s_chain c l N n) (f : Nat) :
    (s_jk c n k → nlX12_readMethod_489 (f + 1) (nI m) (nI n) 0 (nI k) g = nlX12_readMethod_489 f (nI m) (nI n) 0 (nI (k + 1)) g) ∧
    (¬ s_jk c n k → ∃ r : Int32, r < 0 ∧ nlX12_readMethod_489 (f + 1) (nI m) (nI n) 0 (nI k) g = nlX12_readMethod_489 f (nI m) (nI n) r (nI (k + 1)) g) := by
  have c1 : (2001 : Int32) * nI m + nI k = nI (2001 * m + k) := ix 2001 m k
  have c2 : nI (2001 * m + k) + (1 : Int32) = nI (2001 * m + (k + 1)) := nI_add _ 1
  have c3 : nI (2001 * m + k) + (2 : Int32) = nI (2001 * m + (k + 2)) := nI_add _ 2
  have i0 : hs_in (nI (2001 * m + k)) 16008 = true := hin (by omega) (by decide)
  have l0 : (nI (2001 * m + k)).toNatClampNeg = 2001 * m + k := cl (by omega)
  obtain ⟨g0, b0⟩ := hC k hk
  have on : ∀ (r : Int32) (g : hm), njX12_readMethod_587 (fun y0 y1 g => nlX12_readMethod_489 f (nI m) (nI n) y0 y1 g) (nI m) (nI n) r (nI k) g = nlX12_readMethod_489 f (nI m) (nI n) r (nI (k + 1)) g := by
    intro r g
    unfold njX12_readMethod_587
    rw [nI_1]
  rw [nlX12_readMethod_489_s, if_neg (fun q => absurd ((lei (by omega) (by omega)).mp q) (by omega)), if_pos rfl, c1, if_pos i0, l0]
  by_cases hBk : s_B c k
  · rw [(hB k hk).1 hBk, if_neg (by decide), if_pos i0, g0, q_isJump b0, hm_bd_s]
    by_cases hj : s_isJ (c k) = true
    · have q1 := (s_isJ_sz hj).1
      have q2 := (hch k hBk hk).2.1
      rw [if_neg (by rw [hj]; decide), if_pos i0, c2, c3, if_pos (hin (by omega) (by decide)), if_pos (hin (by omega) (by decide)), cl (by omega), cl (by omega)]
      obtain ⟨x, z1, z2⟩ := q_tgt hC hk hn (hch k hBk hk) hj
      rw [x, hm_bd_s]
      obtain ⟨r, y1, y2⟩ := q_isB hm8 hn gn hB z1 z2
      rw [y1, hm_bd_s]
      by_cases hr : r = 0
      · rw [if_pos hr, if_pos (hin hm8 (by decide)), cl (by omega), gb, nI_add]
        obtain ⟨w, w1, w2⟩ := q_wrong (g := g) (p := b + k) gt (by omega) (by omega)
        rw [w1, hm_bd_s, on]
        exact ⟨fun q => absurd (q hBk hj) (y2.mp hr), fun _ => ⟨w, w2, rfl⟩⟩
      · rw [if_neg hr, on]
        exact ⟨fun _ => rfl, fun q => absurd (fun _ _ => Classical.byContradiction fun u => hr (y2.mpr u)) q⟩
    · have hj' : s_isJ (c k) = false := by simpa using hj
      rw [if_pos (by rw [hj']; rfl), on]
      exact ⟨fun _ => rfl, fun q => absurd (fun _ u => absurd u hj) q⟩
  · rw [(hB k hk).2 hBk, if_pos rfl, on]
    exact ⟨fun _ => rfl, fun q => absurd (fun u => absurd u hBk) q⟩
theorem q_r489_neg {r : Int32} (hr : r < 0) (v1 v5 v9 : Int32) (f : Nat) (g : hm) : nlX12_readMethod_489 (f + 1) v1 v5 r v9 g = some (r, g) := by
  rw [nlX12_readMethod_489_s]
  have : ¬ r = 0 := by rintro rfl; exact absurd hr (by decide)
  by_cases c : v5 ≤ v9
  · rw [if_pos c]
  · rw [if_neg c, if_neg this]
theorem q_r489_loop {m n t l N b : Nat} {c : Nat → Nat} {g : hm} (hm8 : m < 8) (hn : n ≤ 2000) (gt : g 285 2 = nI t) (ht : t ≤ 6000) (gn : g 299 m = nI n) (gb : g 300 m = nI b) (hb : b ≤ 20000) (hB : s_Bg g (2001 * m) n c) (hC : s_C g 303 (2001 * m) n c) (hch : s_chain c l N n) : ∀ (d k f : Nat), k + d = n → d + 1 < f → (∀ q, q < k → s_jk c n q) →
    ∃ r : Int32, nlX12_readMethod_489 f (nI m) (nI n) 0 (nI k) g = some (r, g) ∧ ((r = 0 ∧ ∀ q, q < n → s_jk c n q) ∨ (r < 0 ∧ ¬ ∀ q, q < n → s_jk c n q))
  | d, k, 0, _, hf, _ => absurd hf (Nat.not_lt_zero _)
  | 0, k, f + 1, hk, _, ok => ⟨0, by rw [nlX12_readMethod_489_s, if_pos ((lei (by omega) (by omega)).mpr (by omega))], Or.inl ⟨rfl, fun q hq => ok q (by omega)⟩⟩
  | d + 1, k, f + 1, hk, hf, ok => by
    obtain ⟨y, z⟩ := q_r489 hm8 hn (show k < n by omega) gt ht gn gb hb hB hC hch f
    by_cases c1 : s_jk c n k
    · rw [y c1]
      exact q_r489_loop hm8 hn gt ht gn gb hb hB hC hch d (k + 1) f (by omega) (by omega) (fun q hq => by
        by_cases e : q = k
        · rw [e]; exact c1
        · exact ok q (by omega))
    · obtain ⟨r, hr, e⟩ := z c1
      obtain ⟨f', rfl⟩ : ∃ f', f = f' + 1 := ⟨f - 1, by omega⟩
      exact ⟨r, by rw [e, q_r489_neg hr], Or.inr ⟨hr, fun q => c1 (q k (by omega))⟩⟩
/-! A METHOD ON THE TAPE, at place o -/
def s_n (T : Nat → Nat) (o : Nat) : Nat := 256 * T (o + 2) + T (o + 3)
def s_c (T : Nat → Nat) (o k : Nat) : Nat := T (o + 4 + k)
def s_h (T : Nat → Nat) (o : Nat) : Nat := T (o + 4 + s_n T o)
def s_R (T : Nat → Nat) (o i : Nat) : Nat := s_hr T (o + 5 + s_n T o) i
def s_e (T : Nat → Nat) (o : Nat) : Nat := o + 5 + s_n T o + 7 * s_h T o
def s_MOK (T : Nat → Nat) (t N o : Nat) : Prop := o < t ∧ T o ≤ 4 ∧ o + 1 < t ∧ T o ≤ T (o + 1) ∧ T (o + 1) ≤ 20 ∧ o + 3 < t ∧ 1 ≤ s_n T o ∧ s_n T o ≤ 2000 ∧ o + 4 + s_n T o < t ∧ s_h T o ≤ 8 ∧ s_e T o ≤ t ∧
  s_chain (s_c T o) (T (o + 1)) N (s_n T o) ∧ (∀ q, q < s_h T o → s_hk (s_c T o) (s_n T o) (s_R T o) q) ∧ ∀ k, k < s_n T o → s_jk (s_c T o) (s_n T o) k
/-- what the rows 'next' hold of method m -/
def s_Mr (g : hm) (T : Nat → Nat) (m o : Nat) : Prop := g 297 m = nI (T o) ∧ g 298 m = nI (T (o + 1)) ∧ g 299 m = nI (s_n T o) ∧ g 300 m = nI (o + 4) ∧ g 301 m = nI (s_h T o) ∧ s_C g 303 (2001 * m) (s_n T o) (s_c T o) ∧ s_Rw g 302 (32 * m) (s_h T o) (s_R T o)
/-- what reading a method leaves alone -/
def s_Fm (m : Nat) (g g' : hm) : Prop := Fr [285, 293, 297, 298, 299, 300, 301, 302, 303] g g' ∧ Fo [33] g g' ∧ (∀ i, i ≠ m → g' 297 i = g 297 i ∧ g' 298 i = g 298 i ∧ g' 299 i = g 299 i ∧ g' 300 i = g 300 i ∧ g' 301 i = g 301 i) ∧ (∀ i, (i < 2001 * m ∨ 2001 * m + 2001 ≤ i) → g' 303 i = g 303 i) ∧ (∀ i, (i < 32 * m ∨ 32 * m + 32 ≤ i) → g' 302 i = g 302 i) ∧ (g' 300 m = g 300 m ∨ ∃ b, b ≤ 20000 ∧ g' 300 m = nI b)
theorem s_hr_b {T : Nat → Nat} {a h t i : Nat} (hT : ∀ j, j < t → T j < 256) (hi : i < 4 * h) (he : a + 7 * h ≤ t) : s_hr T a i < 65536 := by
  have hq : i / 4 < h := by omega
  unfold s_hr
  split
  · have := hT (a + 7 * (i / 4) + 6) (by omega)
    omega
  · have h4 : i % 4 < 3 := by omega
    have h1 := hT (a + 7 * (i / 4) + 2 * (i % 4)) (by omega)
    have h2 := hT (a + 7 * (i / 4) + 2 * (i % 4) + 1) (by omega)
    omega
set_option maxHeartbeats 2000000 in
/-- readMethod(m, many), with the tape at o -/
theorem q_readMethod {m N t o : Nat} {T : Nat → Nat} {g : hm} (hm8 : m < 8) (hN : N < 256) (hT : s_T g t T) (ha : g 285 33 = nI o) (ho : o ≤ 6000) :
    Tq (nX12_readMethod (nI m) (nI N) g) (fun q => s_Fm m g q.2 ∧ ((q.1 = 0 ∧ s_MOK T t N o ∧ s_Mr q.2 T m o ∧ q.2 285 33 = nI (s_e T o)) ∨ (q.1 < 0 ∧ ¬ s_MOK T t N o))) := by
  have ht := hT.2.1
  have hTb : ∀ i, i < t → T i < 256 := fun i hi => (hT.2.2 i hi).2
  have h8 : hs_in (nI m) 8 = true := hin hm8 (by decide)
  have cm : (nI m).toNatClampNeg = m := cl (by omega)
  have wr : ∀ (g' : hm) (p : Nat), s_Fm m g g' → p < 1000000 → ¬ s_MOK T t N o → Tq (hm_bd (nX12_wrong (nI p) g') fun r g => some (r, g)) (fun q => s_Fm m g q.2 ∧ ((q.1 = 0 ∧ s_MOK T t N o ∧ s_Mr q.2 T m o ∧ q.2 285 33 = nI (s_e T o)) ∨ (q.1 < 0 ∧ ¬ s_MOK T t N o))) := by
    intro g' p hF hp hno
    obtain ⟨r, w1, w2⟩ := q_wrong (g := g') (p := p) (t := t) (by rw [hF.2.1 2 (by decide)]; exact hT.1) hp (by omega)
    rw [w1, hm_bd_s]
    exact Tq.some ⟨hF, Or.inr ⟨w2, hno⟩⟩
  have F0 : s_Fm m g g := ⟨Fr.rf, Fo.rf, fun _ _ => ⟨rfl, rfl, rfl, rfl, rfl⟩, fun _ _ => rfl, fun _ _ => rfl, Or.inl rfl⟩
  have F33 : ∀ (g' : hm) (v : Int32), s_Fm m g g' → s_Fm m g (hm_w g' 285 33 v) := fun g' v h => ⟨h.1.w (by decide), h.2.1.w (by decide), fun i hi => by simp only [hm_w_ne (show (297 : Nat) ≠ 285 by decide), hm_w_ne (show (298 : Nat) ≠ 285 by decide), hm_w_ne (show (299 : Nat) ≠ 285 by decide), hm_w_ne (show (300 : Nat) ≠ 285 by decide), hm_w_ne (show (301 : Nat) ≠ 285 by decide)]; exact h.2.2.1 i hi, fun i hi => by rw [hm_w_ne (by decide)]; exact h.2.2.2.1 i hi, fun i hi => by rw [hm_w_ne (by decide)]; exact h.2.2.2.2.1 i hi, by rw [hm_w_ne (by decide)]; exact h.2.2.2.2.2⟩
  unfold nX12_readMethod
  rw [q_one hT ha (by omega), hm_bd_s]
  generalize hg1 : hm_w g 285 33 (nI (o + 1)) = g1
  have F1 : s_Fm m g g1 := by rw [← hg1]; exact F33 g _ F0
  have A1 : g1 285 33 = nI (o + 1) := by rw [← hg1, hm_w_eq]
  have T1 : s_T g1 t T := hT.fr (F1.2.1 2 (by decide)) (F1.1 286 (by decide))
  have j14 : ¬ s_MOK T t N o → Tq (njX12_readMethod_14 g1) (fun q => s_Fm m g q.2 ∧ ((q.1 = 0 ∧ s_MOK T t N o ∧ s_Mr q.2 T m o ∧ q.2 285 33 = nI (s_e T o)) ∨ (q.1 < 0 ∧ ¬ s_MOK T t N o))) := by
    intro hno
    unfold njX12_readMethod_14
    rw [A1, nI_pred]
    exact wr g1 o F1 (by omega) hno
  by_cases p0 : o < t
  rotate_left
  · rw [if_neg p0, if_pos (by decide)]
    exact j14 (fun q => p0 q.1)
  have b0 := hTb o p0
  rw [if_pos p0, if_neg (nI_pos (by omega))]
  by_cases p1 : T o ≤ 4
  rotate_left
  · have u : ¬ nI (T o) ≤ (4 : Int32) := fun q => p1 ((lei (b := 4) (by omega) (by decide)).mp q)
    rw [if_neg u]
    exact j14 (fun q => p1 q.2.1)
  have u1 : nI (T o) ≤ (4 : Int32) := (lei (b := 4) (by omega) (by decide)).mpr p1
  rw [if_pos u1, q_one T1 A1 (by omega), hm_bd_s]
  generalize hg2 : hm_w g1 285 33 (nI (o + 1 + 1)) = g2
  have F2 : s_Fm m g g2 := by rw [← hg2]; exact F33 g1 _ F1
  have A2 : g2 285 33 = nI (o + 2) := by rw [← hg2, hm_w_eq]
  have T2 : s_T g2 t T := hT.fr (F2.2.1 2 (by decide)) (F2.1 286 (by decide))
  have j44 : ¬ s_MOK T t N o → Tq (njX12_readMethod_44 g2) (fun q => s_Fm m g q.2 ∧ ((q.1 = 0 ∧ s_MOK T t N o ∧ s_Mr q.2 T m o ∧ q.2 285 33 = nI (s_e T o)) ∨ (q.1 < 0 ∧ ¬ s_MOK T t N o))) := by
    intro hno
    unfold njX12_readMethod_44
    rw [A2, nI_pred]
    exact wr g2 (o + 1) F2 (by omega) hno
  by_cases p2 : o + 1 < t
  rotate_left
  · have u : (-1 : Int32) < nI (T o) := Int32.lt_of_lt_of_le (show (-1 : Int32) < 0 by decide) (nI_pos' (by omega))
    rw [if_neg p2, if_pos u]
    exact j44 (fun q => p2 q.2.2.1)
  have b1 := hTb (o + 1) p2
  rw [if_pos p2]
  by_cases p3 : T o ≤ T (o + 1)
  rotate_left
  · rw [if_pos ((lti (by omega) (by omega)).mpr (by omega))]
    exact j44 (fun q => p3 q.2.2.2.1)
  rw [if_neg (fun q => absurd ((lti (by omega) (by omega)).mp q) (by omega))]
  by_cases p4 : T (o + 1) ≤ 20
  rotate_left
  · have u : ¬ nI (T (o + 1)) ≤ (20 : Int32) := fun q => p4 ((lei (b := 20) (by omega) (by decide)).mp q)
    rw [if_neg u]
    exact j44 (fun q => p4 q.2.2.2.2.1)
  have u4 : nI (T (o + 1)) ≤ (20 : Int32) := (lei (b := 20) (by omega) (by decide)).mpr p4
  rw [if_pos u4, q_two T2 A2 (by omega), hm_bd_s]
  generalize hg3 : hm_w g2 285 33 (nI (o + 2 + 2)) = g3
  have F3 : s_Fm m g g3 := by rw [← hg3]; exact F33 g2 _ F2
  have A3 : g3 285 33 = nI (o + 4) := by rw [← hg3, hm_w_eq]
  have T3 : s_T g3 t T := hT.fr (F3.2.1 2 (by decide)) (F3.1 286 (by decide))
  by_cases p5 : o + 3 < t
  rotate_left
  · have u : ¬ (0 : Int32) ≤ -1 := by decide
    rw [if_neg (show ¬ o + 2 + 1 < t from p5), if_neg u, T3.1]
    exact wr g3 t F3 (by omega) (fun q => p5 q.2.2.2.2.2.1)
  have b2 := hTb (o + 2) (by omega)
  have b3 := hTb (o + 3) p5
  have en : 256 * T (o + 2) + T (o + 2 + 1) = s_n T o := rfl
  have bn : s_n T o < 65536 := by unfold s_n; omega
  rw [if_pos (show o + 2 + 1 < t from p5), en, if_pos (nI_pos' (by omega))]
  have j89 : ¬ s_MOK T t N o → Tq (njX12_readMethod_89 g3) (fun q => s_Fm m g q.2 ∧ ((q.1 = 0 ∧ s_MOK T t N o ∧ s_Mr q.2 T m o ∧ q.2 285 33 = nI (s_e T o)) ∨ (q.1 < 0 ∧ ¬ s_MOK T t N o))) := by
    intro hno
    unfold njX12_readMethod_89
    have e : nI (o + 4) - (2 : Int32) = nI (o + 2) := by rw [show (2 : Int32) = nI 2 from rfl, pk_sub (by omega)]; rfl
    rw [A3, e]
    exact wr g3 (o + 2) F3 (by omega) hno
  by_cases p6 : 1 ≤ s_n T o
  rotate_left
  · have u : nI (s_n T o) < (1 : Int32) := (lti (b := 1) (by omega) (by decide)).mpr (by omega)
    rw [if_pos u]
    exact j89 (fun q => p6 q.2.2.2.2.2.2.1)
  have u6 : ¬ nI (s_n T o) < (1 : Int32) := fun q => absurd ((lti (b := 1) (by omega) (by decide)).mp q) (by omega)
  rw [if_neg u6]
  by_cases p7 : s_n T o ≤ 2000
  rotate_left
  · have u : ¬ nI (s_n T o) ≤ (2000 : Int32) := fun q => p7 ((lei (b := 2000) (by omega) (by decide)).mp q)
    rw [if_neg u]
    exact j89 (fun q => p7 q.2.2.2.2.2.2.2.1)
  have u7 : nI (s_n T o) ≤ (2000 : Int32) := (lei (b := 2000) (by omega) (by decide)).mpr p7
  rw [if_pos u7, if_pos h8, if_pos h8, if_pos h8, cm]
  refine Tq.bve rfl ?_
  rw [if_pos h8]
  generalize hg4 : hm_w (hm_w (hm_w g3 297 m (nI (T o))) 298 m (nI (T (o + 1)))) 299 m (nI (s_n T o)) = g4
  have e33 : g4 285 33 = nI (o + 4) := by rw [← hg4, hm_w_ne (by decide), hm_w_ne (by decide), hm_w_ne (by decide)]; exact A3
  rw [e33]
  generalize hg5 : hm_w g4 300 m (nI (o + 4)) = g5
  have F5 : s_Fm m g g5 := by
    rw [← hg5, ← hg4]
    refine ⟨(((F3.1.w (by decide)).w (by decide)).w (by decide)).w (by decide), (((F3.2.1.wa (by decide)).wa (by decide)).wa (by decide)).wa (by decide), fun i hi => ?_, fun i hi => ?_, fun i hi => ?_, Or.inr ⟨o + 4, by omega, hm_w_eq _ _ _ _⟩⟩
    · obtain ⟨x1, x2, x3, x4, x5⟩ := F3.2.2.1 i hi
      refine ⟨?_, ?_, ?_, ?_, ?_⟩
      · rw [hm_w_ne (by decide), hm_w_ne (by decide), hm_w_ne (by decide), hm_w_o hi]; exact x1
      · rw [hm_w_ne (by decide), hm_w_ne (by decide), hm_w_o hi, hm_w_ne (by decide)]; exact x2
      · rw [hm_w_ne (by decide), hm_w_o hi, hm_w_ne (by decide), hm_w_ne (by decide)]; exact x3
      · rw [hm_w_o hi, hm_w_ne (by decide), hm_w_ne (by decide), hm_w_ne (by decide)]; exact x4
      · rw [hm_w_ne (by decide), hm_w_ne (by decide), hm_w_ne (by decide), hm_w_ne (by decide)]; exact x5
    · rw [hm_w_ne (by decide), hm_w_ne (by decide), hm_w_ne (by decide), hm_w_ne (by decide)]; exact F3.2.2.2.1 i hi
    · rw [hm_w_ne (by decide), hm_w_ne (by decide), hm_w_ne (by decide), hm_w_ne (by decide)]; exact F3.2.2.2.2.1 i hi
  have v1 : g5 297 m = nI (T o) := by rw [← hg5, ← hg4, hm_w_ne (by decide), hm_w_ne (by decide), hm_w_ne (by decide), hm_w_eq]
  have v2 : g5 298 m = nI (T (o + 1)) := by rw [← hg5, ← hg4, hm_w_ne (by decide), hm_w_ne (by decide), hm_w_eq]
  have v3 : g5 299 m = nI (s_n T o) := by rw [← hg5, ← hg4, hm_w_ne (by decide), hm_w_eq]
  have v4 : g5 300 m = nI (o + 4) := by rw [← hg5, hm_w_eq]
  have A5 : g5 285 33 = nI (o + 4) := by rw [← hg5, hm_w_ne (by decide)]; exact e33
  have T5 : s_T g5 t T := hT.fr (F5.2.1 2 (by decide)) (F5.1 286 (by decide))
  rw [A5, T5.1, nI_add]
  by_cases p8 : o + 4 + s_n T o ≤ t
  rotate_left
  · rw [if_neg (fun q => p8 ((lei (by omega) (by omega)).mp q))]
    exact wr g5 t F5 (by omega) (fun q => absurd q.2.2.2.2.2.2.2.2.1 (by omega))
  rw [if_pos ((lei (by omega) (by omega)).mpr p8)]
  refine Tq.bv ((q_r159 (a := o + 4) hm8 p7 p8 (nI N) (s_n T o) 0 hs_N g5 (by omega) (by unfold hs_N; omega) T5 A5).mono fun g6 h6 => ?_)
  obtain ⟨f6, o6, A6, c6⟩ := h6
  have F6 : s_Fm m g g6 := ⟨F5.1.trans (f6.mono (by decide)), F5.2.1.trans o6, fun i hi => by rw [f6 297 (by decide), f6 298 (by decide), f6 299 (by decide), f6 300 (by decide), f6 301 (by decide)]; exact F5.2.2.1 i hi, fun i hi => by rw [c6 i, if_neg (by omega)]; exact F5.2.2.2.1 i hi, fun i hi => by rw [f6 302 (by decide)]; exact F5.2.2.2.2.1 i hi, by rw [f6 300 (by decide)]; exact F5.2.2.2.2.2⟩
  have T6 : s_T g6 t T := hT.fr (F6.2.1 2 (by decide)) (F6.1 286 (by decide))
  rw [q_one T6 A6 (by omega), hm_bd_s]
  generalize hg7 : hm_w g6 285 33 (nI (o + 4 + s_n T o + 1)) = g7
  have F7 : s_Fm m g g7 := by rw [← hg7]; exact F33 g6 _ F6
  have A7 : g7 285 33 = nI (o + 5 + s_n T o) := by rw [← hg7, hm_w_eq, show o + 4 + s_n T o + 1 = o + 5 + s_n T o by omega]
  have j207 : ¬ s_MOK T t N o → Tq (njX12_readMethod_207 g7) (fun q => s_Fm m g q.2 ∧ ((q.1 = 0 ∧ s_MOK T t N o ∧ s_Mr q.2 T m o ∧ q.2 285 33 = nI (s_e T o)) ∨ (q.1 < 0 ∧ ¬ s_MOK T t N o))) := by
    intro hno
    unfold njX12_readMethod_207
    rw [A7, show o + 5 + s_n T o = (o + 4 + s_n T o) + 1 by omega, nI_pred]
    exact wr g7 _ F7 (by omega) hno
  by_cases p9 : o + 4 + s_n T o < t
  rotate_left
  · rw [if_neg p9, if_pos (by decide)]
    exact j207 (fun q => p9 q.2.2.2.2.2.2.2.2.1)
  have bh := hTb _ p9
  have eh : T (o + 4 + s_n T o) = s_h T o := rfl
  rw [if_pos p9, eh, if_neg (nI_pos (by omega))]
  by_cases p10 : s_h T o ≤ 8
  rotate_left
  · have u : ¬ nI (s_h T o) ≤ (8 : Int32) := fun q => p10 ((lei (b := 8) (by omega) (by decide)).mp q)
    rw [if_neg u]
    exact j207 (fun q => p10 q.2.2.2.2.2.2.2.2.2.1)
  have u10 : nI (s_h T o) ≤ (8 : Int32) := (lei (b := 8) (by omega) (by decide)).mpr p10
  rw [if_pos u10, if_pos h8]
  generalize hg8 : hm_w g7 301 m (nI (s_h T o)) = g8
  have F8 : s_Fm m g g8 := by
    rw [← hg8]
    refine ⟨F7.1.w (by decide), F7.2.1.wa (by decide), fun i hi => ?_, fun i hi => ?_, fun i hi => ?_, by rw [hm_w_ne (by decide)]; exact F7.2.2.2.2.2⟩
    · obtain ⟨x1, x2, x3, x4, x5⟩ := F7.2.2.1 i hi
      refine ⟨?_, ?_, ?_, ?_, ?_⟩
      · rw [hm_w_ne (by decide)]; exact x1
      · rw [hm_w_ne (by decide)]; exact x2
      · rw [hm_w_ne (by decide)]; exact x3
      · rw [hm_w_ne (by decide)]; exact x4
      · rw [hm_w_o hi]; exact x5
    · rw [hm_w_ne (by decide)]; exact F7.2.2.2.1 i hi
    · rw [hm_w_ne (by decide)]; exact F7.2.2.2.2.1 i hi
  have A8 : g8 285 33 = nI (o + 5 + s_n T o) := by rw [← hg8, hm_w_ne (by decide)]; exact A7
  have T8 : s_T g8 t T := hT.fr (F8.2.1 2 (by decide)) (F8.1 286 (by decide))
  have e7 : (7 : Int32) * nI (s_h T o) = nI (7 * s_h T o) := pk_mul 7 _
  have ee : o + 5 + s_n T o + 7 * s_h T o = s_e T o := rfl
  have k86 : ∀ a, a ≠ 301 → a ≠ 285 → g8 a = g6 a := fun a x1 x2 => by rw [← hg8, ← hg7, hm_w_ne x1, hm_w_ne x2]
  rw [A8, T8.1, e7, nI_add, ee]
  by_cases p11 : s_e T o ≤ t
  rotate_left
  · rw [if_neg (fun q => p11 ((lei (by unfold s_e; omega) (by omega)).mp q))]
    exact wr g8 t F8 (by omega) (fun q => p11 q.2.2.2.2.2.2.2.2.2.2.1)
  rw [if_pos ((lei (by omega) (by omega)).mpr p11)]
  refine Tq.bv ((q_r261 (a := o + 5 + s_n T o) hm8 p10 p11 (nI N) _ _ (s_h T o) 0 hs_N g8 (by omega) (by unfold hs_N; omega) T8 A8).mono fun g9 h9 => ?_)
  obtain ⟨f9, o9, A9, c9⟩ := h9
  have F9 : s_Fm m g g9 := ⟨F8.1.trans (f9.mono (by decide)), F8.2.1.trans o9, fun i hi => by rw [f9 297 (by decide), f9 298 (by decide), f9 299 (by decide), f9 300 (by decide), f9 301 (by decide)]; exact F8.2.2.1 i hi, fun i hi => by rw [f9 303 (by decide)]; exact F8.2.2.2.1 i hi, fun i hi => by rw [c9 i, if_neg (by omega)]; exact F8.2.2.2.2.1 i hi, by rw [f9 300 (by decide)]; exact F8.2.2.2.2.2⟩
  have w1 : g9 297 m = nI (T o) := by rw [f9 297 (by decide), k86 297 (by decide) (by decide), f6 297 (by decide)]; exact v1
  have w2 : g9 298 m = nI (T (o + 1)) := by rw [f9 298 (by decide), k86 298 (by decide) (by decide), f6 298 (by decide)]; exact v2
  have w3 : g9 299 m = nI (s_n T o) := by rw [f9 299 (by decide), k86 299 (by decide) (by decide), f6 299 (by decide)]; exact v3
  have w4 : g9 300 m = nI (o + 4) := by rw [f9 300 (by decide), k86 300 (by decide) (by decide), f6 300 (by decide)]; exact v4
  have w5 : g9 301 m = nI (s_h T o) := by rw [f9 301 (by decide), ← hg8, hm_w_eq]
  have wC : s_C g9 303 (2001 * m) (s_n T o) (s_c T o) := fun k hk => ⟨by rw [f9 303 (by decide), k86 303 (by decide) (by decide), c6, if_pos (by omega), show o + 4 + (2001 * m + k - 2001 * m) = o + 4 + k by omega]; rfl, hTb _ (by omega)⟩
  have wR : s_Rw g9 302 (32 * m) (s_h T o) (s_R T o) := fun i hi => ⟨by rw [c9, if_pos (by omega), show 32 * m + i - 32 * m = i by omega]; rfl, s_hr_b hTb hi p11⟩
  have T9 : s_T g9 t T := hT.fr (F9.2.1 2 (by decide)) (F9.1 286 (by decide))
  refine Tq.bd ((q_instr hm8 hN (show T (o + 1) < 256 by omega) p7 T9.1 ht w2 w3 w4 (by omega) wC).mono fun q hq => ?_)
  obtain ⟨fq, bq, alt⟩ := hq
  have Fq : s_Fm m g q.2 := ⟨F9.1.trans (fq.mono (by decide)), F9.2.1.trans (Fo.of fq (by decide)), fun i hi => by rw [fq 297 (by decide), fq 298 (by decide), fq 299 (by decide), fq 300 (by decide), fq 301 (by decide)]; exact F9.2.2.1 i hi, fun i hi => by rw [fq 303 (by decide)]; exact F9.2.2.2.1 i hi, fun i hi => by rw [fq 302 (by decide)]; exact F9.2.2.2.2.1 i hi, by rw [fq 300 (by decide)]; exact F9.2.2.2.2.2⟩
  rcases alt with ⟨q0, hch, hBg⟩ | ⟨qneg, hch⟩
  · have gt' : q.2 285 2 = nI t := by rw [fq 285 (by decide)]; exact T9.1
    have gn' : q.2 299 m = nI (s_n T o) := by rw [fq 299 (by decide)]; exact w3
    have gb' : q.2 300 m = nI (o + 4) := by rw [fq 300 (by decide)]; exact w4
    have hC' : s_C q.2 303 (2001 * m) (s_n T o) (s_c T o) := fun k hk => by rw [fq 303 (by decide)]; exact wC k hk
    have hR' : s_Rw q.2 302 (32 * m) (s_h T o) (s_R T o) := fun i hi => by rw [fq 302 (by decide)]; exact wR i hi
    rw [q0]
    obtain ⟨r1, x1, y1⟩ := q_r346_loop hm8 p7 p10 (show o + 5 + s_n T o ≤ 10000 by omega) gt' ht gn' hBg hR' (s_h T o) 0 hs_N (by omega) (by unfold hs_N; omega) (fun z hz => absurd hz (Nat.not_lt_zero z))
    have e0 : (0 : Int32) = nI 0 := rfl
    rw [e0] at x1 ⊢
    rw [x1, hm_bd_s]
    unfold njX12_readMethod_486
    rcases y1 with ⟨r10, hok⟩ | ⟨r1n, hok⟩
    · rw [r10]
      obtain ⟨r2, x2, y2⟩ := q_r489_loop hm8 p7 gt' ht gn' gb' (by omega) hBg hC' hch (s_n T o) 0 hs_N (by omega) (by unfold hs_N; omega) (fun z hz => absurd hz (Nat.not_lt_zero z))
      rw [e0] at x2 ⊢
      rw [x2, hm_bd_s]
      refine Tq.some ⟨Fq, ?_⟩
      rcases y2 with ⟨r20, hj⟩ | ⟨r2n, hj⟩
      · refine Or.inl ⟨r20, ⟨p0, p1, p2, p3, p4, p5, p6, p7, p9, p10, p11, hch, hok, hj⟩, ⟨by rw [fq 297 (by decide)]; exact w1, by rw [fq 298 (by decide)]; exact w2, gn', gb', by rw [fq 301 (by decide)]; exact w5, hC', hR'⟩, ?_⟩
        rw [fq 285 (by decide), A9]; rfl
      · exact Or.inr ⟨r2n, fun z => hj z.2.2.2.2.2.2.2.2.2.2.2.2.2⟩
    · rw [show hs_N = 4294967295 + 1 from rfl, q_r489_neg r1n, hm_bd_s]
      exact Tq.some ⟨Fq, Or.inr ⟨r1n, fun z => hok z.2.2.2.2.2.2.2.2.2.2.2.2.1⟩⟩
  · rw [show hs_N = 4294967295 + 1 from rfl, q_r346_neg qneg, hm_bd_s]
    unfold njX12_readMethod_486
    rw [show hs_N = 4294967295 + 1 from rfl, q_r489_neg qneg, hm_bd_s]
    exact Tq.some ⟨Fq, Or.inr ⟨qneg, fun z => hch z.2.2.2.2.2.2.2.2.2.2.2.1⟩⟩
