/-! SUMS AND BLOCKS -/
/-- the row of blocks, as booleans -/
def s_Bb (g : hm) (n : Nat) (b : Nat → Bool) : Prop := ∀ i, i ≤ n → g 294 i = s_bI (b i)
theorem s_Bk.bb {g : hm} {n : Nat} {p : Nat → Prop} (h : s_Bk g n p) : ∃ b : Nat → Bool, s_Bb g n b ∧ ∀ i, i ≤ n → (b i = true ↔ p i) := by
  refine ⟨fun i => decide (g 294 i = 1), fun i hi => ?_, fun i hi => ?_⟩
  · obtain ⟨h1, h2⟩ := h i hi
    by_cases e : p i
    · show g 294 i = s_bI (decide (g 294 i = 1))
      rw [h1 e]; rfl
    · show g 294 i = s_bI (decide (g 294 i = 1))
      rw [h2 e]; rfl
  · obtain ⟨h1, h2⟩ := h i hi
    by_cases e : p i
    · simp [h1 e, e]
    · simp [h2 e, e]
theorem s_Bb.fr {g g' : hm} {n : Nat} {b : Nat → Bool} {A : List Nat} (h : s_Bb g n b) (hF : Fr A g g') (h1 : 294 ∉ A) : s_Bb g' n b := fun i hi => by rw [hF _ h1]; exact h i hi
theorem s_Pr.fr {g g' : hm} {P : Nat → Nat} {A : List Nat} (h : s_Pr g P) (hF : Fr A g g') (h1 : 312 ∉ A) : s_Pr g' P := fun i hi => by rw [hF _ h1]; exact h i hi
/-- the sum of the prices from k to the end of its block -/
def s_su (P c : Nat → Nat) (n : Nat) (b : Nat → Bool) : Nat → Nat → Nat
  | 0, _ => 0
  | f + 1, k => P (c k) + if k + s_sz (c k) < n then (if b (k + s_sz (c k)) = true then 0 else s_su P c n b f (k + s_sz (c k))) else 0
def s_sum (P c : Nat → Nat) (n : Nat) (b : Nat → Bool) (k : Nat) : Nat := s_su P c n b n k
theorem s_su_le {P c : Nat → Nat} {n : Nat} {b : Nat → Bool} (hP : ∀ k, k < n → P (c k) ≤ 1000) : ∀ (f k : Nat), k < n → s_su P c n b f k ≤ 1000 * f
  | 0, k, _ => Nat.le_refl _
  | f + 1, k, hk => by
    have h1 := hP k hk
    unfold s_su
    split
    · rename_i h2
      split
      · omega
      · have := s_su_le (b := b) hP f (k + s_sz (c k)) h2
        omega
    · omega
theorem q_sum5 {m n h l N : Nat} {c R P : Nat → Nat} {b : Nat → Bool} {g : hm} (hM : s_Mt n l N h c R) (x : s_G g m n h c R) (hP : s_Pr g P) (hb : s_Bb g n b) : ∀ (d k f v : Nat), n ≤ k + d → d < f → k < n → s_B c k →
    nlX12_sum_5 f (nI m) (nI v) (nI k) g = some (nI (v + s_su P c n b d k), g)
  | d, k, 0, v, _, hf => absurd hf (Nat.not_lt_zero _)
  | 0, k, f + 1, v, hd, _ => fun hk => absurd hk (by omega)
  | d + 1, k, f + 1, v, hd, hf => by
    intro hk hB
    obtain ⟨k1, k2⟩ := q_kindAt x hk
    have hok := hM.2.2.2.2.1 k hB hk
    have hs := s_isK_sz hok.1
    have hsz := hok.2.1
    have hn := x.2.1
    have gn := x.2.2.2.1
    have hm8 := x.1
    rw [nlX12_sum_5_s, k1, hm_bd_s, if_pos (hin k2 (by decide)), k1, hm_bd_s, q_size k2, hm_bd_s, if_pos (hin hm8 (by decide)), cl (show m < 2147483648 by omega), gn, nI_add, cl (show c k < 2147483648 by omega), (hP (c k) k2).2, nI_add]
    unfold s_su
    by_cases c1 : k + s_sz (c k) < n
    rotate_left
    · rw [if_pos ((lei (by omega) (by omega)).mpr (by omega)), if_neg c1]
      rfl
    rw [if_neg (fun q => absurd ((lei (by omega) (by omega)).mp q) (by omega)), if_pos c1, if_pos (hin (show k + s_sz (c k) < 2008 by omega) (by decide)), cl (show k + s_sz (c k) < 2147483648 by omega), hb _ (by omega)]
    by_cases c2 : b (k + s_sz (c k)) = true
    · have u : ¬ s_bI (b (k + s_sz (c k))) = 0 := by rw [c2]; decide
      rw [if_neg u, if_pos c2]
      rfl
    · have u : s_bI (b (k + s_sz (c k))) = 0 := (s_bI_0 _).mpr (by simpa using c2)
      rw [if_pos u, if_neg c2, q_sum5 hM x hP hb d (k + s_sz (c k)) f _ (by omega) (by omega) c1 (s_B_next hB), Nat.add_assoc]
/-- sum() -/
theorem q_sum {m n h l N k : Nat} {c R P : Nat → Nat} {b : Nat → Bool} {g : hm} (hM : s_Mt n l N h c R) (x : s_G g m n h c R) (hP : s_Pr g P) (hb : s_Bb g n b) (hk : k < n) (hB : s_B c k) :
    nX12_sum (nI m) (nI k) g = some (nI (s_sum P c n b k), g) ∧ s_sum P c n b k ≤ 2000000 := by
  have hn := x.2.1
  have e0 : (0 : Int32) = nI 0 := rfl
  unfold nX12_sum
  rw [e0, q_sum5 hM x hP hb n k hs_N 0 (by omega) (by unfold hs_N; omega) hk hB, hm_bd_s, Nat.zero_add]
  refine ⟨rfl, ?_⟩
  have := s_su_le (P := P) (c := c) (n := n) (b := b) (fun k hk => (hP (c k) (q_kindAt x hk).2).1) n k hk
  unfold s_sum
  omega
def s_pay (P c : Nat → Nat) (n : Nat) (b : Nat → Bool) (pd : Bool) (k : Nat) : Nat := if pd = true ∧ b k = true ∧ 0 < s_sum P c n b k then 5 else 0
/-- paidAt() -/
theorem q_paidAt {m n h l N k : Nat} {c R P : Nat → Nat} {b : Nat → Bool} {g : hm} (hM : s_Mt n l N h c R) (x : s_G g m n h c R) (hP : s_Pr g P) (hb : s_Bb g n b) (hk : k < n) (hB : s_B c k) (pd : Bool) :
    nX12_paidAt (nI m) (nI k) (s_bI pd) g = some (nI (s_pay P c n b pd k), g) := by
  have hn := x.2.1
  unfold nX12_paidAt s_pay
  by_cases c1 : pd = true
  rotate_left
  · rw [if_pos ((s_bI_0 _).mpr (by simpa using c1)), if_neg (fun q => c1 q.1)]; rfl
  have u : ¬ s_bI pd = 0 := by rw [c1]; decide
  rw [if_neg u, if_pos (hin (show k < 2008 by omega) (by decide)), cl (by omega), hb k (by omega)]
  by_cases c2 : b k = true
  rotate_left
  · rw [if_pos ((s_bI_0 _).mpr (by simpa using c2)), if_neg (fun q => c2 q.2.1)]; rfl
  have u2 : ¬ s_bI (b k) = 0 := by rw [c2]; decide
  obtain ⟨s1, s2⟩ := q_sum hM x hP hb hk hB
  rw [if_neg u2, s1, hm_bd_s]
  by_cases c3 : 0 < s_sum P c n b k
  · rw [if_neg (nI_nle c3 (by omega)), if_pos ⟨c1, c2, c3⟩]; rfl
  · have u3 : nI (s_sum P c n b k) ≤ 0 := by rw [show s_sum P c n b k = 0 by omega]; decide
    rw [if_pos u3, if_neg (fun q => c3 q.2.2)]; rfl
/-- how many blocks begin below i -/
def s_ct (b : Nat → Bool) : Nat → Nat
  | 0 => 0
  | i + 1 => s_ct b i + if b i = true then 1 else 0
theorem s_ct_mono (b : Nat → Bool) {i j : Nat} (h : i ≤ j) : s_ct b i ≤ s_ct b j := by
  induction h with
  | refl => exact Nat.le_refl _
  | step _ ih => exact Nat.le_trans ih (Nat.le_add_right _ _)
theorem s_ct_le (b : Nat → Bool) : ∀ i, s_ct b i ≤ i
  | 0 => Nat.le_refl _
  | i + 1 => by
    have := s_ct_le b i
    unfold s_ct
    split <;> omega
theorem q_cb9 {m n h : Nat} {c R : Nat → Nat} {b : Nat → Bool} {g : hm} (x : s_G g m n h c R) (hb : s_Bb g n b) : ∀ (d k f : Nat), k + d = n → d < f →
    nlX12_countBlocks_9 f (nI m) (nI (s_ct b k)) (nI k) g = some (nI (s_ct b n), g)
  | d, k, 0, _, hf => absurd hf (Nat.not_lt_zero _)
  | 0, k, f + 1, hk, _ => by
    have hn := x.2.1
    have hm8 := x.1
    rw [nlX12_countBlocks_9, if_pos (hin hm8 (by decide)), cl (show m < 2147483648 by omega), x.2.2.2.1, if_pos ((lei (by omega) (by omega)).mpr (by omega)), show k = n by omega]
  | d + 1, k, f + 1, hk, hf => by
    have hn := x.2.1
    have hm8 := x.1
    have ih := q_cb9 x hb d (k + 1) f (by omega) (by omega)
    rw [nlX12_countBlocks_9, if_pos (hin hm8 (by decide)), cl (show m < 2147483648 by omega), x.2.2.2.1, if_neg (fun q => absurd ((lei (by omega) (by omega)).mp q) (by omega)), if_pos (hin (show k < 2008 by omega) (by decide)), cl (show k < 2147483648 by omega), hb k (by omega)]
    unfold njX12_countBlocks_34
    by_cases c2 : b k = true
    · have u : ¬ s_bI (b k) = 0 := by rw [c2]; decide
      rw [if_neg u, nI_1, nI_1]
      rw [show s_ct b (k + 1) = s_ct b k + 1 by rw [s_ct, if_pos c2]] at ih
      exact ih
    · have u : s_bI (b k) = 0 := (s_bI_0 _).mpr (by simpa using c2)
      have e0 : nI (s_ct b k) + (0 : Int32) = nI (s_ct b k) := nI_add _ 0
      rw [if_pos u, nI_1, e0]
      rw [show s_ct b (k + 1) = s_ct b k by rw [s_ct, if_neg c2]; rfl] at ih
      exact ih
/-- countBlocks() -/
theorem q_countBlocks {g : hm} {m n h l N : Nat} {c R : Nat → Nat} (x : s_G g m n h c R) (hM : s_Mt n l N h c R) : Tq (nX12_countBlocks (nI m) g) (fun q => Fr [294] g q.2 ∧ ∃ b : Nat → Bool, s_Bb q.2 n b ∧ (∀ i, i ≤ n → (b i = true ↔ s_bl c n h R i)) ∧ q.1 = nI (s_ct b n)) := by
  have hn := x.2.1
  have e0 : (0 : Int32) = nI 0 := rfl
  unfold nX12_countBlocks
  refine Tq.bv ((q_mark x hM).mono fun q hq => ?_)
  obtain ⟨b, h1, h2⟩ := hq.2.bb
  have := q_cb9 (x.fr hq.1 (by decide) (by decide) (by decide) (by decide)) h1 n 0 hs_N (by omega) (by unfold hs_N; omega)
  rw [e0]
  rw [show s_ct b 0 = 0 from rfl] at this
  rw [this, hm_bd_s]
  exact Tq.some ⟨hq.1, b, h1, h2, rfl⟩
theorem q_b62 {n : Nat} {b : Nat → Bool} {g : hm} (hn : n ≤ 2000) (hb : s_Bb g n b) (v1 v2 v3 v5 : Int32) : ∀ (d e f : Nat), e + d = n → d < f → s_ct b e < s_ct b n →
    ∃ i, e ≤ i ∧ i < n ∧ b i = true ∧ s_ct b i = s_ct b e ∧ nlX12_block_62 f v1 v2 v3 (nI e) v5 g = some (nI i, g)
  | d, e, 0, _, hf => absurd hf (Nat.not_lt_zero _)
  | 0, e, f + 1, he, _ => by
    intro hc
    rw [show e = n by omega] at hc
    omega
  | d + 1, e, f + 1, he, hf => by
    intro hc
    rw [nlX12_block_62, if_pos (hin (show e < 2008 by omega) (by decide)), cl (by omega), hb e (by omega)]
    by_cases c2 : b e = true
    · have u : ¬ s_bI (b e) = 0 := by rw [c2]; decide
      rw [if_neg u]
      exact ⟨e, Nat.le_refl e, by omega, c2, rfl, rfl⟩
    · have u : s_bI (b e) = 0 := (s_bI_0 _).mpr (by simpa using c2)
      rw [if_pos u, nI_1]
      have ec : s_ct b (e + 1) = s_ct b e := by rw [s_ct, if_neg c2]; rfl
      obtain ⟨i, i1, i2, i3, i4, i5⟩ := q_b62 hn hb v1 v2 v3 v5 d (e + 1) f (by omega) (by omega) (by rw [ec]; exact hc)
      exact ⟨i, by omega, i2, i3, by rw [i4, ec], i5⟩
theorem q_b53 {n k : Nat} {b : Nat → Bool} {g : hm} (hn : n ≤ 2000) (hb : s_Bb g n b) (hk : k < s_ct b n) (v1 v3 : Int32) : ∀ (d j f e : Nat) (v4 : Int32), j + d = k + 1 → d < f → v4 + 1 = nI e → e ≤ n → s_ct b e = j → (0 < j → ∃ i, i < n ∧ b i = true ∧ s_ct b i + 1 = j ∧ v4 = nI i) →
    ∃ i, i < n ∧ b i = true ∧ s_ct b i = k ∧ nlX12_block_53 f v1 (nI k) v3 v4 (nI j) g = some (nI i, g)
  | d, j, 0, e, v4, _, hf => absurd hf (Nat.not_lt_zero _)
  | 0, j, f + 1, e, v4, hj, _ => by
    intro h1 h2 h3 h4
    have hkn := s_ct_le b n
    obtain ⟨i, i1, i2, i3, i4⟩ := h4 (by omega)
    rw [nlX12_block_53, if_pos ((lti (by omega) (by omega)).mpr (by omega)), i4]
    exact ⟨i, i1, i2, by omega, rfl⟩
  | d + 1, j, f + 1, e, v4, hj, hf => by
    intro h1 h2 h3 h4
    have hkn := s_ct_le b n
    obtain ⟨i, i1, i2, i3, i4, i5⟩ := q_b62 hn hb v1 (nI k) v3 (nI j) (n - e) e hs_N (by omega) (by unfold hs_N; omega) (by omega)
    rw [nlX12_block_53, if_neg (fun q => absurd ((lti (by omega) (by omega)).mp q) (by omega)), h1, i5, hm_bd_s, nI_1]
    exact q_b53 hn hb hk v1 v3 d (j + 1) f (i + 1) (nI i) (by omega) (by omega) (nI_1 i) (by omega) (by rw [s_ct, if_pos i3]; omega) (fun _ => ⟨i, i2, i3, by omega, rfl⟩)
theorem s_F.g {g : hm} {N : Nat} {p l n h : Nat → Nat} {c R : Nat → Nat → Nat} (x : s_F g N p l n h c R) (y : s_VF N p l n h c R) {m : Nat} (hm8 : m < N) : s_G g m (n m) (h m) (c m) (R m) ∧ s_Mt (n m) (l m) N (h m) (c m) (R m) := by
  obtain ⟨y1, y2, y3⟩ := y
  obtain ⟨z1, z2, z3, z4, z5⟩ := y3 m hm8
  obtain ⟨w1, w2, w3, w4, w5, w6⟩ := x.2 m hm8
  exact ⟨⟨by omega, z4.2.1, z4.2.2.2.1, w3, w4, w5, w6⟩, z4⟩
/-- which block is asked for -/
def s_bok (N : Nat) (n h : Nat → Nat) (c R : Nat → Nat → Nat) (P : Nat → Nat) (a1 a2 a3 : Int32) (r : Int32) : Prop := ∃ (m k w i : Nat) (b : Nat → Bool), m < N ∧ a1 = nI m ∧ a2 = nI k ∧ a3 = nI w ∧ w ≤ 1 ∧ (∀ i, i ≤ n m → (b i = true ↔ s_bl (c m) (n m) (h m) (R m) i)) ∧ k < s_ct b (n m) ∧ i < n m ∧ b i = true ∧ s_ct b i = k ∧ r = if w = 0 then nI i else nI (s_sum P (c m) (n m) b i)
theorem s_bl_B {n l N h : Nat} {c R : Nat → Nat} (hM : s_Mt n l N h c R) {i : Nat} (hi : i < n) (h0 : s_bl c n h R i) : s_B c i := by
  rcases h0 with e | ⟨z, z1, z2⟩ | ⟨j, j1, j2, j3, j4⟩
  · rw [e]; exact s_B_0 c
  · rw [z2]; exact (hM.h2 z1).2
  · rcases j4 with ⟨u1, u2⟩ | ⟨u1, u2⟩
    · rw [u2]; exact (hM.2.2.2.2.2.2 j j3 j1 u1).2.2
    · rw [u2]; exact s_B_next j1
/-- block() -/
theorem q_block {g : hm} {N : Nat} {p l n h : Nat → Nat} {c R : Nat → Nat → Nat} {P : Nat → Nat} (hV : ¬ g 285 3 = 0 → s_F g N p l n h c R ∧ s_VF N p l n h c R) (hP : s_Pr g P) (a1 a2 a3 : Int32) :
    Tq (nX12_block a1 a2 a3 g) (fun q => Fr [294] g q.2 ∧ ((g 285 3 = 0 ∧ q.1 = -2) ∨ (¬ g 285 3 = 0 ∧ ((∃ r, s_bok N n h c R P a1 a2 a3 r) → s_bok N n h c R P a1 a2 a3 q.1) ∧ ((¬ ∃ r, s_bok N n h c R P a1 a2 a3 r) → q.1 = -3)))) := by
  unfold nX12_block
  by_cases c0 : g 285 3 = 0
  · rw [if_pos c0]
    exact Tq.some ⟨Fr.rf, Or.inl ⟨c0, rfl⟩⟩
  obtain ⟨x, y⟩ := hV c0
  have hN := y.2.1
  rw [if_neg c0]
  have bad : (¬ ∃ r, s_bok N n h c R P a1 a2 a3 r) → ∀ g', Fr [294] g g' → Tq (some ((-3 : Int32), g')) (fun q => Fr [294] g q.2 ∧ ((g 285 3 = 0 ∧ q.1 = -2) ∨ (¬ g 285 3 = 0 ∧ ((∃ r, s_bok N n h c R P a1 a2 a3 r) → s_bok N n h c R P a1 a2 a3 q.1) ∧ ((¬ ∃ r, s_bok N n h c R P a1 a2 a3 r) → q.1 = -3)))) :=
    fun no g' hF => Tq.some ⟨hF, Or.inr ⟨c0, fun q => absurd q no, fun _ => rfl⟩⟩
  by_cases c1 : a1 < 0
  · rw [if_pos c1]
    refine bad ?_ g Fr.rf
    rintro ⟨r, m, k, w, i, b, h1, h2, h3⟩
    rw [h2] at c1
    exact nI_pos (by omega) c1
  obtain ⟨m, hm0, em⟩ := nI_of c1
  subst em
  rw [if_neg c1, x.1]
  by_cases c2 : m < N
  rotate_left
  · rw [if_pos ((lei (by omega) (by omega)).mpr (by omega))]
    refine bad ?_ g Fr.rf
    rintro ⟨r, m', k, w, i, b, h1, h2, h3⟩
    have := (eqi (by omega) (by omega)).mp h2
    omega
  rw [if_neg (fun q => absurd ((lei (by omega) (by omega)).mp q) (by omega))]
  by_cases c3 : a3 < 0
  · rw [if_pos c3]
    refine bad ?_ g Fr.rf
    rintro ⟨r, m', k, w, i, b, h1, h2, h3, h4, h5, h6⟩
    rw [h4] at c3
    exact nI_pos (by omega) c3
  obtain ⟨w, hw0, ew⟩ := nI_of c3
  subst ew
  rw [if_neg c3]
  by_cases c4 : w ≤ 1
  rotate_left
  · have u : (1 : Int32) < nI w := (lti (a := 1) (by decide) (by omega)).mpr (by omega)
    rw [if_pos u]
    refine bad ?_ g Fr.rf
    rintro ⟨r, m', k, w', i, b, h1, h2, h3, h4, h5, h6⟩
    have := (eqi (by omega) (by omega)).mp h4
    omega
  have u4 : ¬ (1 : Int32) < nI w := fun q => absurd ((lti (a := 1) (by decide) (by omega)).mp q) (by omega)
  rw [if_neg u4]
  by_cases c5 : a2 < 0
  · rw [if_pos c5]
    refine bad ?_ g Fr.rf
    rintro ⟨r, m', k, w', i, b, h1, h2, h3, h4, h5, h6, h7, h8⟩
    rw [h3] at c5
    have k1 := s_ct_le b (n m')
    have k2 := (x.g y h1).1.2.1
    exact nI_pos (by omega) c5
  obtain ⟨k, hk0, ek⟩ := nI_of c5
  subst ek
  rw [if_neg c5]
  obtain ⟨G, M⟩ := x.g y c2
  have hn := G.2.1
  refine Tq.bd ((q_countBlocks G M).mono fun q hq => ?_)
  obtain ⟨F1, b, b1, b2, b3⟩ := hq
  have ctn := s_ct_le b (n m)
  have cteq : ∀ b' : Nat → Bool, (∀ i, i ≤ n m → (b' i = true ↔ s_bl (c m) (n m) (h m) (R m) i)) → ∀ i, i ≤ n m → s_ct b' i = s_ct b i := by
    intro b' hb' i
    induction i with
    | zero => intro _; rfl
    | succ i ih =>
      intro hi
      have e : b' i = b i := by
        have u1 := hb' i (by omega)
        have u2 := b2 i (by omega)
        rw [← u2] at u1
        cases v1 : b' i <;> cases v2 : b i <;> simp [v1, v2] at u1 ⊢
      rw [s_ct, s_ct, ih (by omega), e]
  by_cases c6 : k < s_ct b (n m)
  rotate_left
  · rw [b3, if_neg (fun q => absurd ((lti (by omega) (by omega)).mp q) (by omega))]
    refine bad ?_ _ F1
    rintro ⟨r, m', k', w', i, b', h1, h2, h3, h4, h5, h6, h7, h8⟩
    have e1 := (eqi (by omega) (by omega)).mp h2
    subst e1
    have k1 := s_ct_le b' (n m)
    have e2 := (eqi (by omega) (by omega)).mp h3
    rw [cteq b' h6 _ (Nat.le_refl _)] at h7
    omega
  rw [b3, if_pos ((lti (by omega) (by omega)).mpr c6)]
  have e0 : (0 : Int32) = nI 0 := rfl
  obtain ⟨i, i1, i2, i3, i4⟩ := q_b53 hn b1 c6 (nI m) (nI w) (k + 1) 0 hs_N 0 (-1) (by omega) (by unfold hs_N; omega) (by decide) (by omega) rfl (fun q => absurd q (by omega))
  have G1 := G.fr F1 (by decide) (by decide) (by decide) (by decide)
  have P1 := hP.fr F1 (by decide)
  obtain ⟨s1, s2⟩ := q_sum M G1 P1 b1 i1 (s_bl_B M i1 ((b2 i (by omega)).mp i2))
  have i4' : nlX12_block_53 hs_N (nI m) (nI k) (nI w) (-1) (0 : Int32) q.2 = some (nI i, q.2) := i4
  rw [i4', hm_bd_s]
  by_cases c7 : w = 0
  · have u : nI w = 0 := by rw [c7]; rfl
    rw [if_pos u]
    refine Tq.some ⟨F1, Or.inr ⟨c0, fun _ => ⟨m, k, w, i, b, c2, rfl, rfl, rfl, c4, b2, c6, i1, i2, i3, ?_⟩, fun no => absurd ⟨_, m, k, w, i, b, c2, rfl, rfl, rfl, c4, b2, c6, i1, i2, i3, rfl⟩ no⟩⟩
    rw [if_pos c7]
  · have u : ¬ nI w = 0 := nI_ne0 (by omega) (by omega)
    rw [if_neg u, s1, hm_bd_s]
    refine Tq.some ⟨F1, Or.inr ⟨c0, fun _ => ⟨m, k, w, i, b, c2, rfl, rfl, rfl, c4, b2, c6, i1, i2, i3, ?_⟩, fun no => absurd ⟨_, m, k, w, i, b, c2, rfl, rfl, rfl, c4, b2, c6, i1, i2, i3, rfl⟩ no⟩⟩
    rw [if_neg c7]
