/-! BLOCKS -/
/-- the rows of method m of the FILE -/
def s_G (g : hm) (m n h : Nat) (c R : Nat → Nat) : Prop := m < 8 ∧ n ≤ 2000 ∧ h ≤ 8 ∧ g 289 m = nI n ∧ g 290 m = nI h ∧ s_C g 292 (2001 * m) n c ∧ s_Rw g 291 (32 * m) h R
theorem s_G.fr {g g' : hm} {m n h : Nat} {c R : Nat → Nat} {A : List Nat} (x : s_G g m n h c R) (hF : Fr A g g') (h1 : 289 ∉ A) (h2 : 290 ∉ A) (h3 : 291 ∉ A) (h4 : 292 ∉ A) : s_G g' m n h c R := by
  obtain ⟨x1, x2, x3, x4, x5, x6, x7⟩ := x
  exact ⟨x1, x2, x3, by rw [hF _ h1]; exact x4, by rw [hF _ h2]; exact x5, fun k hk => by rw [hF _ h4]; exact x6 k hk, fun i hi => by rw [hF _ h3]; exact x7 i hi⟩
theorem q_kindAt {g : hm} {m n h k : Nat} {c R : Nat → Nat} (x : s_G g m n h c R) (hk : k < n) : nX12_kindAt (nI m) (nI k) g = some (nI (c k), g) ∧ c k < 256 := by
  obtain ⟨hm8, hn, hh, gn, gh, hC, hR⟩ := x
  have e1 : (2001 : Int32) * nI m + nI k = nI (2001 * m + k) := ix 2001 m k
  unfold nX12_kindAt
  rw [e1, if_pos (hin (show 2001 * m + k < 16008 by omega) (by decide)), cl (by omega), (hC k hk).1]
  exact ⟨rfl, (hC k hk).2⟩
theorem q_leads {g : hm} {m n h k l N : Nat} {c R : Nat → Nat} (x : s_G g m n h c R) (hM : s_Mt n l N h c R) (hk : k < n) (hB : s_B c k) (hj : s_isJ (c k) = true) : nX12_leads (nI m) (nI k) g = some (nI (s_tgt c k).toNat, g) ∧ (s_tgt c k).toNat < n ∧ s_B c (s_tgt c k).toNat := by
  obtain ⟨hm8, hn, hh, gn, gh, hC, hR⟩ := x
  have hok := hM.2.2.2.2.1 k hB hk
  have hsz := hok.2.1
  have hs2 := (s_isJ_sz hj).1
  obtain ⟨t1, t2, t3⟩ := q_tgt hC hk hn hok hj
  have hj2 := hM.2.2.2.2.2.2 k hk hB hj
  have e1 : (2001 : Int32) * nI m + nI k = nI (2001 * m + k) := ix 2001 m k
  have e2 : nI (2001 * m + k) + (1 : Int32) = nI (2001 * m + (k + 1)) := nI_add _ 1
  have e3 : nI (2001 * m + k) + (2 : Int32) = nI (2001 * m + (k + 2)) := nI_add _ 2
  have ez : zI (s_tgt c k) = nI (s_tgt c k).toNat := by
    have := zI_n (s_tgt c k).toNat
    rw [Int.toNat_of_nonneg hj2.1] at this
    exact this
  unfold nX12_leads
  rw [e1, e2, e3, if_pos (hin (show 2001 * m + k < 16008 by omega) (by decide)), if_pos (hin (show 2001 * m + (k + 1) < 16008 by omega) (by decide)), if_pos (hin (show 2001 * m + (k + 2) < 16008 by omega) (by decide)), cl (by omega), cl (by omega), cl (by omega), t1, hm_bd_s, ez]
  have b2 := hj2.2.1
  exact ⟨rfl, by have := hj2.1; omega, hj2.2.2⟩
theorem q_m2 {m n : Nat} (hm8 : m < 8) (hn : n ≤ 2000) : ∀ (d k f : Nat) (g : hm), k + d = n + 1 → d < f → g 289 m = nI n →
    Tq (nlX12_mark_2 f (nI m) (nI k) g) (fun q => Fr [294] g q ∧ (∀ i, k ≤ i → i ≤ n → q 294 i = 0) ∧ ∀ i, i < k → q 294 i = g 294 i)
  | d, k, 0, g, _, hf => absurd hf (Nat.not_lt_zero _)
  | 0, k, f + 1, g, hk, _ => by
    intro gn
    rw [nlX12_mark_2_s, if_pos (hin hm8 (by decide)), cl (by omega), gn, if_pos ((lti (by omega) (by omega)).mpr (by omega))]
    exact Tq.some ⟨Fr.rf, fun i h1 h2 => absurd h2 (by omega), fun i _ => rfl⟩
  | d + 1, k, f + 1, g, hk, hf => by
    intro gn
    rw [nlX12_mark_2_s, if_pos (hin hm8 (by decide)), cl (by omega), gn, if_neg (fun q => absurd ((lti (by omega) (by omega)).mp q) (by omega)), if_pos (hin (show k < 2008 by omega) (by decide)), cl (by omega), nI_1]
    refine (q_m2 hm8 hn d (k + 1) f _ (by omega) (by omega) (by rw [hm_w_ne (by decide)]; exact gn)).mono fun q hq => ?_
    obtain ⟨h1, h2, h3⟩ := hq
    refine ⟨fun a ha => (h1 a ha).trans (hm_w_ne (by simpa using ha)), fun i i1 i2 => ?_, fun i i1 => ?_⟩
    · by_cases e : i = k
      · rw [h3 i (by omega), e, hm_w_eq]
      · exact h2 i (by omega) i2
    · rw [h3 i (by omega), hm_w_o (by omega)]
theorem q_m34 {m n h : Nat} {c R : Nat → Nat} (hR2 : ∀ z, z < h → R (4 * z + 2) < n) : ∀ (d k f : Nat) (g : hm), k + d = h → d < f → s_G g m n h c R →
    Tq (nlX12_mark_34 f (nI m) (nI k) g) (fun q => Fr [294] g q ∧ ∀ i, ((∃ z, k ≤ z ∧ z < h ∧ i = R (4 * z + 2)) → q 294 i = 1) ∧ ((¬ ∃ z, k ≤ z ∧ z < h ∧ i = R (4 * z + 2)) → q 294 i = g 294 i))
  | d, k, 0, g, _, hf => absurd hf (Nat.not_lt_zero _)
  | 0, k, f + 1, g, hk, _ => by
    intro x
    obtain ⟨hm8, hn, hh, gn, gh, hC, hR⟩ := x
    rw [nlX12_mark_34_s, if_pos (hin hm8 (by decide)), cl (by omega), gh, if_pos ((lei (by omega) (by omega)).mpr (by omega))]
    refine Tq.some ⟨Fr.rf, fun i => ⟨?_, fun _ => rfl⟩⟩
    rintro ⟨z, h1, h2, _⟩
    omega
  | d + 1, k, f + 1, g, hk, hf => by
    intro x
    have x' := x
    obtain ⟨hm8, hn, hh, gn, gh, hC, hR⟩ := x
    have c1 : (32 : Int32) * nI m + (4 : Int32) * nI k = nI (32 * m + 4 * k) := by rw [show (32 : Int32) = nI 32 from rfl, show (4 : Int32) = nI 4 from rfl, pk_mul, pk_mul, nI_add]
    have c2 : nI (32 * m + 4 * k) + (2 : Int32) = nI (32 * m + (4 * k + 2)) := nI_add _ 2
    have r2 := hR2 k (by omega)
    rw [nlX12_mark_34_s, if_pos (hin hm8 (by decide)), cl (show m < 2147483648 by omega), gh, if_neg (fun q => absurd ((lei (by omega) (by omega)).mp q) (by omega)), c1, c2, if_pos (hin (show 32 * m + (4 * k + 2) < 256 by omega) (by decide)), cl (show 32 * m + (4 * k + 2) < 2147483648 by omega), (hR (4 * k + 2) (by omega)).1, if_pos (hin (show R (4 * k + 2) < 2008 by omega) (by decide)), cl (show R (4 * k + 2) < 2147483648 by omega), nI_1]
    refine Tq.bve rfl ?_
    refine (q_m34 hR2 d (k + 1) f _ (by omega) (by omega) (x'.fr (A := [294]) (Fr.rf.w (by decide)) (by decide) (by decide) (by decide) (by decide))).mono fun q hq => ?_
    obtain ⟨h1, h2⟩ := hq
    refine ⟨fun a ha => (h1 a ha).trans (hm_w_ne (by simpa using ha)), fun i => ?_⟩
    obtain ⟨y1, y2⟩ := h2 i
    by_cases e : ∃ z, k + 1 ≤ z ∧ z < h ∧ i = R (4 * z + 2)
    · refine ⟨fun _ => y1 e, fun q => absurd ?_ q⟩
      obtain ⟨z, z1, z2, z3⟩ := e
      exact ⟨z, by omega, z2, z3⟩
    · rw [y2 e, hm_w_at]
      by_cases e2 : i = R (4 * k + 2)
      · rw [if_pos e2]
        exact ⟨fun _ => rfl, fun q => absurd ⟨k, Nat.le_refl k, by omega, e2⟩ q⟩
      · rw [if_neg e2]
        refine ⟨fun q => ?_, fun _ => rfl⟩
        obtain ⟨z, z1, z2, z3⟩ := q
        by_cases ez : z = k
        · rw [ez] at z3; exact absurd z3 e2
        · exact absurd ⟨z, by omega, z2, z3⟩ e
/-- what an instruction at j says of blocks -/
def s_mk (c : Nat → Nat) (j i : Nat) : Prop := (s_isJ (c j) = true ∧ i = (s_tgt c j).toNat) ∨ ((s_isJ (c j) = true ∨ c j = 172 ∨ c j = 191) ∧ i = j + s_sz (c j))
def s_ma (c : Nat → Nat) (n k i : Nat) : Prop := ∃ j, s_B c j ∧ k ≤ j ∧ j < n ∧ s_mk c j i
theorem s_ma_s {c : Nat → Nat} {n k i : Nat} (hB : s_B c k) (hk : k < n) (hs : 0 < s_sz (c k)) : s_ma c n k i ↔ s_mk c k i ∨ s_ma c n (k + s_sz (c k)) i := by
  constructor
  · rintro ⟨j, h1, h2, h3, h4⟩
    by_cases e : j = k
    · rw [e] at h4; exact Or.inl h4
    · refine Or.inr ⟨j, h1, ?_, h3, h4⟩
      exact Classical.byContradiction fun q => s_B_gap hB (show k < j by omega) (by omega) h1
  · rintro (h | ⟨j, h1, h2, h3, h4⟩)
    · exact ⟨k, hB, Nat.le_refl k, hk, h⟩
    · exact ⟨j, h1, by omega, h3, h4⟩
theorem q_m117 (rec : Int32 → hm → Option hm) (v1 : Int32) {kd k : Nat} (hkd : kd < 256) (hk : k ≤ 2000) (g : hm) : ∃ g', njX12_mark_117 rec v1 (nI kd) (nI k) g = rec (nI k) g' ∧ Fr [294] g g' ∧ ∀ i, g' 294 i = if (s_isJ kd = true ∨ kd = 172 ∨ kd = 191) ∧ i = k then 1 else g 294 i := by
  have j138 : (s_isJ kd = true ∨ kd = 172 ∨ kd = 191) → ∃ g', njX12_mark_138 rec v1 (nI k) g = rec (nI k) g' ∧ Fr [294] g g' ∧ ∀ i, g' 294 i = if (s_isJ kd = true ∨ kd = 172 ∨ kd = 191) ∧ i = k then 1 else g 294 i := by
    intro hp
    unfold njX12_mark_138 njX12_mark_146
    rw [if_pos (hin (show k < 2008 by omega) (by decide)), cl (by omega)]
    refine ⟨_, rfl, Fr.rf.w (by decide), fun i => ?_⟩
    rw [hm_w_at]
    by_cases e : i = k
    · rw [if_pos e, if_pos ⟨hp, e⟩]
    · rw [if_neg e, if_neg (fun q => e q.2)]
  unfold njX12_mark_117
  rw [q_isJump hkd, hm_bd_s]
  by_cases c1 : s_isJ kd = true
  · have u : ¬ s_bI (s_isJ kd) = 0 := by rw [c1]; decide
    rw [if_neg u]
    exact j138 (Or.inl c1)
  have u : s_bI (s_isJ kd) = 0 := (s_bI_0 _).mpr (by simpa using c1)
  rw [if_pos u]
  by_cases c2 : kd = 172
  · have u2 : nI kd = (172 : Int32) := by rw [c2]; rfl
    rw [if_pos u2]
    exact j138 (Or.inr (Or.inl c2))
  have u2 : ¬ nI kd = (172 : Int32) := fun q => c2 ((eqi (b := 172) (by omega) (by decide)).mp q)
  rw [if_neg u2]
  by_cases c3 : kd = 191
  · have u3 : nI kd = (191 : Int32) := by rw [c3]; rfl
    rw [if_pos u3]
    exact j138 (Or.inr (Or.inr c3))
  have u3 : ¬ nI kd = (191 : Int32) := fun q => c3 ((eqi (b := 191) (by omega) (by decide)).mp q)
  rw [if_neg u3]
  unfold njX12_mark_146
  refine ⟨g, rfl, Fr.rf, fun i => ?_⟩
  rw [if_neg]
  rintro ⟨q | q | q, _⟩
  · exact c1 q
  · exact c2 q
  · exact c3 q
theorem q_m73 {m n h l N : Nat} {c R : Nat → Nat} (hM : s_Mt n l N h c R) : ∀ (d k f : Nat) (g : hm), n ≤ k + d → d < f → k ≤ n → s_B c k → s_G g m n h c R →
    Tq (nlX12_mark_73 f (nI m) (nI k) g) (fun q => Fr [294] g q ∧ ∀ i, (s_ma c n k i → q 294 i = 1) ∧ (¬ s_ma c n k i → q 294 i = g 294 i))
  | d, k, 0, g, _, hf => absurd hf (Nat.not_lt_zero _)
  | d, k, f + 1, g, hd, hf => by
    intro hkn hB x
    have x' := x
    obtain ⟨hm8, hn, hh, gn, gh, hC, hR⟩ := x
    rw [nlX12_mark_73_s, if_pos (hin hm8 (by decide)), cl (by omega), gn]
    by_cases e : k = n
    · rw [if_pos ((lei (by omega) (by omega)).mpr (by omega))]
      refine Tq.some ⟨Fr.rf, fun i => ⟨?_, fun _ => rfl⟩⟩
      rintro ⟨j, h1, h2, h3, h4⟩
      omega
    have hk : k < n := by omega
    have hok := hM.2.2.2.2.1 k hB hk
    have hs := s_isK_sz hok.1
    have hsz := hok.2.1
    obtain ⟨k1, k2⟩ := q_kindAt x' hk
    rw [if_neg (fun q => absurd ((lei (by omega) (by omega)).mp q) (by omega)), k1, hm_bd_s, q_size k2, hm_bd_s, q_isJump k2, hm_bd_s, nI_add]
    have go : ∀ g1 : hm, Fr [294] g g1 → (∀ i, (s_isJ (c k) = true ∧ i = (s_tgt c k).toNat → g1 294 i = 1) ∧ (¬ (s_isJ (c k) = true ∧ i = (s_tgt c k).toNat) → g1 294 i = g 294 i)) →
        Tq (njX12_mark_117 (fun y0 g => nlX12_mark_73 f (nI m) y0 g) (nI m) (nI (c k)) (nI (k + s_sz (c k))) g1) (fun q => Fr [294] g q ∧ ∀ i, (s_ma c n k i → q 294 i = 1) ∧ (¬ s_ma c n k i → q 294 i = g 294 i)) := by
      intro g1 F1 B1
      obtain ⟨g2, e2, F2, B2⟩ := q_m117 (fun y0 g => nlX12_mark_73 f (nI m) y0 g) (nI m) k2 (show k + s_sz (c k) ≤ 2000 by omega) g1
      rw [e2]
      obtain ⟨d', rfl⟩ : ∃ d', d = d' + 1 := ⟨d - 1, by omega⟩
      refine (q_m73 hM d' (k + s_sz (c k)) f g2 (by omega) (by omega) hsz (s_B_next hB) (x'.fr (F1.trans F2) (by decide) (by decide) (by decide) (by decide))).mono fun q hq => ⟨(F1.trans F2).trans hq.1, fun i => ?_⟩
      obtain ⟨y1, y2⟩ := hq.2 i
      rw [s_ma_s hB hk hs]
      by_cases ea : s_ma c n (k + s_sz (c k)) i
      · exact ⟨fun _ => y1 ea, fun q => absurd (Or.inr ea) q⟩
      · rw [y2 ea, B2 i]
        by_cases eb : (s_isJ (c k) = true ∨ c k = 172 ∨ c k = 191) ∧ i = k + s_sz (c k)
        · rw [if_pos eb]
          exact ⟨fun _ => rfl, fun q => absurd (Or.inl (Or.inr eb)) q⟩
        · rw [if_neg eb]
          by_cases ec : s_isJ (c k) = true ∧ i = (s_tgt c k).toNat
          · rw [(B1 i).1 ec]
            exact ⟨fun _ => rfl, fun q => absurd (Or.inl (Or.inl ec)) q⟩
          · rw [(B1 i).2 ec]
            refine ⟨fun q => ?_, fun _ => rfl⟩
            rcases q with (q | q) | q
            · exact absurd q ec
            · exact absurd q eb
            · exact absurd q ea
    by_cases hj : s_isJ (c k) = true
    rotate_left
    · have u : s_bI (s_isJ (c k)) = 0 := (s_bI_0 _).mpr (by simpa using hj)
      rw [if_pos u]
      exact go g Fr.rf (fun i => ⟨fun q => absurd q.1 hj, fun _ => rfl⟩)
    have u : ¬ s_bI (s_isJ (c k)) = 0 := by rw [hj]; decide
    obtain ⟨l1, l2, l3⟩ := q_leads x' hM hk hB hj
    rw [if_neg u, l1, hm_bd_s, if_pos (hin (show (s_tgt c k).toNat < 2008 by omega) (by decide)), cl (by omega)]
    refine go _ (Fr.rf.w (by decide)) (fun i => ?_)
    rw [hm_w_at]
    by_cases ei : i = (s_tgt c k).toNat
    · rw [if_pos ei]
      exact ⟨fun _ => rfl, fun q => absurd ⟨hj, ei⟩ q⟩
    · rw [if_neg ei]
      exact ⟨fun q => absurd q.2 ei, fun _ => rfl⟩
/-- where a block begins -/
def s_bl (c : Nat → Nat) (n h : Nat) (R : Nat → Nat) (i : Nat) : Prop := i = 0 ∨ (∃ z, z < h ∧ i = R (4 * z + 2)) ∨ s_ma c n 0 i
/-- the row of blocks -/
def s_Bk (g : hm) (n : Nat) (b : Nat → Prop) : Prop := ∀ i, i ≤ n → (b i → g 294 i = 1) ∧ (¬ b i → g 294 i = 0)
theorem s_Mt.h2 {n l N h : Nat} {c R : Nat → Nat} (hM : s_Mt n l N h c R) {z : Nat} (hz : z < h) : R (4 * z + 2) < n ∧ s_B c (R (4 * z + 2)) := by
  have := (hM.2.2.2.2.2.1 z hz).2.1
  refine ⟨by have := this.2.1; omega, ?_⟩
  have e := this.2.2
  rw [Int.toNat_natCast] at e
  exact e
/-- mark() -/
theorem q_mark {g : hm} {m n h l N : Nat} {c R : Nat → Nat} (x : s_G g m n h c R) (hM : s_Mt n l N h c R) : Tq (nX12_mark (nI m) g) (fun q => Fr [294] g q ∧ s_Bk q n (s_bl c n h R)) := by
  have x' := x
  obtain ⟨hm8, hn, hh, gn, gh, hC, hR⟩ := x
  have e0 : (0 : Int32) = nI 0 := rfl
  unfold nX12_mark
  rw [e0]
  refine Tq.bv ((q_m2 hm8 hn (n + 1) 0 hs_N g (by omega) (by unfold hs_N; omega) gn).mono fun q1 h1 => ?_)
  rw [if_pos (hin (show 0 < 2008 by decide) (by decide)), cl (by decide)]
  have F2 : Fr [294] g (hm_w q1 294 0 (1 : Int32)) := h1.1.w (by decide)
  refine Tq.bv ((q_m34 (fun z hz => (hM.h2 hz).1) h 0 hs_N _ (by omega) (by unfold hs_N; omega) (x'.fr F2 (by decide) (by decide) (by decide) (by decide))).mono fun q2 h2 => ?_)
  have F3 := F2.trans h2.1
  refine Tq.bv ((q_m73 hM n 0 hs_N q2 (by omega) (by unfold hs_N; omega) (by omega) (s_B_0 c) (x'.fr F3 (by decide) (by decide) (by decide) (by decide))).mono fun q3 h3 => ?_)
  refine Tq.some ⟨F3.trans h3.1, fun i hi => ?_⟩
  obtain ⟨y1, y2⟩ := h3.2 i
  by_cases ea : s_ma c n 0 i
  · exact ⟨fun _ => y1 ea, fun q => absurd (Or.inr (Or.inr ea)) q⟩
  rw [y2 ea]
  obtain ⟨z1, z2⟩ := h2.2 i
  by_cases eb : ∃ z, 0 ≤ z ∧ z < h ∧ i = R (4 * z + 2)
  · rw [z1 eb]
    obtain ⟨z, -, u1, u2⟩ := eb
    exact ⟨fun _ => rfl, fun q => absurd (Or.inr (Or.inl ⟨z, u1, u2⟩)) q⟩
  rw [z2 eb, hm_w_at]
  by_cases ec : i = 0
  · rw [if_pos ec]
    exact ⟨fun _ => rfl, fun q => absurd (Or.inl ec) q⟩
  rw [if_neg ec, h1.2.1 i (by omega) hi]
  refine ⟨fun q => ?_, fun _ => rfl⟩
  rcases q with q | ⟨z, u1, u2⟩ | q
  · exact absurd q ec
  · exact absurd ⟨z, Nat.zero_le z, u1, u2⟩ eb
  · exact absurd q ea
