/-! WHERE INSTRUCTIONS BEGIN -/
def s_it (c : Nat → Nat) : Nat → Nat
  | 0 => 0
  | i + 1 => s_it c i + s_sz (c (s_it c i))
def s_B (c : Nat → Nat) (j : Nat) : Prop := ∃ i, s_it c i = j
theorem s_it_mono (c : Nat → Nat) {i j : Nat} (h : i ≤ j) : s_it c i ≤ s_it c j := by
  induction h with
  | refl => exact Nat.le_refl _
  | step _ ih => exact Nat.le_trans ih (Nat.le_add_right _ _)
theorem s_B_0 (c : Nat → Nat) : s_B c 0 := ⟨0, rfl⟩
theorem s_B_next {c : Nat → Nat} {k : Nat} (h : s_B c k) : s_B c (k + s_sz (c k)) := by
  obtain ⟨i, e⟩ := h
  exact ⟨i + 1, by show s_it c i + _ = _; rw [e]⟩
theorem s_B_gap {c : Nat → Nat} {k j : Nat} (h : s_B c k) (h1 : k < j) (h2 : j < k + s_sz (c k)) : ¬ s_B c j := by
  obtain ⟨i, e⟩ := h
  rintro ⟨i', e'⟩
  rcases Nat.lt_or_ge i i' with q | q
  · have a : s_it c (i + 1) ≤ s_it c i' := s_it_mono c q
    have b : s_it c (i + 1) = k + s_sz (c k) := by show s_it c i + _ = _; rw [e]
    omega
  · have a : s_it c i' ≤ s_it c i := s_it_mono c q
    omega
/-- the instruction at k is one that a FILE may have, whole, with an operand that is there -/
def s_okI (c : Nat → Nat) (l N n k : Nat) : Prop := s_isK (c k) = true ∧ k + s_sz (c k) ≤ n ∧ ((c k = 21 ∨ c k = 54) → c (k + 1) < l) ∧ (c k = 184 → c (k + 1) < N) ∧ ((c k = 188 ∨ c k = 190 ∨ c k = 46 ∨ c k = 79) → c (k + 1) < 4)
def s_chain (c : Nat → Nat) (l N n : Nat) : Prop := ∀ k, s_B c k → k < n → s_okI c l N n k
theorem s_isK_sz {k : Nat} (h : s_isK k = true) : 0 < s_sz k := by
  simp only [s_isK, Bool.and_eq_true, decide_eq_true_eq] at h
  exact h.1.1
theorem s_sz_le (k : Nat) : s_sz k ≤ 5 := by
  unfold s_sz
  repeat' split
  all_goals omega
/-- the row of code of method m at address a is c, n bytes -/
def s_C (g : hm) (a b n : Nat) (c : Nat → Nat) : Prop := ∀ k, k < n → g a (b + k) = nI (c k) ∧ c k < 256
theorem s_bI_0 (b : Bool) : s_bI b = 0 ↔ b = false := by cases b <;> simp [s_bI]
theorem q_wrong {g : hm} {p t : Nat} (ht : g 285 2 = nI t) (h1 : p < 1000000) (h2 : t < 1000000) : ∃ r : Int32, nX12_wrong (nI p) g = some (r, g) ∧ r < 0 := by
  unfold nX12_wrong
  rw [ht]
  by_cases c : nI t ≤ nI p
  · rw [if_pos c]
    refine ⟨_, rfl, ?_⟩
    rw [← zI_n, show (-1 : Int32) = zI (-1) from rfl, zI_sub]
    exact (zI_neg (by omega) (by omega)).mpr (by omega)
  · rw [if_neg c]
    refine ⟨_, rfl, ?_⟩
    rw [← zI_n, show (-1 : Int32) = zI (-1) from rfl, zI_sub]
    exact (zI_neg (by omega) (by omega)).mpr (by omega)
theorem q_instr10 {m n : Nat} (hm8 : m < 8) (hn : n ≤ 2000) (v2 : Int32) : ∀ (d k f : Nat) (g : hm), k + d = n + 1 → d < f →
    Tq (nlX12_instructions_10 f (nI m) v2 (nI n) (nI k) g) (fun g' => Fr [293] g g' ∧ ∀ i, g' 293 i = if 2001 * m + k ≤ i ∧ i ≤ 2001 * m + n then 0 else g 293 i)
  | d, k, 0, g, _, hf => absurd hf (Nat.not_lt_zero _)
  | 0, k, f + 1, g, hk, _ => by
    rw [nlX12_instructions_10_s, if_pos ((lti (by omega) (by omega)).mpr (by omega))]
    exact Tq.some ⟨Fr.rf, fun i => by rw [if_neg (by omega)]⟩
  | d + 1, k, f + 1, g, hk, hf => by
    have c1 : (2001 : Int32) * nI m + nI k = nI (2001 * m + k) := ix 2001 m k
    rw [nlX12_instructions_10_s, if_neg (fun q => absurd ((lti (by omega) (by omega)).mp q) (by omega)), c1, if_pos (hin (by omega) (by decide)), cl (by omega), nI_1]
    refine (q_instr10 hm8 hn v2 d (k + 1) f _ (by omega) (by omega)).mono fun g' h => ⟨(Fr.rf.w (by decide)).trans h.1, fun i => ?_⟩
    rw [h.2 i, hm_w_at]
    by_cases e : i = 2001 * m + k
    · rw [if_neg (by omega), if_pos e, if_pos (by omega)]
    · by_cases e2 : 2001 * m + k ≤ i ∧ i ≤ 2001 * m + n
      · rw [if_pos (by omega), if_pos e2]
      · rw [if_neg (by omega), if_neg e, if_neg e2]
/-- a kind by its number -/
theorem keq {k : Nat} (hk : k < 256) (j : Nat) (hj : j < 256) : (nI k = nI j) = (k = j) := propext (eqi (by omega) (by omega))
theorem q_i118_0 (rec : Int32 → hm → Option (Nat × Int32 × hm)) (v1 v2 v3 v4 v5 v6 a : Int32) (g : hm) : njX12_instructions_118 rec v1 v2 v3 v4 v5 v6 0 a g = some (1, v4, g) := by
  simp only [njX12_instructions_118, njX12_instructions_134, njX12_instructions_154, njX12_instructions_155, njX12_instructions_157, njX12_instructions_180, njX12_instructions_181, njX12_instructions_183, njX12_instructions_213, njX12_instructions_228, njX12_instructions_229, njX12_instructions_231, if_true, ite_self]
set_option maxHeartbeats 1000000 in
theorem q_i118_1 (rec : Int32 → hm → Option (Nat × Int32 × hm)) {m N l kd a : Nat} (hm8 : m < 8) (hN : N < 256) (hl : l < 256) (hk : kd < 256) (ha : a < 256) (v3 v4 v5 : Int32) (g : hm) (gl : g 298 m = nI l) (h5 : hs_in v5 16008 = true) :
    njX12_instructions_118 rec (nI m) (nI N) v3 v4 v5 (nI kd) 1 (nI a) g = if ((kd = 21 ∨ kd = 54) → a < l) ∧ (kd = 184 → a < N) ∧ ((kd = 188 ∨ kd = 190 ∨ kd = 46 ∨ kd = 79) → a < 4) then rec (v4 + nI (s_sz kd)) (hm_w g 293 v5.toNatClampNeg 1) else some (1, v4, g) := by
  have e21 : (nI kd = (21 : Int32)) = (kd = 21) := keq hk 21 (by decide)
  have e54 : (nI kd = (54 : Int32)) = (kd = 54) := keq hk 54 (by decide)
  have e184 : (nI kd = (184 : Int32)) = (kd = 184) := keq hk 184 (by decide)
  have e188 : (nI kd = (188 : Int32)) = (kd = 188) := keq hk 188 (by decide)
  have e190 : (nI kd = (190 : Int32)) = (kd = 190) := keq hk 190 (by decide)
  have e46 : (nI kd = (46 : Int32)) = (kd = 46) := keq hk 46 (by decide)
  have e79 : (nI kd = (79 : Int32)) = (kd = 79) := keq hk 79 (by decide)
  have x1 : (nI l ≤ nI a) = (l ≤ a) := propext (lei (by omega) (by omega))
  have x2 : (nI N ≤ nI a) = (N ≤ a) := propext (lei (by omega) (by omega))
  have x3 : ((4 : Int32) ≤ nI a) = (4 ≤ a) := propext (lei (a := 4) (by omega) (by omega))
  have z : ((1 : Int32) = 0) = False := eq_false (by decide)
  have hm9 : hs_in (nI m) 8 = true := hin hm8 (by decide)
  have sz : ∀ g : hm, nX12_size (nI kd) g = some (nI (s_sz kd), g) := fun g => q_size hk g
  simp only [njX12_instructions_118, njX12_instructions_134, njX12_instructions_154, njX12_instructions_155, njX12_instructions_157, njX12_instructions_180, njX12_instructions_181, njX12_instructions_183, njX12_instructions_213, njX12_instructions_228, njX12_instructions_229, njX12_instructions_231, e21, e54, e184, e188, e190, e46, e79, x1, x2, x3, z, hm9, cl (show m < 2147483648 by omega), gl, h5, sz, hm_bd_s, if_true, if_false]
  by_cases k1 : kd = 21
  · subst k1
    by_cases q : l ≤ a
    · simp [q]; try omega
    · simp [q]; try omega
  by_cases k2 : kd = 54
  · subst k2
    by_cases q : l ≤ a
    · simp [q]; try omega
    · simp [q]; try omega
  by_cases k3 : kd = 184
  · subst k3
    by_cases q : N ≤ a
    · simp [q]; try omega
    · simp [q]; try omega
  by_cases k4 : kd = 188 ∨ kd = 190 ∨ kd = 46 ∨ kd = 79
  · by_cases q : 4 ≤ a
    · rcases k4 with rfl | rfl | rfl | rfl <;> (simp [q]; try omega)
    · rcases k4 with rfl | rfl | rfl | rfl <;> (simp [q]; try omega)
  · have k5 : ¬ kd = 188 := fun e => k4 (Or.inl e)
    have k6 : ¬ kd = 190 := fun e => k4 (Or.inr (Or.inl e))
    have k7 : ¬ kd = 46 := fun e => k4 (Or.inr (Or.inr (Or.inl e)))
    have k8 : ¬ kd = 79 := fun e => k4 (Or.inr (Or.inr (Or.inr e)))
    simp [k1, k2, k3, k5, k6, k7, k8]
theorem s_isK_cases {k : Nat} (h : s_isK k = true) : k ≠ 202 ∧ k ≠ 203 := by
  simp only [s_isK, Bool.and_eq_true, Bool.not_eq_true', decide_eq_false_iff_not, decide_eq_true_eq] at h
  exact ⟨h.1.2, h.2⟩
theorem s_opsz {k : Nat} (h : s_sz k ≤ 1) : ¬ (k = 21 ∨ k = 54) ∧ ¬ k = 184 ∧ ¬ (k = 188 ∨ k = 190 ∨ k = 46 ∨ k = 79) := by
  refine ⟨?_, ?_, ?_⟩
  · rintro (rfl | rfl) <;> exact absurd h (by decide)
  · rintro rfl; exact absurd h (by decide)
  · rintro (rfl | rfl | rfl | rfl) <;> exact absurd h (by decide)
/-- one turn of the walk over the instructions -/
theorem q_i39 {m N l n k : Nat} {c : Nat → Nat} (hm8 : m < 8) (hN : N < 256) (hl : l < 256) (hn : n ≤ 2000) (hk : k < n) {g : hm} (gl : g 298 m = nI l) (hC : s_C g 303 (2001 * m) n c) (f : Nat) :
    (s_okI c l N n k → nlX12_instructions_39 (f + 1) (nI m) (nI N) (nI n) (nI k) g = nlX12_instructions_39 f (nI m) (nI N) (nI n) (nI (k + s_sz (c k))) (hm_w g 293 (2001 * m + k) 1)) ∧
    (¬ s_okI c l N n k → nlX12_instructions_39 (f + 1) (nI m) (nI N) (nI n) (nI k) g = some (1, nI k, g)) := by
  obtain ⟨gc, hc⟩ := hC k hk
  have c1 : (2001 : Int32) * nI m + nI k = nI (2001 * m + k) := ix 2001 m k
  have h5 : hs_in (nI (2001 * m + k)) 16008 = true := hin (by omega) (by decide)
  have hsz := s_sz_le (c k)
  rw [nlX12_instructions_39_s, if_neg (fun q => absurd ((lei (by omega) (by omega)).mp q) (by omega)), c1, if_pos h5, cl (by omega), gc, q_isKind hc, hm_bd_s]
  have bad : ∀ (rec : Int32 → hm → Option (Nat × Int32 × hm)), njX12_instructions_88 rec (nI m) (nI N) (nI n) (nI k) (nI (2001 * m + k)) (nI (c k)) g = some (1, nI k, g) := by
    intro rec
    unfold njX12_instructions_88 njX12_instructions_89 njX12_instructions_117
    rw [if_pos rfl, q_i118_0]
  by_cases hK : s_isK (c k) = true
  · rw [if_neg (by rw [hK]; decide), q_size hc, hm_bd_s, nI_add]
    by_cases ho : n < k + s_sz (c k)
    · rw [if_pos ((lti (by omega) (by omega)).mpr ho), bad]
      exact ⟨fun h => absurd h.2.1 (by omega), fun _ => rfl⟩
    · rw [if_neg (fun q => ho ((lti (by omega) (by omega)).mp q))]
      have h1 : ¬ (1 : Int32) = 0 := by decide
      have cR : (2001 * m + k) < 2147483648 := by omega
      unfold njX12_instructions_89 njX12_instructions_117
      rw [if_neg h1, q_size hc, hm_bd_s]
      by_cases hs : s_sz (c k) ≤ 1
      · have c2 : nI (s_sz (c k)) ≤ (1 : Int32) := (lei (b := 1) (by omega) (by decide)).mpr hs
        rw [if_pos c2, show (0 : Int32) = nI 0 from rfl, q_i118_1 _ hm8 hN hl hc (by decide) _ _ _ _ gl h5, cl cR, nI_add]
        obtain ⟨o1, o2, o3⟩ := s_opsz hs
        have hgood : ((c k = 21 ∨ c k = 54) → 0 < l) ∧ (c k = 184 → 0 < N) ∧ ((c k = 188 ∨ c k = 190 ∨ c k = 46 ∨ c k = 79) → 0 < 4) := ⟨fun e => absurd e o1, fun e => absurd e o2, fun e => absurd e o3⟩
        rw [if_pos hgood]
        exact ⟨fun _ => rfl, fun h => absurd ⟨hK, by omega, fun e => absurd e o1, fun e => absurd e o2, fun e => absurd e o3⟩ h⟩
      · have c2 : ¬ nI (s_sz (c k)) ≤ (1 : Int32) := fun q => hs ((lei (b := 1) (by omega) (by decide)).mp q)
        have c3 : nI (2001 * m + k) + (1 : Int32) = nI (2001 * m + (k + 1)) := nI_add (2001 * m + k) 1
        obtain ⟨gc1, hc1⟩ := hC (k + 1) (by omega)
        rw [if_neg c2, c3, if_pos (hin (by omega) (by decide)), cl (by omega), gc1, q_i118_1 _ hm8 hN hl hc hc1 _ _ _ _ gl h5, cl cR, nI_add]
        constructor
        · intro h
          rw [if_pos ⟨h.2.2.1, h.2.2.2.1, h.2.2.2.2⟩]
        · intro h
          rw [if_neg (fun q => h ⟨hK, by omega, q.1, q.2.1, q.2.2⟩)]
  · have hK' : s_isK (c k) = false := by simpa using hK
    rw [if_pos (by rw [hK']; rfl), bad]
    exact ⟨fun h => absurd h.1 hK, fun _ => rfl⟩
/-- the row of begins of method m, up to k -/
def s_Bg (g : hm) (b k : Nat) (c : Nat → Nat) : Prop := ∀ j, j < k → (s_B c j → g 293 (b + j) = 1) ∧ (¬ s_B c j → g 293 (b + j) = 0)
theorem q_i39_loop {m N l n : Nat} {c : Nat → Nat} (hm8 : m < 8) (hN : N < 256) (hl : l < 256) (hn : n ≤ 2000) : ∀ (d k f : Nat) (g : hm), n ≤ k + d → k ≤ n → d < f → s_B c k → g 298 m = nI l → s_C g 303 (2001 * m) n c → s_Bg g (2001 * m) k c → (∀ j, k ≤ j → j ≤ n → g 293 (2001 * m + j) = 0) → (∀ j, s_B c j → j < k → s_okI c l N n j) →
    Tq (nlX12_instructions_39 f (nI m) (nI N) (nI n) (nI k) g) (fun q => Fr [293] g q.2.2 ∧ (∀ i, (i < 2001 * m ∨ 2001 * m + n < i) → q.2.2 293 i = g 293 i) ∧ ((q.1 = 0 ∧ s_chain c l N n ∧ s_Bg q.2.2 (2001 * m) n c) ∨ (q.1 = 1 ∧ ¬ s_chain c l N n ∧ ∃ j, j < n ∧ q.2.1 = nI j)))
  | d, k, 0, g, _, _, hf => absurd hf (Nat.not_lt_zero _)
  | d, k, f + 1, g, hd, hk, hf => by
    intro hB gl hC hBg hz hok
    by_cases hkn : k < n
    · obtain ⟨y, z⟩ := q_i39 hm8 hN hl hn hkn gl hC f
      by_cases h : s_okI c l N n k
      · rw [y h]
        have hs := s_isK_sz h.1
        have hs2 := h.2.1
        have d1 : d ≠ 0 := by omega
        obtain ⟨d', rfl⟩ := Nat.exists_eq_succ_of_ne_zero d1
        refine (q_i39_loop hm8 hN hl hn d' (k + s_sz (c k)) f _ (by omega) (by omega) (by omega) (s_B_next hB) (by rw [hm_w_ne (by decide)]; exact gl) (fun j hj => by rw [hm_w_ne (by decide)]; exact hC j hj) ?_ ?_ ?_).mono ?_
        · intro j hj
          rw [hm_w_at]
          by_cases e : j = k
          · subst e
            exact ⟨fun _ => by rw [if_pos rfl], fun q => absurd hB q⟩
          · rw [if_neg (by omega)]
            by_cases e2 : j < k
            · exact hBg j e2
            · exact ⟨fun q => absurd q (s_B_gap hB (by omega) hj), fun _ => hz j (by omega) (by omega)⟩
        · intro j h1 h2
          rw [hm_w_o (by omega)]
          exact hz j (by omega) h2
        · intro j h1 h2
          by_cases e : j = k
          · rw [e]; exact h
          · by_cases e2 : j < k
            · exact hok j h1 e2
            · exact absurd h1 (s_B_gap hB (by omega) h2)
        · intro q hq
          refine ⟨(Fr.rf.w (by decide)).trans hq.1, fun i hi => ?_, hq.2.2⟩
          rw [hq.2.1 i hi, hm_w_o (by omega)]
      · rw [z h]
        refine Tq.some ⟨Fr.rf, fun _ _ => rfl, Or.inr ⟨rfl, fun q => h (q k hB hkn), k, hkn, rfl⟩⟩
    · have e : k = n := by omega
      subst e
      rw [nlX12_instructions_39_s, if_pos ((lei (by omega) (by omega)).mpr (Nat.le_refl _))]
      exact Tq.some ⟨Fr.rf, fun _ _ => rfl, Or.inl ⟨rfl, fun j h1 h2 => hok j h1 h2, hBg⟩⟩
/-- instructions(m, many) -/
theorem q_instr {m N l n t b : Nat} {c : Nat → Nat} (hm8 : m < 8) (hN : N < 256) (hl : l < 256) (hn : n ≤ 2000) {g : hm} (gt : g 285 2 = nI t) (ht : t ≤ 6000) (gl : g 298 m = nI l) (gn : g 299 m = nI n) (gb : g 300 m = nI b) (hb : b ≤ 20000) (hC : s_C g 303 (2001 * m) n c) :
    Tq (nX12_instructions (nI m) (nI N) g) (fun q => Fr [293] g q.2 ∧ (∀ i, (i < 2001 * m ∨ 2001 * m + n < i) → q.2 293 i = g 293 i) ∧ ((q.1 = 0 ∧ s_chain c l N n ∧ s_Bg q.2 (2001 * m) n c) ∨ (q.1 < 0 ∧ ¬ s_chain c l N n))) := by
  unfold nX12_instructions
  have h8 : hs_in (nI m) 8 = true := hin hm8 (by decide)
  have cm : (nI m).toNatClampNeg = m := cl (by omega)
  rw [if_pos h8, cm, gn]
  refine Tq.bv ((q_instr10 hm8 hn (nI N) (n + 1) 0 hs_N g (by omega) (by unfold hs_N; omega)).mono fun g1 h1 => ?_)
  have e : ∀ a, a ∉ [293] → g1 a = g a := h1.1
  refine Tq.b3 ((q_i39_loop hm8 hN hl hn n 0 hs_N g1 (by omega) (by omega) (by unfold hs_N; omega) (s_B_0 c) (by rw [e 298 (by decide)]; exact gl) (fun j hj => by rw [e 303 (by decide)]; exact hC j hj) (fun j hj => absurd hj (Nat.not_lt_zero j)) (fun j _ hj => by rw [h1.2, if_pos (by omega)]) (fun j _ hj => absurd hj (Nat.not_lt_zero j))).mono fun q hq => ?_)
  have fr : ∀ i, (i < 2001 * m ∨ 2001 * m + n < i) → q.2.2 293 i = g 293 i := fun i hi => by rw [hq.2.1 i hi, h1.2, if_neg (by omega)]
  rcases hq.2.2 with ⟨a1, a2, a3⟩ | ⟨a1, a2, j, a3, a4⟩
  · rw [a1]
    exact Tq.some ⟨h1.1.trans hq.1, fr, Or.inl ⟨rfl, a2, a3⟩⟩
  · rw [a1, if_neg (by decide), if_pos h8, a4, hq.1 300 (by decide), e 300 (by decide), gb, nI_add]
    obtain ⟨r, w1, w2⟩ := q_wrong (g := q.2.2) (p := b + j) (t := t) (by rw [hq.1 285 (by decide), e 285 (by decide)]; exact gt) (by omega) (by omega)
    rw [w1, hm_bd_s]
    exact Tq.some ⟨h1.1.trans hq.1, fr, Or.inr ⟨w2, a2⟩⟩
