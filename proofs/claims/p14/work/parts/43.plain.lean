/-! THE PLAIN KINDS -/
theorem d_1 {d k : Nat} (h : s_tk k ≤ d) (e : s_tk k = 1) : ∃ d', d = d' + 1 := ⟨d - 1, by omega⟩
theorem d_2 {d k : Nat} (h : s_tk k ≤ d) (e : s_tk k = 2) : ∃ d', d = d' + 1 + 1 := ⟨d - 2, by omega⟩
theorem s_K.d20 {g0 g : hm} {Q : Nat → Nat → Nat → Prop} {F st m x d : Nat} (k : s_K g0 Q g F st m x d) : F < 60 ∧ st ≤ 20000 := ⟨by have := k.1.2.2.2.1; omega, k.1.2.2.2.2.2.1⟩
theorem s_K.p230 {g0 g : hm} {Q : Nat → Nat → Nat → Prop} {F st m x d : Nat} (k : s_K g0 Q g F st m x d) (y : Nat) : ∃ g', njX12_plain_230 (nI F) (nI y) g = some g' ∧ s_K g0 Q g' F st m y d := by
  unfold njX12_plain_230
  have hF := k.d20.1
  rw [if_pos (hin hF (by decide)), cl (show F < 2147483648 by omega)]
  exact ⟨_, rfl, k.at y⟩
theorem q_reckoned {v0 : Int32} (a b : Int32) (hb : v0 = 108 ∨ v0 = 112 → ¬ b = 0) (g : hm) : ∃ r, nX12_reckoned v0 a b g = some (r, g) := by
  unfold nX12_reckoned
  by_cases c1 : v0 = 96
  · rw [if_pos c1]; exact ⟨_, rfl⟩
  rw [if_neg c1]
  by_cases c2 : v0 = 100
  · rw [if_pos c2]; exact ⟨_, rfl⟩
  rw [if_neg c2]
  by_cases c3 : v0 = 104
  · rw [if_pos c3]; exact ⟨_, rfl⟩
  rw [if_neg c3]
  by_cases c4 : v0 = 108
  · rw [if_pos c4, if_pos (hb (Or.inl c4))]; exact ⟨_, rfl⟩
  rw [if_neg c4]
  by_cases c5 : v0 = 112
  · rw [if_pos c5, if_pos (hb (Or.inr c5))]; exact ⟨_, rfl⟩
  rw [if_neg c5]
  by_cases c6 : v0 = 126
  · rw [if_pos c6]; exact ⟨_, rfl⟩
  rw [if_neg c6]
  by_cases c7 : v0 = 128
  · rw [if_pos c7]; exact ⟨_, rfl⟩
  rw [if_neg c7]; exact ⟨_, rfl⟩
theorem s_K.p218 {g0 g : hm} {Q : Nat → Nat → Nat → Prop} {F st m x d : Nat} (k : s_K g0 Q g F st m x d) (hd : d < 24) {v0 : Int32} (a b : Int32) (hb : v0 = 108 ∨ v0 = 112 → ¬ b = 0) (y : Nat) : ∃ g', njX12_plain_218 v0 (nI F) (nI y) b a g = some g' ∧ s_K g0 Q g' F st m y (d + 1) := by
  unfold njX12_plain_218
  obtain ⟨r, e⟩ := q_reckoned a b hb g
  obtain ⟨g1, e1, k1⟩ := k.push hd r
  rw [e, hm_bd_s, e1, hm_bv_s]
  exact k1.p230 y
/-- what a plain instruction does: it goes on behind itself, or something is thrown -/
def s_Rp (g0 : hm) (N : Nat) (Q : Nat → Nat → Nat → Prop) (F st m y d : Nat) (q : hm) : Prop := s_K g0 Q q F st m y d ∨ s_Th g0 N Q q F st
theorem s_K.plain24 {g0 g : hm} {N : Nat} {Q : Nat → Nat → Nat → Prop} {F st m x d kd a : Nat} (k : s_K g0 Q g F st m x d) (hm8 : m < N) (hN : N ≤ 8) (hd : d ≤ 20)
    (hk : kd = 0 ∨ kd = 16 ∨ kd = 17 ∨ kd = 21 ∨ kd = 54 ∨ kd = 87 ∨ kd = 89 ∨ kd = 116 ∨ (s_tk kd = 2 ∧ s_gv kd = 1 ∧ kd < 256 ∧ kd ≠ 0 ∧ kd ≠ 16 ∧ kd ≠ 17 ∧ kd ≠ 21 ∧ kd ≠ 54 ∧ kd ≠ 87 ∧ kd ≠ 89 ∧ kd ≠ 116)) (ht : s_tk kd ≤ d) (hx : x + s_sz kd < 4001) (ha : a < 256) (h17 : kd = 17 → ∃ e, e < 256 ∧ g0 304 (4001 * m + (x + 2)) = nI e) (h21 : kd = 21 ∨ kd = 54 → a < 20) :
    Tq (njX12_plain_24 (nI kd) (nI F) (nI a) g) (s_Rp g0 N Q F st m (x + s_sz kd) (d - s_tk kd + s_gv kd)) := by
  have hF := k.d20.1
  have hl : ∀ i, i < 20 → hs_in (nI (20 * F + i)) 1200 = true := fun i hi => hin (by omega) (by decide)
  have e20 : (20 : Int32) * nI F + nI a = nI (20 * F + a) := ix 20 F a
  unfold njX12_plain_24
  rw [if_pos (hin hF (by decide)), cl (show F < 2147483648 by omega), k.2.2.1]
  rcases hk with e | e | e | e | e | e | e | e | ⟨t1, t2, t3, t4, t5, t6, t7, t8, t9, t10, t11⟩
  · subst e
    rw [q_size (by decide), hm_bd_s, nI_add, if_neg (by decide), if_neg (by decide), if_neg (by decide), if_neg (by decide), if_neg (by decide), if_neg (by decide), if_neg (by decide), if_pos (by decide)]
    obtain ⟨g', e1, k1⟩ := k.p230 (x + s_sz 0)
    exact ⟨g', e1, Or.inl k1⟩
  · subst e
    rw [q_size (by decide), hm_bd_s, nI_add, if_pos (by decide), q_signed ha, hm_bd_s]
    obtain ⟨g1, e1, k1⟩ := k.push (by omega) (zI (s_s8 a))
    rw [e1, hm_bv_s]
    obtain ⟨g', e2, k2⟩ := k1.p230 (x + s_sz 16)
    exact ⟨g', e2, Or.inl k2⟩
  · subst e
    obtain ⟨e, e1, e2⟩ := h17 rfl
    have hc : nX12_codeAt (2 : Int32) g = some (g0 304 (4001 * m + (x + 2)), g) := k.code (by omega) (i := 2) (by rw [show s_sz 17 = 3 by decide] at hx; omega)
    have e3 : (256 : Int32) * nI a + nI e = nI (256 * a + e) := ix 256 a e
    rw [q_size (by decide), hm_bd_s, nI_add, if_neg (by decide), if_pos (by decide), hc, hm_bd_s, e2, e3, q_signedTwo (by omega), hm_bd_s]
    obtain ⟨g1, e1, k1⟩ := k.push (by omega) (zI (s_s16 (256 * a + e)))
    rw [e1, hm_bv_s]
    obtain ⟨g', e2, k2⟩ := k1.p230 (x + s_sz 17)
    exact ⟨g', e2, Or.inl k2⟩
  · subst e
    have := h21 (Or.inl rfl)
    rw [q_size (by decide), hm_bd_s, nI_add, if_neg (by decide), if_neg (by decide), if_pos (by decide), e20, if_pos (hl a this)]
    obtain ⟨g1, e1, k1⟩ := k.push (by omega) (g 319 (nI (20 * F + a)).toNatClampNeg)
    rw [e1, hm_bv_s]
    obtain ⟨g', e2, k2⟩ := k1.p230 (x + s_sz 21)
    exact ⟨g', e2, Or.inl k2⟩
  · subst e
    have := h21 (Or.inr rfl)
    obtain ⟨d', rfl⟩ := d_1 ht (by decide)
    rw [q_size (by decide), hm_bd_s, nI_add, if_neg (by decide), if_neg (by decide), if_neg (by decide), if_pos (by decide)]
    obtain ⟨v, g1, e1, k1⟩ := k.pop (by omega)
    rw [e1, hm_bd_s, e20, if_pos (hl a this)]
    obtain ⟨g', e2, k2⟩ := (k1.w1 (a := 319) (j := (nI (20 * F + a)).toNatClampNeg) (v := v) (by decide)).p230 (x + s_sz 54)
    exact ⟨g', e2, Or.inl k2⟩
  · subst e
    obtain ⟨d', rfl⟩ := d_1 ht (by decide)
    rw [q_size (by decide), hm_bd_s, nI_add, if_neg (by decide), if_neg (by decide), if_neg (by decide), if_neg (by decide), if_pos (by decide)]
    obtain ⟨v, g1, e1, k1⟩ := k.pop (by omega)
    rw [e1, hm_bd_s]
    obtain ⟨g', e2, k2⟩ := k1.p230 (x + s_sz 87)
    exact ⟨g', e2, Or.inl k2⟩
  · subst e
    obtain ⟨d', rfl⟩ := d_1 ht (by decide)
    rw [q_size (by decide), hm_bd_s, nI_add, if_neg (by decide), if_neg (by decide), if_neg (by decide), if_neg (by decide), if_neg (by decide), if_pos (by decide)]
    obtain ⟨v, e0⟩ := k.top (by omega)
    obtain ⟨g1, e1, k1⟩ := k.push (by omega) v
    rw [e0, hm_bd_s, e1, hm_bv_s]
    obtain ⟨g', e2, k2⟩ := k1.p230 (x + s_sz 89)
    exact ⟨g', e2, Or.inl k2⟩
  · subst e
    obtain ⟨d', rfl⟩ := d_1 ht (by decide)
    rw [q_size (by decide), hm_bd_s, nI_add, if_neg (by decide), if_neg (by decide), if_neg (by decide), if_neg (by decide), if_neg (by decide), if_neg (by decide), if_pos (by decide)]
    obtain ⟨v, g1, e1, k1⟩ := k.pop (by omega)
    obtain ⟨g2, e2, k2⟩ := k1.push (by omega) (-v)
    rw [e1, hm_bd_s, e2, hm_bv_s]
    obtain ⟨g', e3, k3⟩ := k2.p230 (x + s_sz 116)
    exact ⟨g', e3, Or.inl k3⟩
  · obtain ⟨d', rfl⟩ : ∃ d', d = d' + 1 + 1 := ⟨d - 2, by omega⟩
    have nl : ∀ i, i < 256 → kd ≠ i → ¬ nI kd = nI i := fun i hi h q => h ((eqi (by omega) (by omega)).mp q)
    have u1 : ¬ nI kd = (16 : Int32) := nl 16 (by decide) t5
    have u2 : ¬ nI kd = (17 : Int32) := nl 17 (by decide) t6
    have u3 : ¬ nI kd = (21 : Int32) := nl 21 (by decide) t7
    have u4 : ¬ nI kd = (54 : Int32) := nl 54 (by decide) t8
    have u5 : ¬ nI kd = (87 : Int32) := nl 87 (by decide) t9
    have u6 : ¬ nI kd = (89 : Int32) := nl 89 (by decide) t10
    have u7 : ¬ nI kd = (116 : Int32) := nl 116 (by decide) t11
    have u8 : ¬ nI kd = (0 : Int32) := nl 0 (by decide) t4
    rw [q_size (by omega), hm_bd_s, nI_add, if_neg u1, if_neg u2, if_neg u3, if_neg u4, if_neg u5, if_neg u6, if_neg u7, if_neg u8]
    obtain ⟨v, g1, e1, k1⟩ := k.pop (by omega)
    obtain ⟨w, g2, e2, k2⟩ := k1.pop (by omega)
    rw [e1, hm_bd_s, e2, hm_bd_s, t1, t2, show d' + 1 + 1 - 2 + 1 = d' + 1 by omega]
    have go : Tq (njX12_plain_207 (nI kd) (nI F) (nI (x + s_sz kd)) v w g2) (s_Rp g0 N Q F st m (x + s_sz kd) (d' + 1)) := by
      unfold njX12_plain_207
      by_cases c : v = 0
      · rw [if_pos c]
        exact ⟨_, rfl, Or.inr (k2.thr hm8 (e := 1) (by decide) (by decide))⟩
      · rw [if_neg c]
        obtain ⟨g', e3, k3⟩ := k2.p218 (by omega) (v0 := nI kd) w v (fun _ => c) (x + s_sz kd)
        exact ⟨g', e3, Or.inl k3⟩
    by_cases c1 : nI kd = (108 : Int32)
    · rw [if_pos c1]; exact go
    rw [if_neg c1]
    by_cases c2 : nI kd = (112 : Int32)
    · rw [if_pos c2]; exact go
    rw [if_neg c2]
    obtain ⟨g', e3, k3⟩ := k2.p218 (by omega) (v0 := nI kd) w v (fun q => absurd q (by rintro (q | q); exact c1 q; exact c2 q)) (x + s_sz kd)
    exact ⟨g', e3, Or.inl k3⟩
