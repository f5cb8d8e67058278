theorem s_K.plain {g0 g : hm} {N : Nat} {Q : Nat → Nat → Nat → Prop} {F st m x d kd a : Nat} (k : s_K g0 Q g F st m x d) (hm8 : m < N) (hN : N ≤ 8) (hd : d ≤ 20)
    (hk : kd = 0 ∨ kd = 16 ∨ kd = 17 ∨ kd = 21 ∨ kd = 54 ∨ kd = 87 ∨ kd = 89 ∨ kd = 116 ∨ (s_tk kd = 2 ∧ s_gv kd = 1 ∧ kd < 256 ∧ kd ≠ 0 ∧ kd ≠ 16 ∧ kd ≠ 17 ∧ kd ≠ 21 ∧ kd ≠ 54 ∧ kd ≠ 87 ∧ kd ≠ 89 ∧ kd ≠ 116)) (ht : s_tk kd ≤ d) (hx : x + s_sz kd < 4001) (ha : a < 256) (h1 : 1 < s_sz kd → g0 304 (4001 * m + (x + 1)) = nI a) (h17 : kd = 17 → ∃ e, e < 256 ∧ g0 304 (4001 * m + (x + 2)) = nI e) (h21 : kd = 21 ∨ kd = 54 → a < 20) :
    Tq (nX12_plain (nI kd) g) (s_Rp g0 N Q F st m (x + s_sz kd) (d - s_tk kd + s_gv kd)) := by
  have hk2 : kd < 256 := by
    clear h17 h21 h1
    omega
  have hs := s_sz_le kd
  have e1 : nI (F + 1) - (1 : Int32) = nI F := nI_pred F
  unfold nX12_plain
  rw [q_size hk2, hm_bd_s, k.1.2.2.1, e1]
  by_cases c1 : s_sz kd ≤ 1
  · have u : nI (s_sz kd) ≤ (1 : Int32) := (lei (b := 1) (by omega) (by decide)).mpr c1
    rw [if_pos u]
    have hne : ¬ kd = 17 ∧ ¬ (kd = 21 ∨ kd = 54) := by
      refine ⟨fun q => ?_, fun q => ?_⟩
      · rw [q] at c1; exact absurd c1 (by decide)
      · rcases q with q | q <;> rw [q] at c1 <;> exact absurd c1 (by decide)
    exact k.plain24 (a := 0) hm8 hN hd hk ht hx (by decide) (fun q => absurd q hne.1) (fun q => absurd q hne.2)
  · have u : ¬ nI (s_sz kd) ≤ (1 : Int32) := fun q => c1 ((lei (b := 1) (by omega) (by decide)).mp q)
    have hc : nX12_codeAt (1 : Int32) g = some (g0 304 (4001 * m + (x + 1)), g) := k.code (by clear h17; omega) (i := 1) (by clear h17; omega)
    rw [if_neg u, hc, hm_bd_s, h1 (by omega)]
    exact k.plain24 hm8 hN hd hk ht hx ha h17 h21
/-! JUMPS -/
theorem s_K.j168 {g0 g : hm} {Q : Nat → Nat → Nat → Prop} {F st m x d kd a b y : Nat} (k : s_K g0 Q g F st m x d) (hk : kd < 256) (ha : a < 256) (hb : b < 256) (hy : s_tg kd x a b = y) : ∃ g', njX12_jumps_168 (nI b) (nI a) (nI x) (nI kd) (nI F) g = some g' ∧ s_K g0 Q g' F st m y d := by
  unfold njX12_jumps_168
  have hF := k.d20.1
  rw [q_target hk ha hb, hm_bd_s, if_pos (hin hF (by decide)), cl (show F < 2147483648 by omega), hy, zI_n]
  exact ⟨_, rfl, k.at y⟩
theorem s_K.j119 {g0 g : hm} {Q : Nat → Nat → Nat → Prop} {F st m x d kd a b y : Nat} (k : s_K g0 Q g F st m x d) (hm8 : m < 8) (hk : kd < 256) (hx : x + 2 < 4001) (ha : a < 256) (hb : b < 256) (h1 : g0 304 (4001 * m + (x + 1)) = nI a) (h2 : kd = 168 → g0 304 (4001 * m + (x + 2)) = nI b) (hy : s_tg kd x a b = y) (v : Int32) : ∃ g', njX12_jumps_119 (nI kd) v g = some g' ∧ ((v = 0 ∧ s_K g0 Q g' F st m (x + s_sz kd) d) ∨ (¬ v = 0 ∧ s_K g0 Q g' F st m y d)) := by
  have hF := k.d20.1
  have e1 : nI (F + 1) - (1 : Int32) = nI F := nI_pred F
  have hi : hs_in (nI F) 60 = true := hin hF (by decide)
  unfold njX12_jumps_119
  rw [k.1.2.2.1, e1, if_pos hi, cl (show F < 2147483648 by omega), k.2.2.1]
  by_cases c : v = 0
  · rw [if_pos c, q_size hk, hm_bd_s, if_pos hi, nI_add]
    exact ⟨_, rfl, Or.inl ⟨c, k.at _⟩⟩
  · have hc : nX12_codeAt (1 : Int32) g = some (g0 304 (4001 * m + (x + 1)), g) := k.code hm8 (i := 1) (by omega)
    rw [if_neg c, hc, hm_bd_s, h1]
    by_cases c2 : kd = 168
    · have u : nI kd = (168 : Int32) := by rw [c2]; rfl
      have hc2 : nX12_codeAt (2 : Int32) g = some (g0 304 (4001 * m + (x + 2)), g) := k.code hm8 (i := 2) (by omega)
      rw [if_pos u, hc2, hm_bd_s, h2 c2]
      obtain ⟨g', e, k'⟩ := k.j168 hk ha hb hy
      exact ⟨g', e, Or.inr ⟨c, k'⟩⟩
    · have u : ¬ nI kd = (168 : Int32) := fun q => c2 ((eqi (b := 168) (by omega) (by decide)).mp q)
      rw [if_neg u]
      obtain ⟨g', e, k'⟩ := k.j168 (b := 0) hk ha (by decide) (by rw [← s_tg_2 c2]; exact hy)
      exact ⟨g', e, Or.inr ⟨c, k'⟩⟩
theorem s_K.jumps {g0 g : hm} {Q : Nat → Nat → Nat → Prop} {F st m x d kd a b y : Nat} (k : s_K g0 Q g F st m x d) (hm8 : m < 8) (hd : d ≤ 20) (hk : kd < 256) (hx : x + 2 < 4001) (ha : a < 256) (hb : b < 256) (h1 : g0 304 (4001 * m + (x + 1)) = nI a) (h2 : kd = 168 → g0 304 (4001 * m + (x + 2)) = nI b) (hy : s_tg kd x a b = y) (h0 : kd < 167 → 0 < d) :
    Tq (nX12_jumps (nI kd) g) (fun q => (kd < 167 ∧ s_K g0 Q q F st m (x + s_sz kd) (d - 1)) ∨ s_K g0 Q q F st m y (if kd < 167 then d - 1 else d)) := by
  unfold nX12_jumps
  by_cases c : kd < 167
  · have u : ¬ (167 : Int32) ≤ nI kd := fun q => absurd ((lei (a := 167) (by decide) (by omega)).mp q) (by omega)
    obtain ⟨d', rfl⟩ : ∃ d', d = d' + 1 := ⟨d - 1, by have := h0 c; omega⟩
    obtain ⟨v, g1, e1, k1⟩ := k.pop (by omega)
    rw [if_neg u, e1, hm_bd_s]
    have go : ∀ w, Tq (njX12_jumps_118 (nI kd) w g1) (fun q => (kd < 167 ∧ s_K g0 Q q F st m (x + s_sz kd) (d' + 1 - 1)) ∨ s_K g0 Q q F st m y (if kd < 167 then d' + 1 - 1 else d' + 1)) := by
      intro w
      unfold njX12_jumps_118
      obtain ⟨g', e, k'⟩ := k1.j119 hm8 hk hx ha hb h1 h2 hy w
      rcases k' with ⟨-, k'⟩ | ⟨-, k'⟩
      · exact ⟨g', e, Or.inl ⟨c, k'⟩⟩
      · exact ⟨g', e, Or.inr (by rw [if_pos c]; exact k')⟩
    repeat' (first | exact go _ | refine Tq.br (fun _ => ?_) (fun _ => ?_))
  · have u : (167 : Int32) ≤ nI kd := (lei (a := 167) (by decide) (by omega)).mpr (by omega)
    rw [if_pos u]
    obtain ⟨g', e, k'⟩ := k.j119 hm8 hk hx ha hb h1 h2 hy 1
    rcases k' with ⟨q, -⟩ | ⟨-, k'⟩
    · exact absurd q (by decide)
    · exact ⟨g', e, Or.inr (by rw [if_neg c]; exact k')⟩
