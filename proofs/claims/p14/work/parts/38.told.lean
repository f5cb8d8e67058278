theorem q_longJumps {g : hm} {m : Nat} (a2 : Int32) (h0 : a2 = 0 → ∃ n h l N c R, s_Mt n l N h c R ∧ s_G g m n h c R) (h1 : ¬ a2 = 0 → m < 8 ∧ ∃ n h l N c R P, s_Mt n l N h c R ∧ (∀ k, k < n → c k < 256) ∧ s_Wm g m n h c R P) : ∃ r, nX12_longJumps (nI m) a2 g = some (r, g) := by
  have e0 : (0 : Int32) = nI 0 := rfl
  unfold nX12_longJumps njX12_longJumps_24
  by_cases c0 : a2 = 0
  · obtain ⟨n, h, l, N, c, R, M, G⟩ := h0 c0
    have hn := G.2.1
    have hm8 := G.1
    rw [if_pos c0, if_pos (hin hm8 (by decide)), cl (by omega), G.2.2.2.1]
    obtain ⟨r, e⟩ := q_lj0 M G n 0 hs_N 0 (by omega) (by unfold hs_N; omega) (by omega) (s_B_0 c)
    have e' : nlX12_longJumps_26 hs_N (nI m) 0 0 0 (nI n) g = some (r, g) := e
    rw [c0, e', hm_bd_s]
    exact ⟨_, rfl⟩
  · obtain ⟨hm8, n, h, l, N, c, R, P, M, hc, b, far, S, y1, y2, y3, y4, y5, y6⟩ := h1 c0
    rw [if_neg c0, if_pos (hin hm8 (by decide)), cl (by omega), y4]
    have s0 : s_St c n (s_pay P c n b true) (s_pl P c n b true) far S 0 := by
      have := s_St_S (P := P) (n := n) (b := b) (far := far) (S := S) (s_B_0 c) (Nat.zero_le n)
      rw [y2.1] at this
      exact this
    obtain ⟨r, e⟩ := q_ljw hm8 c0 M hc y2 y3 y5 (S n) 0 hs_N 0 (by omega) (by unfold hs_N; omega) (by omega) s0
    have e' : nlX12_longJumps_26 hs_N (nI m) a2 0 0 (nI (S n)) g = some (r, g) := e
    rw [e', hm_bd_s]
    exact ⟨_, rfl⟩
