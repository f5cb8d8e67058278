theorem hs_bv_s {β : Type} (g : hs_S) (f : hs_S → Option β) : hs_bv (some g) f = f g := rfl
theorem law_pure {xs : Nat → Int32} {L : Nat} (hL : L ≤ 2560) : ∃ g : hs_S, fL_law xs L hs_0 = some (1, g) := by
  obtain ⟨g1, g4, e1, e4, b0, cj, rj, tu, pr⟩ := pb_facts
  unfold fL_law
  rw [e1, hs_bv_s, e4, hs_bv_s, b0]
  obtain ⟨⟨k, q⟩, e, hk⟩ := law_loop xs hL hs_N 0 g4 (by unfold hs_N; omega) (by omega) ⟨cj, rj, tu, pr⟩
  have e' : lL_law_18 xs L hs_N 0 285 (0 : Int32) g4 = some (k, q) := e
  have hk' : k = 0 := hk
  show ∃ g, hs_bd (lL_law_18 xs L hs_N 0 285 (0 : Int32) g4) _ = some (1, g)
  rw [e', hk']
  exact ⟨q, rfl⟩
