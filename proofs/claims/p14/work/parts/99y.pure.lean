theorem law_pure {xs : Nat → Int32} {L : Nat} (hL : L ≤ 2560) : ∃ g : hs_S, fL_law xs L hs_0 = some (1, g) := by
  obtain ⟨g1, g4, e1, e4, b0, ag⟩ := pd_facts
  unfold fL_law
  rw [e1]
  show ∃ g, hs_bv (fX12_init g1.1 (hs_new g1 10 0)) _ = some (1, g)
  rw [e4]
  obtain ⟨⟨k, q⟩, e, hk⟩ := law_loop xs hL hs_N 0 g4 (by unfold hs_N; omega) (by omega) ag
  have e' : lL_law_18 xs L hs_N 0 285 (0 : Int32) g4 = some (k, q) := e
  have hk' : k = 0 := hk
  show ∃ g, hs_bd (lL_law_18 xs L hs_N 0 g1.1 (0 : Int32) g4) _ = some (1, g)
  rw [b0, e', hk']
  exact ⟨q, rfl⟩
