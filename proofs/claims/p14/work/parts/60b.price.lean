/-! PRICES -/
theorem hs_bd_s {α β : Type} (r : α) (g : hs_S) (f : α → hs_S → Option β) : hs_bd (some (r, g)) f = f r g := rfl
theorem pi_ite {c : Prop} {i : Decidable c} {A B A' B' : Option (Int32 × hs_S)} {g : hs_S} (hA : A = some ((A'.getD (0, hs_0)).1, g)) (hB : B = some ((B'.getD (0, hs_0)).1, g)) : @ite _ c i A B = some (((@ite _ c i A' B').getD (0, hs_0)).1, g) := by
  by_cases h : c
  · rw [if_pos h, if_pos h]; exact hA
  · rw [if_neg h, if_neg h]; exact hB
theorem pi_ex {f : hs_S → Option (Int32 × hs_S)} (h : ∀ g, f g = some (((f hs_0).getD (0, hs_0)).1, g)) : ∃ z : Int32, ∀ g, f g = some (z, g) := ⟨_, h⟩
theorem pv_two (k : Int32) : ∃ z : Int32, ∀ g, fX4_isOfTwo k g = some (z, g) := by
  refine pi_ex fun g => ?_
  unfold fX4_isOfTwo
  repeat' (first | apply pi_ite | rfl)
theorem pv_brn (k : Int32) : ∃ z : Int32, ∀ g, fX4_isBranch k g = some (z, g) := by
  refine pi_ex fun g => ?_
  unfold fX4_isBranch
  repeat' (first | apply pi_ite | rfl)
theorem pv_arr (k : Int32) : ∃ z : Int32, ∀ g, fX4_isOfArray k g = some (z, g) := by
  refine pi_ex fun g => ?_
  unfold fX4_isOfArray jX4_isOfArray_26
  repeat' (first | apply pi_ite | rfl)
def pv_sz (k : Int32) : Int32 := ((fX4_sizeOf k hs_0).getD (0, hs_0)).1
set_option maxHeartbeats 4000000 in
theorem pv_sz_eq (k : Int32) (g : hs_S) : fX4_sizeOf k g = some (pv_sz k, g) := by
  obtain ⟨z1, e1⟩ := pv_two k
  obtain ⟨z2, e2⟩ := pv_brn k
  obtain ⟨z3, e3⟩ := pv_arr k
  unfold pv_sz fX4_sizeOf jX4_sizeOf_147
  simp only [e1, e2, e3, hs_bd_s]
  repeat' (first | apply pi_ite | rfl)
set_option maxHeartbeats 4000000 in
theorem pv_sz_out {k : Int32} (h : k < 0 ∨ (255 : Int32) < k) : pv_sz k = 0 := by
  have hne : ∀ c : Int32, (¬ c < 0) → (¬ (255 : Int32) < c) → ¬ k = c := fun c a b e => by subst e; exact h.elim a b
  have h1 : fX4_isOfTwo k hs_0 = some (0, hs_0) := by
    unfold fX4_isOfTwo
    rw [if_neg (hne 96 (by decide) (by decide)), if_neg (hne 100 (by decide) (by decide)), if_neg (hne 104 (by decide) (by decide)), if_neg (hne 108 (by decide) (by decide)), if_neg (hne 112 (by decide) (by decide)), if_neg (hne 126 (by decide) (by decide)), if_neg (hne 128 (by decide) (by decide)), if_neg (hne 130 (by decide) (by decide))]
  have h2 : fX4_isBranch k hs_0 = some (0, hs_0) := by
    unfold fX4_isBranch
    rcases h with h | h
    · rw [if_pos (Int32.lt_trans h (by decide))]
    · rw [if_neg (fun q => absurd (Int32.lt_trans h q) (by decide)), if_pos (Int32.lt_trans (by decide) h)]
  have h3 : fX4_isOfArray k hs_0 = some (0, hs_0) := by
    unfold fX4_isOfArray
    rw [if_neg (hne 188 (by decide) (by decide)), if_neg (hne 190 (by decide) (by decide)), if_neg (hne 46 (by decide) (by decide)), if_neg (hne 79 (by decide) (by decide))]
  unfold pv_sz fX4_sizeOf
  rw [if_neg (hne 0 (by decide) (by decide)), if_neg (hne 16 (by decide) (by decide)), if_neg (hne 17 (by decide) (by decide)), if_neg (hne 21 (by decide) (by decide)), if_neg (hne 54 (by decide) (by decide)), if_neg (hne 87 (by decide) (by decide)), if_neg (hne 89 (by decide) (by decide)), if_neg (hne 116 (by decide) (by decide)), if_neg (hne 167 (by decide) (by decide)), if_neg (hne 168 (by decide) (by decide)), if_neg (hne 172 (by decide) (by decide)), if_neg (hne 184 (by decide) (by decide)), if_neg (hne 191 (by decide) (by decide)), h1, hs_bd_s, if_pos rfl, h2, hs_bd_s, if_pos rfl, h3, hs_bd_s, if_pos rfl]
  rfl
set_option maxRecDepth 100000 in
theorem pv_isK : (List.range 256).all (fun j => decide (pv_sz (nI j) = 0) == !(s_isK j)) = true := by decide +kernel
theorem pv_isK' {j : Nat} (h : j < 256) : pv_sz (nI j) = 0 ↔ ¬ s_isK j = true := by
  have := List.all_eq_true.mp pv_isK j (List.mem_range.mpr h)
  rw [beq_iff_eq] at this
  constructor
  · intro q
    rw [decide_eq_true q] at this
    intro e
    rw [e] at this
    exact absurd this (by decide)
  · intro q
    have e : s_isK j = false := by simpa using q
    rw [e] at this
    exact of_decide_eq_true this
/-- price(), exactly -/
theorem z_price {g : hs_S} (h : CJ g) (v1 v2 : Int32) : Tq (fX11_price 0 v1 v2 g) (fun q => (cC g q.2 ∧ tU q.2 = tU g) ∧ (((¬ ∃ k v, s_pok v1 v2 k v) ∧ q.1 = -3 ∧ hs_I q.2 90 = hs_I g 90) ∨ ∃ k v, s_pok v1 v2 k v ∧ q.1 = hs_I g 90 k ∧ ∀ i, hs_I q.2 90 i = if i = k then nI v else hs_I g 90 i)) := by
  have h0 : cC g g := ⟨h, fun _ _ => rfl, rfl⟩
  have bad : (¬ ∃ k v, s_pok v1 v2 k v) → (cC g g ∧ tU g = tU g) ∧ (((¬ ∃ k v, s_pok v1 v2 k v) ∧ (-3 : Int32) = -3 ∧ hs_I g 90 = hs_I g 90) ∨ ∃ k v, s_pok v1 v2 k v ∧ (-3 : Int32) = hs_I g 90 k ∧ ∀ i, hs_I g 90 i = if i = k then nI v else hs_I g 90 i) := fun q => ⟨⟨h0, rfl⟩, Or.inl ⟨q, rfl, rfl⟩⟩
  obtain ⟨a1, a2⟩ := h.1.f9_4 gk_0
  obtain ⟨f1, f2⟩ := h.1.f7_0 a2
  unfold fX11_price
  rw [pv_sz_eq, hs_bd_s]
  refine Tq.br (fun c1 => Tq.some (bad ?_)) (fun c1 => ?_)
  · rintro ⟨k, v, p1, p2, p3, p4, p5⟩
    rw [p4] at c1
    exact (pv_isK' p1).mp c1 p2
  have hin1 : ¬ v1 < 0 ∧ ¬ (255 : Int32) < v1 := ⟨fun q => c1 (pv_sz_out (Or.inl q)), fun q => c1 (pv_sz_out (Or.inr q))⟩
  obtain ⟨k, hk0, rfl⟩ := nI_of hin1.1
  have hk : k < 256 := by
    have := nlt_toInt hin1.2
    rw [nI_toInt (by omega), show (255 : Int32).toInt = 255 by decide] at this
    omega
  have hK : s_isK k = true := by
    by_cases e : s_isK k = true
    · exact e
    · exact absurd ((pv_isK' hk).mpr e) c1
  refine Tq.br (fun c2 => Tq.some (bad ?_)) (fun c2 => ?_)
  · rintro ⟨k', v, p1, p2, p3, p4, p5⟩
    rw [p5] at c2
    exact nI_pos (by omega) c2
  obtain ⟨v, hv0, rfl⟩ := nI_of c2
  refine Tq.br (fun c3 => ?_) (fun c3 => Tq.some (bad ?_))
  rotate_left
  · rintro ⟨k', v', p1, p2, p3, p4, p5⟩
    apply c3
    rw [p5]
    exact (lei (b := 1000) (by omega) (by decide)).mpr p3
  have hv := (lei (b := 1000) (by omega) (by decide)).mp c3
  have hr : hs_R g (hs_R g 0 4 - 1) 0 - 1 = 90 := f2
  refine Tq.ck (h.1.k gk_0) (Tq.ck a1 (Tq.ck (h.1.k a2) ?_))
  unfold fX8_of
  rw [if_pos (h.1.k a2), if_pos f1, hr, yf_at h.1 gm_k_90 (by rw [gk_90n]; exact hk)]
  show Tq (if hs_kd g 0 = 9 then _ else none) _
  refine Tq.ck (h.1.k gk_0) (Tq.ck a1 (Tq.ck (h.1.k a2) ?_))
  unfold fX8_become
  rw [if_pos (h.1.k a2), if_pos f1, hr, yf_put h.1 gm_k_90 (by rw [gk_90n]; exact hk)]
  have hc : cA 90 g (hs_wI g 90 k (nI v)) := cA.w gm_k_90 ⟨h.1, rfl, fun _ _ => rfl⟩
  refine Tq.some ⟨hc.cj h, Or.inr ⟨k, v, ⟨hk, hK, hv, rfl, rfl⟩, rfl, fun i => ?_⟩⟩
  show hs_I (hs_wI g 90 k (nI v)) 90 i = _
  rw [hs_I_w, if_pos rfl]
theorem f_priceX {s : hs_S} (h : CJ s) (hr : RJ (hs_I s)) (a b : Int32) : Tq (fX12_price 285 a b s) (fun q => rP s q.2 ∧ hs_I q.2 285 2 = hs_I s 285 2 ∧ (((¬ ∃ k v, s_pok a b k v) ∧ q.1 = -3 ∧ hs_I q.2 312 = hs_I s 312) ∨ ∃ k v, s_pok a b k v ∧ q.1 = hs_I s 312 k ∧ ∀ i, hs_I q.2 312 i = if i = k then nI v else hs_I s 312 i)) := by
  have e := tX12_price (hs_R s) h.2.1 a b (hs_I s)
  rw [← h.1.gm] at e
  obtain ⟨q, e1, h1, h2, h4⟩ := r_price hr a b
  obtain ⟨q', e2, h3⟩ := q_price a b (hs_I s)
  have eq : q' = q := Option.some.inj (e2.symm.trans e1)
  subst eq
  refine rf_d (P := fun q => q.2 285 2 = hs_I s 285 2 ∧ (((¬ ∃ k v, s_pok a b k v) ∧ q.1 = -3 ∧ q.2 312 = hs_I s 312) ∨ ∃ k v, s_pok a b k v ∧ q.1 = hs_I s 312 k ∧ ∀ i, q.2 312 i = if i = k then nI v else hs_I s 312 i)) h e ⟨q', e1, h1, h2, h4, ?_⟩
  rcases h3 with ⟨x1, x2⟩ | ⟨k, v, x1, x2⟩
  · rw [x2]; exact Or.inl ⟨x1, rfl, rfl⟩
  · rw [x2]
    refine Or.inr ⟨k, v, x1, rfl, fun i => ?_⟩
    exact hm_w_at (hs_I s) 312 k (nI v) i
