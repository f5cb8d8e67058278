/-! A FILE THAT IS UNWRITTEN -/
/-- u' is u, laid out without payments -/
def UU (u u' P : Nat → Nat) : Prop := u' 0 = u 0 ∧ ∀ z, z < u 0 → u' (s_off u' z) = u (s_off u z) ∧ u' (s_off u' z + 1) = u (s_off u z + 1) ∧ s_h u' (s_off u' z) = s_h u (s_off u z) ∧ ∃ (b far : Nat → Bool) (S : Nat → Nat), (∀ i, i < s_n u (s_off u z) → (b i = true ↔ s_bl (s_c u (s_off u z)) (s_n u (s_off u z)) (s_h u (s_off u z)) (s_R u (s_off u z)) i)) ∧ s_Lo (s_c u (s_off u z)) (s_pl P (s_c u (s_off u z)) (s_n u (s_off u z)) b false) (s_n u (s_off u z)) far S ∧ s_n u' (s_off u' z) = S (s_n u (s_off u z)) ∧
  (∀ j, s_B (s_c u (s_off u z)) j → j < s_n u (s_off u z) → ∀ x, x < s_ln (s_c u (s_off u z)) far j → s_c u' (s_off u' z) (S j + x) = s_em P (s_c u (s_off u z)) (s_n u (s_off u z)) b false far S j x) ∧ ∀ i, i < 4 * s_h u (s_off u z) → s_R u' (s_off u' z) i = if i % 4 = 3 then s_R u (s_off u z) i else S (s_R u (s_off u z) i)
theorem s_em_256 {P c S : Nat → Nat} {n l N h : Nat} {R : Nat → Nat} {b far : Nat → Bool} (hM : s_Mt n l N h c R) (hc : ∀ k, k < n → c k < 256) {j x : Nat} (hB : s_B c j) (hj : j < n) (hx : x < s_ln c far j) : s_em P c n b false far S j x < 256 := by
  rw [s_em_f]
  have hok := (hM.2.2.2.2.1 j hB hj).2.1
  by_cases hJ : s_isJ (c j) = true
  · rw [if_pos hJ]; exact s_ej_b (hc j hj)
  · rw [if_neg hJ]
    rw [s_ln_n hJ] at hx
    exact hc _ (by omega)
theorem hb_lt {V : Nat → Nat} {h x : Nat} (hV : ∀ i, i < 4 * h → i % 4 = 3 → V i < 256) (hx : x < 7 * h) : hb V x < 256 := by
  unfold hb
  by_cases c : x % 7 = 6
  · rw [if_pos c]; exact hV _ (by omega) (by omega)
  · rw [if_neg c]
    split <;> omega
/-- the bytes of a segment -/
theorem sg.byte {cells : Nat → Int32} {o o' p l n h N : Nat} {c R P : Nat → Nat} (hM : s_Mt n l N h c R) (hp : p ≤ 4) (hl : l ≤ 20) (x : sg cells o o' p l n h c R P) {i : Nat} (h1 : o ≤ i) (h2 : i < o') : ∃ y, y < 256 ∧ cells i = nI y := by
  obtain ⟨e, far, S, x1, x2, x3, x4, x5, x6, x7, x8, x9, x10, x11⟩ := x
  have hh := hM.2.2.2.1
  have hc : ∀ k, k < n → c k < 256 := fun k hk => by rw [← (x1 k hk).1]; omega
  have hpl := s_pl_f P c n (fun i => eK (e i))
  by_cases c1 : i < o + 4
  · obtain e | e | e | e : i = o ∨ i = o + 1 ∨ i = o + 2 ∨ i = o + 3 := by omega
    · rw [e]; exact ⟨p, by omega, x5⟩
    · rw [e]; exact ⟨l, by omega, x6⟩
    · rw [e]; exact ⟨_, by omega, x7⟩
    · rw [e]; exact ⟨_, by omega, x8⟩
  by_cases c2 : i < o + 4 + S n
  · have cS : ∀ j, s_B c j → j < n → S (j + s_sz (c j)) = S j + s_ln c far j := fun j j1 j2 => by rw [x2.2.1 j j1 j2, hpl j, Nat.add_zero]
    obtain ⟨j, z, j1, j2, j3, j4⟩ := s_cover hM.2.2.2.2.1 cS n 0 (i - (o + 4)) (by omega) (s_B_0 _) (by omega) (by rw [x2.1]; omega) (by omega)
    have := x9 j j1 j2 z j3
    rw [← j4, show o + 4 + (i - (o + 4)) = i by omega] at this
    exact ⟨_, s_em_256 hM hc j1 j2 j3, this⟩
  by_cases c3 : i = o + 4 + S n
  · rw [c3]; exact ⟨h, by omega, x10⟩
  · have := x11 (i - (o + 5 + S n)) (by omega)
    rw [show o + 5 + S n + (i - (o + 5 + S n)) = i by omega] at this
    refine ⟨_, hb_lt (h := h) (fun k hk hk3 => ?_) (by omega), this⟩
    show (if k % 4 = 3 then R k else S (R k)) < 256
    rw [if_pos hk3]
    have := (hM.2.2.2.2.2.1 (k / 4) (by omega)).2.2.2.2
    rw [show 4 * (k / 4) + 3 = k by omega] at this
    omega
/-- segments, one behind another -/
theorem UU.of {cells : Nat → Int32} {u u' P tp : Nat → Nat} {tu : Nat} (hac : s_AC u tu) (hu : ∀ i y, y < 256 → cells i = nI y → u' i = y) (h0 : cells 0 = nI (u 0)) (t0 : tp 0 = 1) (hs : ∀ z, z < u 0 → sg cells (tp z) (tp (z + 1)) (u (s_off u z)) (u (s_off u z + 1)) (s_n u (s_off u z)) (s_h u (s_off u z)) (s_c u (s_off u z)) (s_R u (s_off u z)) P) : UU u u' P ∧ ∀ z, z ≤ u 0 → s_off u' z = tp z := by
  have hN8 := hac.2.2.1
  have key : ∀ z, z < u 0 → s_off u' z = tp z → (u' (s_off u' z) = u (s_off u z) ∧ u' (s_off u' z + 1) = u (s_off u z + 1) ∧ s_h u' (s_off u' z) = s_h u (s_off u z) ∧ ∃ (b far : Nat → Bool) (S : Nat → Nat), (∀ i, i < s_n u (s_off u z) → (b i = true ↔ s_bl (s_c u (s_off u z)) (s_n u (s_off u z)) (s_h u (s_off u z)) (s_R u (s_off u z)) i)) ∧ s_Lo (s_c u (s_off u z)) (s_pl P (s_c u (s_off u z)) (s_n u (s_off u z)) b false) (s_n u (s_off u z)) far S ∧ s_n u' (s_off u' z) = S (s_n u (s_off u z)) ∧
      (∀ j, s_B (s_c u (s_off u z)) j → j < s_n u (s_off u z) → ∀ x, x < s_ln (s_c u (s_off u z)) far j → s_c u' (s_off u' z) (S j + x) = s_em P (s_c u (s_off u z)) (s_n u (s_off u z)) b false far S j x) ∧ ∀ i, i < 4 * s_h u (s_off u z) → s_R u' (s_off u' z) i = if i % 4 = 3 then s_R u (s_off u z) i else S (s_R u (s_off u z) i)) ∧ s_off u' (z + 1) = tp (z + 1) := by
    intro z hz ez
    have M := hac.mt hz
    obtain ⟨V1, V2, V3, -⟩ := hac.v.2.2 z hz
    have V1 : u (s_off u z) ≤ 4 := V1
    have V3 : u (s_off u z + 1) ≤ 20 := V3
    obtain ⟨e, far, S, x1, x2, x3, x4, x5, x6, x7, x8, x9, x10, x11⟩ := hs z hz
    have hh := M.2.2.2.1
    have hc : ∀ k, k < s_n u (s_off u z) → s_c u (s_off u z) k < 256 := fun k hk => by rw [← (x1 k hk).1]; omega
    have en : s_n u' (tp z) = S (s_n u (s_off u z)) := by
      unfold s_n
      rw [hu _ _ (by omega) x7, hu _ _ (by omega) x8]
      unfold s_n at x4 ⊢
      omega
    have eh : s_h u' (tp z) = s_h u (s_off u z) := by
      show u' (tp z + 4 + s_n u' (tp z)) = _
      rw [en, hu _ _ (by omega) x10]
    have off : s_off u' (z + 1) = tp (z + 1) := by
      show s_e u' (s_off u' z) = _
      rw [ez]
      unfold s_e
      rw [en, eh, x3]
    refine ⟨?_, off⟩
    rw [ez]
    have hV : ∀ k, k < 4 * s_h u (s_off u z) → k % 4 = 3 → (fun i => if i % 4 = 3 then s_R u (s_off u z) i else S (s_R u (s_off u z) i)) k < 256 := fun k hk hk3 => by
      show (if k % 4 = 3 then s_R u (s_off u z) k else S (s_R u (s_off u z) k)) < 256
      rw [if_pos hk3]
      have := (M.2.2.2.2.2.1 (k / 4) (by omega)).2.2.2.2
      rw [show 4 * (k / 4) + 3 = k by omega] at this
      omega
    have hx : ∀ x, x < 7 * s_h u (s_off u z) → u' (tp z + 5 + S (s_n u (s_off u z)) + x) = hb (fun i => if i % 4 = 3 then s_R u (s_off u z) i else S (s_R u (s_off u z) i)) x := fun x hx => hu _ _ (hb_lt hV hx) (x11 x hx)
    refine ⟨hu _ _ (by omega) x5, hu _ _ (by omega) x6, eh, fun i => eK (e i), far, S, fun i hi => (x1 i hi).2.2, x2, en, fun j j1 j2 x hx => hu _ _ (s_em_256 M hc j1 j2 hx) (x9 j j1 j2 x hx), fun i hi => ?_⟩
    show s_hr u' (tp z + 5 + s_n u' (tp z)) i = _
    rw [en]
    have e4 : i = 4 * (i / 4) + i % 4 := by omega
    generalize hq : i / 4 = q at e4
    generalize hr : i % 4 = r at e4
    have hr4 : r < 4 := by omega
    rw [e4, s_hr_v _ _ _ hr4]
    by_cases c3 : r = 3
    · rw [if_pos c3, Nat.add_assoc, hx _ (by omega)]
      unfold hb
      rw [if_pos (by omega), show 4 * ((7 * q + 6) / 7) + 3 = 4 * q + r by omega]
      show (if (4 * q + r) % 4 = 3 then _ else _) = _
      rw [if_pos (by omega), if_pos (by omega)]
    · have rl := M.r3 (z := q) (by omega) (show r < 3 by omega)
      have hpl := s_pl_f P (s_c u (s_off u z)) (s_n u (s_off u z)) (fun i => eK (e i))
      have sh := (x2.short M hc hpl).2.2 _ rl.2 rl.1
      have hn := M.2.1
      rw [if_neg c3, show tp z + 5 + S (s_n u (s_off u z)) + 7 * q + 2 * r = tp z + 5 + S (s_n u (s_off u z)) + (7 * q + 2 * r) by omega, show tp z + 5 + S (s_n u (s_off u z)) + (7 * q + 2 * r) + 1 = tp z + 5 + S (s_n u (s_off u z)) + (7 * q + 2 * r + 1) by omega, hx _ (by omega), hx _ (by omega)]
      unfold hb
      rw [if_neg (by omega), if_pos (by omega), if_neg (by omega), if_neg (by omega), show 4 * ((7 * q + 2 * r) / 7) + (7 * q + 2 * r) % 7 / 2 = 4 * q + r by omega, show 4 * ((7 * q + 2 * r + 1) / 7) + (7 * q + 2 * r + 1) % 7 / 2 = 4 * q + r by omega]
      show 256 * ((if (4 * q + r) % 4 = 3 then s_R u (s_off u z) (4 * q + r) else S (s_R u (s_off u z) (4 * q + r))) / 256 % 256) + (if (4 * q + r) % 4 = 3 then s_R u (s_off u z) (4 * q + r) else S (s_R u (s_off u z) (4 * q + r))) % 256 = if r = 3 then s_R u (s_off u z) (4 * q + r) else S (s_R u (s_off u z) (4 * q + r))
      rw [if_neg (show ¬ (4 * q + r) % 4 = 3 by omega), if_neg c3]
      omega
  have offs : ∀ z, z ≤ u 0 → s_off u' z = tp z := by
    intro z
    induction z with
    | zero => intro _; rw [t0]; rfl
    | succ z ih => intro hz; exact (key z (by omega) (ih (by omega))).2
  exact ⟨⟨hu 0 _ (by omega) h0, fun z hz => (key z hz (offs z (by omega))).1⟩, offs⟩
