/-! THE STATE OF A RUN -/
def s_Rs (g0 : hm) (Q : Nat → Nat → Nat → Prop) (g : hm) (D st : Nat) : Prop := Fr [285, 313, 314, 315, 316, 317, 318, 319] g0 g ∧ Fo [36, 37, 38, 39, 40, 46, 47] g0 g ∧ g 285 40 = nI D ∧ D ≤ 60 ∧ g 285 38 = nI st ∧ st ≤ 20000 ∧ s_Az g ∧ ∀ f, f + 1 < D → s_fr g f Q
theorem s_Rs.w1 {g0 g : hm} {Q : Nat → Nat → Nat → Prop} {D st a j : Nat} {v : Int32} (x : s_Rs g0 Q g D st) (ha : a = 314 ∨ a = 318 ∨ a = 319) : s_Rs g0 Q (hm_w g a j v) D st := by
  obtain ⟨x1, x2, x3, x4, x5, x6, x7, x8⟩ := x
  have h285 : (285 : Nat) ≠ a := by omega
  refine ⟨x1.w (by rcases ha with e | e | e <;> rw [e] <;> decide), x2.wa h285, by rw [hm_w_ne h285]; exact x3, x4, by rw [hm_w_ne h285]; exact x5, x6, fun i hi => by rw [hm_w_ne (by omega)]; exact x7 i hi, fun f hf => (x8 f hf).mono (by rw [hm_w_ne (by omega)]) (by rw [hm_w_ne (by omega)]) (by rw [hm_w_ne (by omega)])⟩
theorem s_Rs.w2 {g0 g : hm} {Q : Nat → Nat → Nat → Prop} {D st a j : Nat} {v : Int32} (x : s_Rs g0 Q g D st) (ha : a = 315 ∨ a = 316 ∨ a = 317) (hj : D ≤ j + 1) : s_Rs g0 Q (hm_w g a j v) D st := by
  obtain ⟨x1, x2, x3, x4, x5, x6, x7, x8⟩ := x
  have h285 : (285 : Nat) ≠ a := by omega
  have hw : ∀ b f, f + 1 < D → hm_w g a j v b f = g b f := by
    intro b f hf
    by_cases e : b = a
    · rw [e, hm_w_o (by omega)]
    · rw [hm_w_ne e]
  exact ⟨x1.w (by rcases ha with e | e | e <;> rw [e] <;> decide), x2.wa h285, by rw [hm_w_ne h285]; exact x3, x4, by rw [hm_w_ne h285]; exact x5, x6, fun i hi => by rw [hm_w_ne (by omega)]; exact x7 i hi, fun f hf => (x8 f hf).mono (hw 315 f hf) (hw 316 f hf) (hw 317 f hf)⟩
theorem s_Rs.w3 {g0 g : hm} {Q : Nat → Nat → Nat → Prop} {D st j : Nat} {v : Int32} (x : s_Rs g0 Q g D st) (hj : j = 36 ∨ j = 37 ∨ j = 39 ∨ j = 46 ∨ j = 47) : s_Rs g0 Q (hm_w g 285 j v) D st := by
  obtain ⟨x1, x2, x3, x4, x5, x6, x7, x8⟩ := x
  exact ⟨x1.w (by decide), x2.w (by rcases hj with e | e | e | e | e <;> rw [e] <;> decide), by rw [hm_w_o (by omega)]; exact x3, x4, by rw [hm_w_o (by omega)]; exact x5, x6, fun i hi => by rw [hm_w_ne (by decide)]; exact x7 i hi, fun f hf => (x8 f hf).mono (by rw [hm_w_ne (by decide)]) (by rw [hm_w_ne (by decide)]) (by rw [hm_w_ne (by decide)])⟩
theorem s_Rs.w38 {g0 g : hm} {Q : Nat → Nat → Nat → Prop} {D st st' : Nat} (x : s_Rs g0 Q g D st) (h : st' ≤ 20000) : s_Rs g0 Q (hm_w g 285 38 (nI st')) D st' := by
  obtain ⟨x1, x2, x3, x4, x5, x6, x7, x8⟩ := x
  exact ⟨x1.w (by decide), x2.w (by decide), by rw [hm_w_o (by decide)]; exact x3, x4, by rw [hm_w_eq], h, fun i hi => by rw [hm_w_ne (by decide)]; exact x7 i hi, fun f hf => (x8 f hf).mono (by rw [hm_w_ne (by decide)]) (by rw [hm_w_ne (by decide)]) (by rw [hm_w_ne (by decide)])⟩
theorem s_Rs.w313 {g0 g : hm} {Q : Nat → Nat → Nat → Prop} {D st a z : Nat} (x : s_Rs g0 Q g D st) (hz : z ≤ 1000) : s_Rs g0 Q (hm_w g 313 a (nI z)) D st := by
  obtain ⟨x1, x2, x3, x4, x5, x6, x7, x8⟩ := x
  refine ⟨x1.w (by decide), x2.wa (by decide), by rw [hm_w_ne (by decide)]; exact x3, x4, by rw [hm_w_ne (by decide)]; exact x5, x6, fun i hi => ?_, fun f hf => (x8 f hf).mono (by rw [hm_w_ne (by decide)]) (by rw [hm_w_ne (by decide)]) (by rw [hm_w_ne (by decide)])⟩
  rw [hm_w_at]
  by_cases e : i = a
  · rw [if_pos e]; exact ⟨z, hz, rfl⟩
  · rw [if_neg e]; exact x7 i hi
/-- the frame on top is one less -/
theorem s_Rs.less {g0 g : hm} {Q : Nat → Nat → Nat → Prop} {D st : Nat} (x : s_Rs g0 Q g (D + 1) st) : s_Rs g0 Q (hm_w g 285 40 (nI D)) D st := by
  obtain ⟨x1, x2, x3, x4, x5, x6, x7, x8⟩ := x
  exact ⟨x1.w (by decide), x2.w (by decide), by rw [hm_w_eq], by omega, by rw [hm_w_o (by decide)]; exact x5, x6, fun i hi => by rw [hm_w_ne (by decide)]; exact x7 i hi, fun f hf => (x8 f (by omega)).mono (by rw [hm_w_ne (by decide)]) (by rw [hm_w_ne (by decide)]) (by rw [hm_w_ne (by decide)])⟩
/-- a run whose frame on top, F, stands at x of method m with depth d; nothing is thrown -/
def s_K (g0 : hm) (Q : Nat → Nat → Nat → Prop) (g : hm) (F st m x d : Nat) : Prop := s_Rs g0 Q g (F + 1) st ∧ g 315 F = nI m ∧ g 316 F = nI x ∧ g 317 F = nI d ∧ g 285 47 = 0 ∧ g 285 46 = 0
theorem s_K.push {g0 g : hm} {Q : Nat → Nat → Nat → Prop} {F st m x d : Nat} (k : s_K g0 Q g F st m x d) (hd : d < 24) (v : Int32) : ∃ g', nX12_push v g = some g' ∧ s_K g0 Q g' F st m x (d + 1) := by
  obtain ⟨k1, k2, k3, k4, k5, k6⟩ := k
  have hF : F < 60 := by have := k1.2.2.2.1; omega
  refine ⟨_, q_push hF k1.2.2.1 k4 hd v, (k1.w1 (by decide)).w2 (by decide) (Nat.le_refl _), ?_, ?_, ?_, ?_, ?_⟩
  · rw [hm_w_ne (by decide), hm_w_ne (by decide)]; exact k2
  · rw [hm_w_ne (by decide), hm_w_ne (by decide)]; exact k3
  · rw [hm_w_eq]
  · rw [hm_w_ne (by decide), hm_w_ne (by decide)]; exact k5
  · rw [hm_w_ne (by decide), hm_w_ne (by decide)]; exact k6
theorem s_K.pop {g0 g : hm} {Q : Nat → Nat → Nat → Prop} {F st m x d : Nat} (k : s_K g0 Q g F st m x (d + 1)) (hd : d < 24) : ∃ v g', nX12_pop g = some (v, g') ∧ s_K g0 Q g' F st m x d := by
  obtain ⟨k1, k2, k3, k4, k5, k6⟩ := k
  have hF : F < 60 := by have := k1.2.2.2.1; omega
  refine ⟨_, _, q_pop hF k1.2.2.1 k4 hd, k1.w2 (by decide) (Nat.le_refl _), ?_, ?_, ?_, ?_, ?_⟩
  · rw [hm_w_ne (by decide)]; exact k2
  · rw [hm_w_ne (by decide)]; exact k3
  · rw [hm_w_eq]
  · rw [hm_w_ne (by decide)]; exact k5
  · rw [hm_w_ne (by decide)]; exact k6
theorem s_K.top {g0 g : hm} {Q : Nat → Nat → Nat → Prop} {F st m x d : Nat} (k : s_K g0 Q g F st m x (d + 1)) (hd : d < 24) : ∃ v, nX12_top g = some (v, g) := by
  have hF : F < 60 := by have := k.1.2.2.2.1; omega
  exact ⟨_, q_top hF k.1.2.2.1 k.2.2.2.1 hd⟩
theorem s_K.code {g0 g : hm} {Q : Nat → Nat → Nat → Prop} {F st m x d : Nat} (k : s_K g0 Q g F st m x d) (hm8 : m < 8) {i : Nat} (hx : x + i < 4001) : nX12_codeAt (nI i) g = some (g0 304 (4001 * m + (x + i)), g) := by
  have hF : F < 60 := by have := k.1.2.2.2.1; omega
  rw [q_codeAt hF k.1.2.2.1 hm8 k.2.1 k.2.2.1 hx, k.1.1 304 (by decide)]
theorem s_K.w1 {g0 g : hm} {Q : Nat → Nat → Nat → Prop} {F st m x d a j : Nat} {v : Int32} (k : s_K g0 Q g F st m x d) (ha : a = 314 ∨ a = 318 ∨ a = 319) : s_K g0 Q (hm_w g a j v) F st m x d := by
  obtain ⟨k1, k2, k3, k4, k5, k6⟩ := k
  exact ⟨k1.w1 ha, by rw [hm_w_ne (by omega)]; exact k2, by rw [hm_w_ne (by omega)]; exact k3, by rw [hm_w_ne (by omega)]; exact k4, by rw [hm_w_ne (by omega)]; exact k5, by rw [hm_w_ne (by omega)]; exact k6⟩
theorem s_K.w313 {g0 g : hm} {Q : Nat → Nat → Nat → Prop} {F st m x d a z : Nat} (k : s_K g0 Q g F st m x d) (hz : z ≤ 1000) : s_K g0 Q (hm_w g 313 a (nI z)) F st m x d := by
  obtain ⟨k1, k2, k3, k4, k5, k6⟩ := k
  exact ⟨k1.w313 hz, by rw [hm_w_ne (by decide)]; exact k2, by rw [hm_w_ne (by decide)]; exact k3, by rw [hm_w_ne (by decide)]; exact k4, by rw [hm_w_ne (by decide)]; exact k5, by rw [hm_w_ne (by decide)]; exact k6⟩
theorem s_K.at {g0 g : hm} {Q : Nat → Nat → Nat → Prop} {F st m x d : Nat} (k : s_K g0 Q g F st m x d) (x' : Nat) : s_K g0 Q (hm_w g 316 F (nI x')) F st m x' d := by
  obtain ⟨k1, k2, k3, k4, k5, k6⟩ := k
  exact ⟨k1.w2 (by decide) (Nat.le_refl _), by rw [hm_w_ne (by decide)]; exact k2, by rw [hm_w_eq], by rw [hm_w_ne (by decide)]; exact k4, by rw [hm_w_ne (by decide)]; exact k5, by rw [hm_w_ne (by decide)]; exact k6⟩
theorem s_K.dp {g0 g : hm} {Q : Nat → Nat → Nat → Prop} {F st m x d : Nat} (k : s_K g0 Q g F st m x d) (d' : Nat) : s_K g0 Q (hm_w g 317 F (nI d')) F st m x d' := by
  obtain ⟨k1, k2, k3, k4, k5, k6⟩ := k
  exact ⟨k1.w2 (by decide) (Nat.le_refl _), by rw [hm_w_ne (by decide)]; exact k2, by rw [hm_w_ne (by decide)]; exact k3, by rw [hm_w_eq], by rw [hm_w_ne (by decide)]; exact k5, by rw [hm_w_ne (by decide)]; exact k6⟩
/-- a step counts -/
theorem s_K.cnt {g0 g : hm} {Q : Nat → Nat → Nat → Prop} {F st m x d : Nat} (k : s_K g0 Q g F st m x d) (h : st + 1 ≤ 20000) : s_K g0 Q (hm_w g 285 38 (nI (st + 1))) F (st + 1) m x d := by
  obtain ⟨k1, k2, k3, k4, k5, k6⟩ := k
  exact ⟨k1.w38 h, by rw [hm_w_ne (by decide)]; exact k2, by rw [hm_w_ne (by decide)]; exact k3, by rw [hm_w_ne (by decide)]; exact k4, by rw [hm_w_o (by decide)]; exact k5, by rw [hm_w_o (by decide)]; exact k6⟩
/-- what a step may leave: it goes on, it is stopped, or something is thrown -/
def s_Th (g0 : hm) (N : Nat) (Q : Nat → Nat → Nat → Prop) (q : hm) (F st : Nat) : Prop := (∃ e, 1 ≤ e ∧ e ≤ 4 ∧ q 285 47 = nI e) ∧ q 285 46 = 0 ∧ s_Rs g0 Q q (F + 1) st ∧ ∃ m x d, m < N ∧ q 315 F = nI m ∧ q 316 F = nI x ∧ q 317 F = nI d
theorem s_K.thr {g0 g : hm} {N : Nat} {Q : Nat → Nat → Nat → Prop} {F st m x d e : Nat} (k : s_K g0 Q g F st m x d) (hm8 : m < N) (h1 : 1 ≤ e) (h2 : e ≤ 4) : s_Th g0 N Q (hm_w g 285 47 (nI e)) F st := by
  obtain ⟨k1, k2, k3, k4, k5, k6⟩ := k
  exact ⟨⟨e, h1, h2, by rw [hm_w_eq]⟩, by rw [hm_w_o (by decide)]; exact k6, k1.w3 (by decide), m, x, d, hm8, by rw [hm_w_ne (by decide)]; exact k2, by rw [hm_w_ne (by decide)]; exact k3, by rw [hm_w_ne (by decide)]; exact k4⟩
