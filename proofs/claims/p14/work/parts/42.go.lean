/-! WHERE A RUN GOES -/
def s_WB (g0 : hm) (N : Nat) (p l n h : Nat → Nat) (c R : Nat → Nat → Nat) (P : Nat → Nat) : Prop := (∀ m, m < N → g0 287 m = nI (p m) ∧ g0 288 m = nI (l m) ∧ g0 290 m = nI (h m)) ∧ s_VF N p l n h c R ∧ (∀ k, k < 256 → P k ≤ 1000) ∧ ∀ m, m < N → s_Wm g0 m (n m) (h m) (c m) (R m) P ∧ ∀ k, k < n m → c m k < 256
/-- the instruction at j of method m, come to with depth d0 -/
def s_Cx (g0 : hm) (N : Nat) (p n h : Nat → Nat) (c R : Nat → Nat → Nat) (P : Nat → Nat) (m : Nat) (b far : Nat → Bool) (S : Nat → Nat) (j t d0 : Nat) : Prop := m < N ∧ s_Wq g0 m (n m) (h m) (c m) (R m) P b far S ∧ s_B (c m) j ∧ j < n m ∧ s_Rc (c m) p (h m) (R m) t j d0
theorem s_Cx.gd {g0 : hm} {N m j t d0 y d rk : Nat} {p n h P S : Nat → Nat} {c R : Nat → Nat → Nat} {b far : Nat → Bool} (x : s_Cx g0 N p n h c R P m b far S j t d0) (q : s_Pd P (c m) (n m) b far S p j d0 y d rk) : s_Gd g0 N p n h c R P rk m y d := ⟨x.1, b, far, S, j, t, d0, x.2.1, x.2.2.1, x.2.2.2.1, x.2.2.2.2, q⟩
theorem s_Cx.to {g0 : hm} {N m j t d0 : Nat} {p n h P S : Nat → Nat} {c R : Nat → Nat → Nat} {b far : Nat → Bool} (x : s_Cx g0 N p n h c R P m b far S j t d0) : ∃ rk, rk ≤ 2 ∧ s_Gd g0 N p n h c R P rk m (S j) d0 := by
  rcases s_pay_05 P (c m) (n m) b true j with p0 | p5
  · rcases s_pl_01 P (c m) (n m) b true j with q | q
    · exact ⟨0, by omega, x.gd (Or.inr (Or.inr (Or.inl ⟨by omega, rfl, rfl⟩)))⟩
    · exact ⟨1, by omega, x.gd (Or.inr (Or.inl ⟨q, by omega, rfl, rfl⟩))⟩
  · exact ⟨2, by omega, x.gd (Or.inl ⟨p5, rfl, rfl, rfl⟩)⟩
theorem s_Cx.dk {g0 : hm} {N m j t d0 : Nat} {p l n h P S : Nat → Nat} {c R : Nat → Nat → Nat} {b far : Nat → Bool} (hW : s_WB g0 N p l n h c R P) (x : s_Cx g0 N p n h c R P m b far S j t d0) : s_o1 (c m) p (n m) j d0 ∧ d0 ≤ 20 ∧ s_okI (c m) (l m) N (n m) j ∧ l m ≤ 20 ∧ N ≤ 8 := by
  obtain ⟨-, -, hl, hM, hD⟩ := hW.2.1.2.2 m x.1
  exact ⟨hD.2.1 t j d0 x.2.2.2.2, s_Rc_20 hD t j d0 x.2.2.2.2, hM.2.2.2.2.1 j x.2.2.1 x.2.2.2.1, hl, hW.2.1.2.1⟩
theorem s_Cx.next {g0 : hm} {N m j t d0 : Nat} {p l n h P S : Nat → Nat} {c R : Nat → Nat → Nat} {b far : Nat → Bool} (hW : s_WB g0 N p l n h c R P) (x : s_Cx g0 N p n h c R P m b far S j t d0) (hf : s_fl (c m j) = true) : s_Cx g0 N p n h c R P m b far S (j + s_sz (c m j)) (t + 1) (s_d2 (c m) p j d0) :=
  ⟨x.1, x.2.1, s_B_next x.2.2.1, (x.dk hW).1.2.2 hf, Or.inr ⟨j, d0, x.2.2.2.2, Or.inl ⟨hf, rfl⟩, rfl⟩⟩
theorem s_Cx.tg {g0 : hm} {N m j t d0 : Nat} {p l n h P S : Nat → Nat} {c R : Nat → Nat → Nat} {b far : Nat → Bool} (hW : s_WB g0 N p l n h c R P) (x : s_Cx g0 N p n h c R P m b far S j t d0) (hJ : s_isJ (c m j) = true) : s_is (c m) (n m) (s_tgt (c m) j) := by
  obtain ⟨-, -, hl, hM, hD⟩ := hW.2.1.2.2 m x.1
  exact hM.2.2.2.2.2.2 j x.2.2.2.1 x.2.2.1 hJ
theorem s_Cx.jump {g0 : hm} {N m j t d0 : Nat} {p l n h P S : Nat → Nat} {c R : Nat → Nat → Nat} {b far : Nat → Bool} (hW : s_WB g0 N p l n h c R P) (x : s_Cx g0 N p n h c R P m b far S j t d0) (hJ : s_isJ (c m j) = true) : s_Cx g0 N p n h c R P m b far S (s_tgt (c m) j).toNat (t + 1) (s_d2 (c m) p j d0) := by
  obtain ⟨q1, q2, q3⟩ := x.tg hW hJ
  exact ⟨x.1, x.2.1, q3, by omega, Or.inr ⟨j, d0, x.2.2.2.2, Or.inr ⟨hJ, rfl⟩, rfl⟩⟩
theorem s_Cx.S4 {g0 : hm} {N m j t d0 : Nat} {p l n h P S : Nat → Nat} {c R : Nat → Nat → Nat} {b far : Nat → Bool} (hW : s_WB g0 N p l n h c R P) (x : s_Cx g0 N p n h c R P m b far S j t d0) : S j ≤ 4000 ∧ S (j + s_sz (c m j)) = S j + s_pl P (c m) (n m) b true j + s_ln (c m) far j ∧ S j + s_pl P (c m) (n m) b true j + s_ln (c m) far j ≤ 4000 := by
  obtain ⟨-, -, hl, hM, hD⟩ := hW.2.1.2.2 m x.1
  have h1 := x.2.1.1.2.1 j x.2.2.1 x.2.2.2.1
  have h2 := s_S_le (S := S) (w := fun j => s_pl P (c m) (n m) b true j + s_ln (c m) far j) hM.2.2.2.2.1 (fun j j1 j2 => by rw [x.2.1.1.2.1 j j1 j2, Nat.add_assoc]) (n m) (j + s_sz (c m j)) (by omega) (x.dk hW).2.2.1.2.1 (s_B_next x.2.2.1)
  have h3 := x.2.1.2.1.1
  omega
theorem s_Cx.byte {g0 : hm} {N m j t d0 o : Nat} {p l n h P S : Nat → Nat} {c R : Nat → Nat → Nat} {b far : Nat → Bool} (hW : s_WB g0 N p l n h c R P) (x : s_Cx g0 N p n h c R P m b far S j t d0) (ho : o < s_pl P (c m) (n m) b true j + s_ln (c m) far j) : g0 304 (4001 * m + (S j + o)) = nI (s_em P (c m) (n m) b true far S j o) ∧ S j + o < 4000 := by
  have h1 := (x.S4 hW).2.2
  exact ⟨x.2.1.2.2.1 j x.2.2.1 x.2.2.2.1 o ho, by omega⟩
/-- the bytes of an instruction that is no jump -/
theorem s_Cx.main {g0 : hm} {N m j t d0 i : Nat} {p l n h P S : Nat → Nat} {c R : Nat → Nat → Nat} {b far : Nat → Bool} (hW : s_WB g0 N p l n h c R P) (x : s_Cx g0 N p n h c R P m b far S j t d0) (hJ : ¬ s_isJ (c m j) = true) (hi : i < s_sz (c m j)) : g0 304 (4001 * m + (S j + s_pl P (c m) (n m) b true j + i)) = nI (c m (j + i)) ∧ S j + s_pl P (c m) (n m) b true j + i < 4000 ∧ c m (j + i) < 256 := by
  have h1 := x.byte hW (o := s_pl P (c m) (n m) b true j + i) (by rw [s_ln_n hJ]; omega)
  have hp := s_pl_01 P (c m) (n m) b true j
  have e : s_em P (c m) (n m) b true far S j (s_pl P (c m) (n m) b true j + i) = c m (j + i) := by
    unfold s_em
    rw [if_neg (by omega), if_neg (by omega), if_neg hJ, show s_pl P (c m) (n m) b true j + i - s_pl P (c m) (n m) b true j = i by omega]
  rw [e, ← Nat.add_assoc (S j)] at h1
  have h2 := (x.dk hW).2.2.1.2.1
  exact ⟨h1.1, h1.2, (hW.2.2.2 m x.1).2 _ (by omega)⟩
/-- the bytes of a jump -/
theorem s_Cx.mainJ {g0 : hm} {N m j t d0 i : Nat} {p l n h P S : Nat → Nat} {c R : Nat → Nat → Nat} {b far : Nat → Bool} (hW : s_WB g0 N p l n h c R P) (x : s_Cx g0 N p n h c R P m b far S j t d0) (hJ : s_isJ (c m j) = true) (hi : i < s_ln (c m) far j) : g0 304 (4001 * m + (S j + s_pl P (c m) (n m) b true j + i)) = nI (s_ej (c m) far S (S j + s_pl P (c m) (n m) b true j) j i) ∧ S j + s_pl P (c m) (n m) b true j + i < 4000 := by
  have h1 := x.byte hW (o := s_pl P (c m) (n m) b true j + i) (by omega)
  have hp := s_pl_01 P (c m) (n m) b true j
  have e : s_em P (c m) (n m) b true far S j (s_pl P (c m) (n m) b true j + i) = s_ej (c m) far S (S j + s_pl P (c m) (n m) b true j) j i := by
    unfold s_em
    rw [if_neg (by omega), if_neg (by omega), if_pos hJ, show s_pl P (c m) (n m) b true j + i - s_pl P (c m) (n m) b true j = i by omega]
  rw [e, ← Nat.add_assoc (S j)] at h1
  exact h1
/-- what a step may leave -/
def s_Ou (g0 : hm) (N : Nat) (p n h : Nat → Nat) (c R : Nat → Nat → Nat) (P : Nat → Nat) (q : hm) (st rk : Nat) : Prop :=
  (q 285 47 = 0 ∧ q 285 46 = 0 ∧ ∃ D st', s_Rs g0 (s_Sd g0 N p n h c R P) q D st' ∧ (D = 0 ∨ ∃ F rk', D = F + 1 ∧ s_fr q F (s_Gd g0 N p n h c R P rk') ∧ 3 * (20000 - st') + rk' < 3 * (20000 - st) + rk)) ∨
  (q 285 47 = 0 ∧ q 285 46 = 1 ∧ ∃ D st', s_Rs g0 (s_Sd g0 N p n h c R P) q D st') ∨ ∃ F, st < 20000 ∧ s_Th g0 N (s_Sd g0 N p n h c R P) q F (st + 1)
theorem s_K.ou {g0 q : hm} {N m F st y d : Nat} {p n h P : Nat → Nat} {c R : Nat → Nat → Nat} (k : s_K g0 (s_Sd g0 N p n h c R P) q F (st + 1) m y d) (hG : ∃ rk', rk' ≤ 2 ∧ s_Gd g0 N p n h c R P rk' m y d) (rk : Nat) : s_Ou g0 N p n h c R P q st rk := by
  obtain ⟨k1, k2, k3, k4, k5, k6⟩ := k
  obtain ⟨rk', g1, g2⟩ := hG
  have := k1.2.2.2.2.2.1
  exact Or.inl ⟨k5, k6, F + 1, st + 1, k1, Or.inr ⟨F, rk', rfl, ⟨m, y, d, k2, k3, k4, g2⟩, by omega⟩⟩
theorem s_K.ou0 {g0 q : hm} {N m F st y d rk rk' : Nat} {p n h P : Nat → Nat} {c R : Nat → Nat → Nat} (k : s_K g0 (s_Sd g0 N p n h c R P) q F st m y d) (g2 : s_Gd g0 N p n h c R P rk' m y d) (hr : rk' < rk) : s_Ou g0 N p n h c R P q st rk := by
  obtain ⟨k1, k2, k3, k4, k5, k6⟩ := k
  exact Or.inl ⟨k5, k6, F + 1, st, k1, Or.inr ⟨F, rk', rfl, ⟨m, y, d, k2, k3, k4, g2⟩, by omega⟩⟩
theorem s_Th.ou {g0 q : hm} {N F st : Nat} {p n h P : Nat → Nat} {c R : Nat → Nat → Nat} (k : s_Th g0 N (s_Sd g0 N p n h c R P) q F (st + 1)) (rk : Nat) : s_Ou g0 N p n h c R P q st rk := by
  have := k.2.2.1.2.2.2.2.2.1
  exact Or.inr (Or.inr ⟨F, by omega, k⟩)
