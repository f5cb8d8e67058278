/-! THE CODE OF AN UNPAID LAYOUT -/
def s_kd (c : Nat → Nat) (far : Nat → Bool) (j : Nat) : Nat := if s_isJ (c j) = true then (if far j = true then 168 else if c j < 167 then c j else 167) else c j
theorem s_kd_c (c : Nat → Nat) (far : Nat → Bool) {j : Nat} (hf : far j = true → c j = 168) : s_kd c far j = c j ∨ ((c j = 167 ∨ c j = 168) ∧ (s_kd c far j = 167 ∨ s_kd c far j = 168)) := by
  unfold s_kd
  by_cases hj : s_isJ (c j) = true
  · rw [if_pos hj]
    rcases s_isJ_c hj with ⟨h0, h1, h2⟩ | ⟨h0, h1⟩
    · have nf : ¬ far j = true := fun q => absurd (hf q) (by omega)
      rw [if_neg nf, if_pos h0]
      exact Or.inl rfl
    · refine Or.inr ⟨h1, ?_⟩
      rw [if_neg h0]
      split
      · exact Or.inr rfl
      · exact Or.inl rfl
  · rw [if_neg hj]
    exact Or.inl rfl
theorem s_kd_same {α : Type} (f : Nat → α) (h0 : f 167 = f 168) {c : Nat → Nat} {far : Nat → Bool} {j : Nat} (hf : far j = true → c j = 168) : f (s_kd c far j) = f (c j) := by
  rcases s_kd_c c far hf with q | ⟨q1 | q1, q2 | q2⟩
  · rw [q]
  · rw [q1, q2]
  · rw [q1, q2, h0]
  · rw [q1, q2, h0]
  · rw [q1, q2]
theorem s_kd_sz {c : Nat → Nat} {far : Nat → Bool} {j : Nat} (hf : far j = true → c j = 168) : s_sz (s_kd c far j) = s_ln c far j := by
  by_cases hj : s_isJ (c j) = true
  · rw [s_ln_j hj]
    unfold s_kd
    rw [if_pos hj]
    by_cases e : far j = true
    · rw [if_pos e, if_pos e, if_neg (by rw [hf e]; decide)]; decide
    · rw [if_neg e, if_neg e]
      rcases s_isJ_c hj with ⟨h0, h1, h2⟩ | ⟨h0, h1⟩
      · rw [if_pos h0]; exact s_sz_t h1 h2
      · rw [if_neg h0]; decide
  · rw [s_ln_n hj]
    unfold s_kd
    rw [if_neg hj]
/-- the code c' is that of c, laid by S -/
def s_nw (c : Nat → Nat) (n : Nat) (far : Nat → Bool) (S c' : Nat → Nat) : Prop := ∀ j, s_B c j → j < n → ∀ o, o < s_ln c far j → c' (S j + o) = if s_isJ (c j) = true then s_ej c far S (S j) j o else c (j + o)
/-- all that is known of an unpaid layout -/
def s_U (c : Nat → Nat) (n l N h : Nat) (R : Nat → Nat) (far : Nat → Bool) (S c' : Nat → Nat) : Prop := s_Mt n l N h c R ∧ (∀ j, j < n → s_B c j → far j = true → c j = 168) ∧ (∀ i j, s_B c i → s_B c j → i ≤ j → j ≤ n → S i ≤ S j ∧ S j ≤ S i + (j - i)) ∧ S 0 = 0 ∧ (∀ j, s_B c j → j < n → S (j + s_sz (c j)) = S j + s_ln c far j) ∧ (∀ j, s_B c j → j < n → s_isJ (c j) = true → far j = false → s_ft (S (s_tgt c j).toNat) (S j) = true) ∧ s_nw c n far S c'
theorem s_Lo.u {c pl S c' : Nat → Nat} {n l N h : Nat} {R : Nat → Nat} {far : Nat → Bool} (hL : s_Lo c pl n far S) (hM : s_Mt n l N h c R) (hc : ∀ k, k < n → c k < 256) (hpl : ∀ j, pl j = 0) (hN : s_nw c n far S c') : s_U c n l N h R far S c' := by
  obtain ⟨a1, a2, a3⟩ := hL.short hM hc hpl
  refine ⟨hM, a1, a2, hL.1, fun j j1 j2 => by rw [hL.2.1 j j1 j2, hpl j, Nat.add_zero], fun j j1 j2 j3 j4 => ?_, hN⟩
  cases v : s_ft (S (s_tgt c j).toNat) (S j)
  · have := hL.2.2.1 j j2 ⟨j1, j3, by rw [hpl j, Nat.add_zero]; exact v⟩
    rw [j4] at this
    exact absurd this (by decide)
  · rfl
theorem s_U.ok {c : Nat → Nat} {n l N h : Nat} {R : Nat → Nat} {far : Nat → Bool} {S c' : Nat → Nat} (u : s_U c n l N h R far S c') {j : Nat} (hB : s_B c j) (hj : j < n) : s_okI c l N n j ∧ 0 < s_sz (c j) ∧ 0 < s_ln c far j := by
  have hok := u.1.2.2.2.2.1 j hB hj
  refine ⟨hok, s_isK_sz hok.1, ?_⟩
  by_cases hJ : s_isJ (c j) = true
  · rw [s_ln_j hJ]
    split
    · split <;> decide
    · decide
  · rw [s_ln_n hJ]
    exact s_isK_sz hok.1
theorem s_U.kd {c : Nat → Nat} {n l N h : Nat} {R : Nat → Nat} {far : Nat → Bool} {S c' : Nat → Nat} (u : s_U c n l N h R far S c') {j : Nat} (hB : s_B c j) (hj : j < n) : c' (S j) = s_kd c far j := by
  obtain ⟨o1, o2, o3⟩ := u.ok hB hj
  have := u.2.2.2.2.2.2 j hB hj 0 o3
  rw [Nat.add_zero, Nat.add_zero] at this
  rw [this]
  unfold s_kd
  by_cases hJ : s_isJ (c j) = true
  · rw [if_pos hJ, if_pos hJ]
    unfold s_ej
    by_cases hf : far j = true
    · have e := u.2.1 j hj hB hf
      rw [if_pos hf, if_pos hf, if_neg (by rw [e]; decide), if_pos rfl]
    · rw [if_neg hf, if_neg hf, if_pos rfl]
  · rw [if_neg hJ, if_neg hJ]
theorem s_U.sz {c : Nat → Nat} {n l N h : Nat} {R : Nat → Nat} {far : Nat → Bool} {S c' : Nat → Nat} (u : s_U c n l N h R far S c') {j : Nat} (hB : s_B c j) (hj : j < n) : s_sz (c' (S j)) = s_ln c far j := by
  rw [u.kd hB hj]
  exact s_kd_sz (u.2.1 j hj hB)
theorem s_U.lt {c : Nat → Nat} {n l N h : Nat} {R : Nat → Nat} {far : Nat → Bool} {S c' : Nat → Nat} (u : s_U c n l N h R far S c') {i j : Nat} (hi : s_B c i) (hj : s_B c j) (h1 : i < j) (h2 : j ≤ n) : S i < S j := by
  obtain ⟨o1, o2, o3⟩ := u.ok hi (by omega)
  have := (u.2.2.1 (i + s_sz (c i)) j (s_B_next hi) hj (s_B_ge hi hj h1) h2).1
  rw [u.2.2.2.2.1 i hi (by omega)] at this
  omega
theorem s_U.inj {c : Nat → Nat} {n l N h : Nat} {R : Nat → Nat} {far : Nat → Bool} {S c' : Nat → Nat} (u : s_U c n l N h R far S c') {i j : Nat} (hi : s_B c i) (hj : s_B c j) (h1 : i ≤ n) (h2 : j ≤ n) (e : S i = S j) : i = j := by
  rcases Nat.lt_trichotomy i j with q | q | q
  · have := u.lt hi hj q h2; omega
  · exact q
  · have := u.lt hj hi q h1; omega
theorem s_U.b1 {c : Nat → Nat} {n l N h : Nat} {R : Nat → Nat} {far : Nat → Bool} {S c' : Nat → Nat} (u : s_U c n l N h R far S c') : ∀ i, s_it c i ≤ n → s_B c' (S (s_it c i))
  | 0, _ => by
    rw [show s_it c 0 = 0 from rfl, u.2.2.2.1]; exact s_B_0 c'
  | i + 1, hi => by
    have h0 : s_it c i ≤ s_it c (i + 1) := s_it_mono c (Nat.le_succ i)
    have ih := s_U.b1 u i (by omega)
    by_cases e : s_it c i < n
    · have := s_B_next ih
      rw [u.sz ⟨i, rfl⟩ e, ← u.2.2.2.2.1 _ ⟨i, rfl⟩ e] at this
      exact this
    · rw [show s_it c (i + 1) = s_it c i by omega]
      exact ih
theorem s_U.b {c : Nat → Nat} {n l N h : Nat} {R : Nat → Nat} {far : Nat → Bool} {S c' : Nat → Nat} (u : s_U c n l N h R far S c') {j : Nat} (hB : s_B c j) (hj : j ≤ n) : s_B c' (S j) := by
  obtain ⟨i, rfl⟩ := hB
  exact u.b1 i hj
theorem s_U.nb {c : Nat → Nat} {n l N h : Nat} {R : Nat → Nat} {far : Nat → Bool} {S c' : Nat → Nat} (u : s_U c n l N h R far S c') : s_B c n := s_chain_n u.1.2.2.2.2.1 n 0 (by omega) (by omega) (s_B_0 c)
theorem s_U.b2 {c : Nat → Nat} {n l N h : Nat} {R : Nat → Nat} {far : Nat → Bool} {S c' : Nat → Nat} (u : s_U c n l N h R far S c') : ∀ i, s_it c' i < S n → ∃ j, s_B c j ∧ j < n ∧ s_it c' i = S j
  | 0, hi => by
    refine ⟨0, s_B_0 c, u.1.1, ?_⟩
    rw [u.2.2.2.1]; rfl
  | i + 1, hi => by
    have h0 : s_it c' i ≤ s_it c' (i + 1) := s_it_mono c' (Nat.le_succ i)
    obtain ⟨j, j1, j2, j3⟩ := s_U.b2 u i (by omega)
    have e : s_it c' (i + 1) = S (j + s_sz (c j)) := by
      rw [u.2.2.2.2.1 j j1 j2, ← u.sz j1 j2, ← j3]
      rfl
    obtain ⟨o1, o2, o3⟩ := u.ok j1 j2
    refine ⟨j + s_sz (c j), s_B_next j1, ?_, e⟩
    refine Classical.byContradiction fun q => ?_
    have : j + s_sz (c j) = n := by have := o1.2.1; omega
    rw [e, this] at hi
    omega
theorem s_U.bi {c : Nat → Nat} {n l N h : Nat} {R : Nat → Nat} {far : Nat → Bool} {S c' : Nat → Nat} (u : s_U c n l N h R far S c') {k : Nat} (hB : s_B c' k) (hk : k < S n) : ∃ j, s_B c j ∧ j < n ∧ k = S j := by
  obtain ⟨i, rfl⟩ := hB
  exact u.b2 i hk
theorem s_U.t {c : Nat → Nat} {n l N h : Nat} {R : Nat → Nat} {far : Nat → Bool} {S c' : Nat → Nat} (u : s_U c n l N h R far S c') {j : Nat} (hB : s_B c j) (hj : j < n) (hJ : s_isJ (c j) = true) : s_tgt c' (S j) = (S (s_tgt c j).toNat : Int) := by
  obtain ⟨t1, t2, t3⟩ := u.1.2.2.2.2.2.2 j hj hB hJ
  have hnn := u.1.2.1
  have hln := s_ln_j (far := far) hJ
  have hNw := u.2.2.2.2.2.2 j hB hj
  have b1 := (u.2.2.1 0 j (s_B_0 c) hB (by omega) (by omega)).2
  have b2 := (u.2.2.1 0 (s_tgt c j).toNat (s_B_0 c) t3 (by omega) (by omega)).2
  rw [u.2.2.2.1] at b1 b2
  rw [show s_tgt c' (S j) = s_tg (c' (S j)) (S j) (c' (S j + 1)) (c' (S j + 2)) from rfl, u.kd hB hj]
  by_cases hf : far j = true
  · have e := u.2.1 j hj hB hf
    rw [if_pos hf, if_neg (by rw [e]; decide)] at hln
    have v1 := hNw 1 (by omega)
    have v2 := hNw 2 (by omega)
    rw [if_pos hJ] at v1 v2
    unfold s_ej at v1 v2
    rw [if_pos hf, if_neg (by rw [e]; decide), if_neg (by decide), if_pos rfl] at v1
    rw [if_pos hf, if_neg (by rw [e]; decide), if_neg (by decide), if_neg (by decide)] at v2
    have k1 : s_kd c far j = 168 := by unfold s_kd; rw [if_pos hJ, if_pos hf]
    unfold s_tg
    rw [k1, if_pos rfl, v1, v2]
    have hw := s_hi_s (z := (S (s_tgt c j).toNat : Int) - (S j : Nat)) (by omega) (by omega)
    rw [hw]
    omega
  · have hf' : far j = false := by simpa using hf
    rw [if_neg hf] at hln
    have v1 := hNw 1 (by omega)
    rw [if_pos hJ] at v1
    unfold s_ej at v1
    rw [if_neg hf, if_neg (by decide)] at v1
    have k1 : s_kd c far j ≠ 168 := by
      unfold s_kd
      rw [if_pos hJ, if_neg hf]
      split <;> omega
    have ft := u.2.2.2.2.2.1 j hB hj hJ hf'
    simp only [s_ft, Bool.and_eq_true, decide_eq_true_eq] at ft
    unfold s_tg
    rw [if_neg k1, v1]
    have hw := s_lo_s (z := (S (s_tgt c j).toNat : Int) - (S j : Nat)) (by omega) (by omega)
    rw [hw]
    omega
