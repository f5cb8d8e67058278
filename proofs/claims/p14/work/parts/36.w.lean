/-! THE INSTRUCTIONS OF WHAT IS WRITTEN -/
/-- the first byte of the instruction itself -/
def s_kw (c : Nat → Nat) (far : Nat → Bool) (j : Nat) : Nat := if s_isJ (c j) = true then (if far j = true then (if c j < 167 then s_op (c j) else 168) else if c j < 167 then c j else 167) else c j
/-- an instruction of kind kd begins at x, and x belongs to the instruction at j -/
def s_Pt (c pay pl : Nat → Nat) (far : Nat → Bool) (S : Nat → Nat) (j x kd : Nat) : Prop := (pay j = 5 ∧ x = S j ∧ kd = 202) ∨ (pl j = pay j + 1 ∧ x = S j + pay j ∧ kd = 203) ∨ (x = S j + pl j ∧ kd = s_kw c far j) ∨ (s_isJ (c j) = true ∧ far j = true ∧ c j < 167 ∧ x = S j + pl j + 2 ∧ kd = 168)
def s_St (c : Nat → Nat) (n : Nat) (pay pl : Nat → Nat) (far : Nat → Bool) (S : Nat → Nat) (x : Nat) : Prop := x = S n ∨ ∃ j kd, s_B c j ∧ j < n ∧ s_Pt c pay pl far S j x kd
theorem s_pay_05 (P c : Nat → Nat) (n : Nat) (b : Nat → Bool) (pd : Bool) (k : Nat) : s_pay P c n b pd k = 0 ∨ s_pay P c n b pd k = 5 := by
  unfold s_pay
  split
  · exact Or.inr rfl
  · exact Or.inl rfl
theorem s_pl_01 (P c : Nat → Nat) (n : Nat) (b : Nat → Bool) (pd : Bool) (k : Nat) : s_pl P c n b pd k = s_pay P c n b pd k ∨ s_pl P c n b pd k = s_pay P c n b pd k + 1 := by
  unfold s_pl
  split
  · exact Or.inr rfl
  · exact Or.inl rfl
theorem s_op_t {k : Nat} (h1 : 153 ≤ k) (h2 : k ≤ 158) : s_op k < 167 ∧ s_sz (s_op k) = 2 ∧ 153 ≤ s_op k ∧ s_op k ≤ 158 := by
  obtain e | e | e | e | e | e : k = 153 ∨ k = 154 ∨ k = 155 ∨ k = 156 ∨ k = 157 ∨ k = 158 := by omega
  all_goals
    rw [e]
    decide
theorem s_kw_sz (c : Nat → Nat) (far : Nat → Bool) (j : Nat) : s_sz (s_kw c far j) = if s_isJ (c j) = true ∧ far j = true ∧ c j < 167 then 2 else s_ln c far j := by
  unfold s_kw
  by_cases hj : s_isJ (c j) = true
  · rw [if_pos hj]
    have hl := s_ln_j (far := far) hj
    rw [hl]
    by_cases hf : far j = true
    · rw [if_pos hf, if_pos hf]
      rcases s_isJ_c hj with ⟨h0, h1, h2⟩ | ⟨h0, h1⟩
      · rw [if_pos h0, if_pos ⟨hj, hf, h0⟩]; exact (s_op_t h1 h2).2.1
      · rw [if_neg h0, if_neg (fun q => h0 q.2.2), if_neg h0]; decide
    · have nq : ¬ (s_isJ (c j) = true ∧ far j = true ∧ c j < 167) := fun q => hf q.2.1
      rw [if_neg nq, if_neg hf, if_neg hf]
      rcases s_isJ_c hj with ⟨h0, h1, h2⟩ | ⟨h0, h1⟩
      · rw [if_pos h0]; exact s_sz_t h1 h2
      · rw [if_neg h0]; decide
  · rw [if_neg hj, if_neg (fun q => hj q.1), s_ln_n hj]
theorem s_St_S {P c : Nat → Nat} {n : Nat} {b : Nat → Bool} {far : Nat → Bool} {S : Nat → Nat} {j : Nat} (hB : s_B c j) (hj : j ≤ n) : s_St c n (s_pay P c n b true) (s_pl P c n b true) far S (S j) := by
  by_cases e : j = n
  · rw [e]; exact Or.inl rfl
  · refine Or.inr ?_
    rcases s_pay_05 P c n b true j with p0 | p5
    · rcases s_pl_01 P c n b true j with q | q
      · exact ⟨j, _, hB, by omega, Or.inr (Or.inr (Or.inl ⟨by omega, rfl⟩))⟩
      · exact ⟨j, _, hB, by omega, Or.inr (Or.inl ⟨q, by omega, rfl⟩)⟩
    · exact ⟨j, _, hB, by omega, Or.inl ⟨p5, rfl, rfl⟩⟩
/-- the byte at such a place, and where the next one begins -/
theorem s_Pt.nx {P c R S : Nat → Nat} {n l N h j x kd : Nat} {b far : Nat → Bool} (hM : s_Mt n l N h c R) (hL : s_Lo c (s_pl P c n b true) n far S) (hB : s_B c j) (hj : j < n) (q : s_Pt c (s_pay P c n b true) (s_pl P c n b true) far S j x kd) :
    ∃ o, x = S j + o ∧ o < s_pl P c n b true j + s_ln c far j ∧ s_em P c n b true far S j o = kd ∧ 0 < s_sz kd ∧ x + s_sz kd ≤ S n ∧ s_St c n (s_pay P c n b true) (s_pl P c n b true) far S (x + s_sz kd) := by
  have hok := hM.2.2.2.2.1 j hB hj
  have hs := s_isK_sz hok.1
  have hsz := hok.2.1
  have h1 := hL.2.1 j hB hj
  have hln : 0 < s_ln c far j := by
    by_cases hJ : s_isJ (c j) = true
    · rw [s_ln_j hJ]
      split
      · split <;> decide
      · decide
    · rw [s_ln_n hJ]; exact hs
  have hSn := s_S_le (S := S) (w := fun j => s_pl P c n b true j + s_ln c far j) hM.2.2.2.2.1 (fun j j1 j2 => by rw [hL.2.1 j j1 j2, Nat.add_assoc]) n (j + s_sz (c j)) (by omega) hsz (s_B_next hB)
  have nextS : s_St c n (s_pay P c n b true) (s_pl P c n b true) far S (S j + s_pl P c n b true j + s_ln c far j) := by
    rw [← h1]; exact s_St_S (s_B_next hB) hsz
  have mainS : s_St c n (s_pay P c n b true) (s_pl P c n b true) far S (S j + s_pl P c n b true j) := Or.inr ⟨j, _, hB, hj, Or.inr (Or.inr (Or.inl ⟨rfl, rfl⟩))⟩
  rcases q with ⟨q1, q2, q3⟩ | ⟨q1, q2, q3⟩ | ⟨q2, q3⟩ | ⟨q0, q1, q4, q2, q3⟩
  · have z : s_sz kd = 5 := by rw [q3]; decide
    have hp := s_pl_01 P c n b true j
    refine ⟨0, by omega, by omega, ?_, by omega, by omega, ?_⟩
    · unfold s_em
      rw [if_pos (by omega), if_pos rfl, q3]
    · rw [z]
      rcases hp with hp | hp
      · rw [show x + 5 = S j + s_pl P c n b true j by omega]; exact mainS
      · exact Or.inr ⟨j, 203, hB, hj, Or.inr (Or.inl ⟨hp, by omega, rfl⟩)⟩
  · have z : s_sz kd = 1 := by rw [q3]; decide
    refine ⟨s_pay P c n b true j, by omega, by omega, ?_, by omega, by omega, ?_⟩
    · unfold s_em
      rw [if_neg (by omega), if_pos (by omega), q3]
    · rw [z, show x + 1 = S j + s_pl P c n b true j by omega]; exact mainS
  · have z := s_kw_sz c far j
    rw [← q3] at z
    have hp := s_pl_01 P c n b true j
    refine ⟨s_pl P c n b true j, q2, by omega, ?_, ?_, ?_, ?_⟩
    · unfold s_em
      rw [if_neg (by omega), if_neg (by omega), Nat.sub_self, Nat.add_zero, q3]
      unfold s_kw
      by_cases hJ : s_isJ (c j) = true
      · rw [if_pos hJ, if_pos hJ]
        unfold s_ej
        by_cases hf : far j = true
        · rw [if_pos hf, if_pos hf]
          by_cases hc : c j < 167
          · rw [if_pos hc, if_pos hc, if_pos rfl]
          · rw [if_neg hc, if_neg hc, if_pos rfl]
        · rw [if_neg hf, if_neg hf, if_pos rfl]
      · rw [if_neg hJ, if_neg hJ]
    · rw [z]
      split
      · decide
      · exact hln
    · rw [z]
      split
      · rename_i w
        have := s_ln_j (far := far) w.1
        rw [if_pos w.2.1, if_pos w.2.2] at this
        omega
      · omega
    · rw [z, q2]
      split
      · rename_i w
        exact Or.inr ⟨j, 168, hB, hj, Or.inr (Or.inr (Or.inr ⟨w.1, w.2.1, w.2.2, rfl, rfl⟩))⟩
      · exact nextS
  · have z : s_sz kd = 3 := by rw [q3]; decide
    have hl := s_ln_j (far := far) q0
    rw [if_pos q1, if_pos q4] at hl
    have hp := s_pl_01 P c n b true j
    refine ⟨s_pl P c n b true j + 2, by omega, by omega, ?_, by omega, by omega, ?_⟩
    · unfold s_em
      rw [if_neg (by omega), if_neg (by omega), if_pos q0, show s_pl P c n b true j + 2 - s_pl P c n b true j = 2 by omega, q3]
      unfold s_ej
      rw [if_pos q1, if_pos q4, if_neg (by decide), if_neg (by decide), if_pos rfl]
    · rw [z, show x + 3 = S j + s_pl P c n b true j + s_ln c far j by omega]
      exact nextS
