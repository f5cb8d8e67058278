/-! STEP -/
theorem s_em_202 {P c S : Nat → Nat} {n j : Nat} {b far : Nat → Bool} (h : s_pay P c n b true j = 5) : s_em P c n b true far S j 0 = 202 := by
  unfold s_em
  rw [if_pos (by omega), if_pos rfl]
theorem s_em_203 {P c S : Nat → Nat} {n j : Nat} {b far : Nat → Bool} (h : s_pl P c n b true j = s_pay P c n b true j + 1) : s_em P c n b true far S j (s_pay P c n b true j) = 203 := by
  unfold s_em
  rw [if_neg (by omega), if_pos (by omega)]
theorem s_pl_188 {P c : Nat → Nat} {n j : Nat} {b : Nat → Bool} (h : s_pl P c n b true j = s_pay P c n b true j + 1) : c j = 188 := by
  unfold s_pl at h
  by_cases e : c j = 188
  · exact e
  · rw [if_neg (fun q => e q.2)] at h; omega
theorem s_K.s93 {g0 g : hm} {Q : Nat → Nat → Nat → Prop} {F st m x d : Nat} (k : s_K g0 Q g F st m x d) : ∃ g', njX12_step_93 g = some g' ∧ s_K g0 Q g' F st m (x + 1) d := by
  have hF := k.d20.1
  have e1 : nI (F + 1) - (1 : Int32) = nI F := nI_pred F
  unfold njX12_step_93
  rw [k.1.2.2.1, e1, if_pos (hin hF (by decide)), cl (show F < 2147483648 by omega), k.2.2.1, nI_1]
  exact ⟨_, rfl, k.at _⟩
/-- a plain instruction, or one of arrays -/
theorem s_Rp.ou {g0 q : hm} {N m j t d0 F st : Nat} {p l n h P S : Nat → Nat} {c R : Nat → Nat → Nat} {b far : Nat → Bool} (hW : s_WB g0 N p l n h c R P) (x : s_Cx g0 N p n h c R P m b far S j t d0) (hJ : ¬ s_isJ (c m j) = true) (h1 : c m j ≠ 184) (h2 : c m j ≠ 172) (r : s_Rp g0 N (s_Sd g0 N p n h c R P) F (st + 1) m (S j + s_pl P (c m) (n m) b true j + s_sz (c m j)) (d0 - s_tk (c m j) + s_gv (c m j)) q) (c1 : c m j ≠ 191) (rk : Nat) : s_Ou g0 N p n h c R P q st rk := by
  rcases r with k | k
  · have hf : s_fl (c m j) = true := by
      have n1 : c m j ≠ 167 := fun e => hJ (by rw [e]; decide)
      have n2 : c m j ≠ 168 := fun e => hJ (by rw [e]; decide)
      simp [s_fl, h2, c1, n1, n2]
    have hg := (x.next hW hf).to
    have hS := (x.S4 hW).2.1
    rw [s_ln_n hJ] at hS
    have hd : s_d2 (c m) p j d0 = d0 - s_tk (c m j) + s_gv (c m j) := by
      unfold s_d2 s_tq
      rw [if_neg h1]
    rw [hS, hd] at hg
    exact k.ou hg rk
  · exact k.ou rk
theorem s_K.a191 {g0 g : hm} {N : Nat} {Q : Nat → Nat → Nat → Prop} {F st m x d : Nat} (k : s_K g0 Q g F st m x d) (hm8 : m < N) : Tq (nX12_ofArrays (191 : Int32) g) (fun q => s_Th g0 N Q q F st) := by
  have hF := k.d20.1
  have e1 : nI (F + 1) - (1 : Int32) = nI F := nI_pred F
  have hs : nX12_size (191 : Int32) g = some (nI (s_sz 191), g) := q_size (k := 191) (by decide) g
  unfold nX12_ofArrays njX12_ofArrays_16
  rw [if_pos rfl, k.1.2.2.1, e1, if_pos (hin hF (by decide)), cl (show F < 2147483648 by omega), k.2.2.1, hs, hm_bd_s, if_pos rfl]
  unfold njX12_ofArrays_241
  have th : s_Th g0 N Q (hm_w g 285 47 (4 : Int32)) F st := k.thr hm8 (e := 4) (by decide) (by decide)
  rw [hm_w_eq, if_neg (by decide)]
  exact ⟨_, rfl, th⟩
