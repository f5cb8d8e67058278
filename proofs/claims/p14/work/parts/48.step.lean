def ns_rest (r2 : Int32) (g : hm) : Option hm :=
  if r2 = (172 : Int32) then (hm_bv (nX12_ends g) fun g13 => some g13) else (
    if r2 = (184 : Int32) then (hm_bv (nX12_calls g) fun g11 => some g11) else (
      hm_bd (nX12_isJump r2 g) fun r4 g3 =>
      if r4 = 0 then (
        if r2 = (188 : Int32) then (njX12_step_211 r2 g3) else (
          if r2 = (190 : Int32) then (njX12_step_211 r2 g3) else (
            if r2 = (46 : Int32) then (njX12_step_211 r2 g3) else (
              if r2 = (79 : Int32) then (njX12_step_211 r2 g3) else (
                if r2 = (191 : Int32) then (njX12_step_211 r2 g3) else (
                  hm_bv (nX12_plain r2 g3) fun g7 => some g7)))))
      ) else (hm_bv (nX12_jumps r2 g3) fun g9 => some g9)))
theorem s_K.st0 {g0 g : hm} {Q : Nat → Nat → Nat → Prop} {F st m x d kd : Nat} (k : s_K g0 Q g F st m x d) (hm8 : m < 8) (hx : x < 4001) (hb : g0 304 (4001 * m + x) = nI kd) (hk : kd < 256) (h202 : kd ≠ 202) (h203 : kd ≠ 203) {Post : hm → Prop} (hs : ∀ q, s_Sp g0 Q q → Post q) (go : ∀ g1, s_K g0 Q g1 F (st + 1) m x d → Tq (ns_rest (nI kd) g1) Post) : Tq (nX12_step g) Post := by
  have hc : nX12_codeAt (0 : Int32) g = some (g0 304 (4001 * m + (x + 0)), g) := k.code hm8 (i := 0) (by omega)
  have u1 : ¬ nI kd = (202 : Int32) := fun q => h202 ((eqi (b := 202) (by omega) (by decide)).mp q)
  have u2 : ¬ nI kd = (203 : Int32) := fun q => h203 ((eqi (b := 203) (by omega) (by decide)).mp q)
  have hst := k.d20.2
  unfold nX12_step
  rw [hc, hm_bd_s, Nat.add_zero, hb, if_neg u1, if_neg u2, k.1.2.2.2.2.1]
  by_cases c1 : st = 20000
  · have u : nI st = (20000 : Int32) := by rw [c1]; rfl
    rw [if_pos u]
    exact ⟨_, rfl, hs _ k.stop⟩
  · have u : ¬ nI st = (20000 : Int32) := fun q => c1 ((eqi (b := 20000) (by omega) (by decide)).mp q)
    rw [if_neg u, nI_1]
    exact go _ (k.cnt (by omega))
set_option maxRecDepth 100000 in
theorem qk_kinds : (List.range 256).all (fun k => !(s_isK k) || s_isJ k || decide (k = 172) || decide (k = 184) || decide (k = 188 ∨ k = 190 ∨ k = 46 ∨ k = 79 ∨ k = 191) || decide (k = 0 ∨ k = 16 ∨ k = 17 ∨ k = 21 ∨ k = 54 ∨ k = 87 ∨ k = 89 ∨ k = 116 ∨ (s_tk k = 2 ∧ s_gv k = 1 ∧ k < 256 ∧ k ≠ 0 ∧ k ≠ 16 ∧ k ≠ 17 ∧ k ≠ 21 ∧ k ≠ 54 ∧ k ≠ 87 ∧ k ≠ 89 ∧ k ≠ 116) ∧ ¬ (k = 188 ∨ k = 190 ∨ k = 46 ∨ k = 79 ∨ k = 191))) = true := by decide +kernel
theorem s_kinds {k : Nat} (h : k < 256) (hk : s_isK k = true) (hJ : ¬ s_isJ k = true) : k = 172 ∨ k = 184 ∨ (k = 188 ∨ k = 190 ∨ k = 46 ∨ k = 79 ∨ k = 191) ∨ ((k = 0 ∨ k = 16 ∨ k = 17 ∨ k = 21 ∨ k = 54 ∨ k = 87 ∨ k = 89 ∨ k = 116 ∨ (s_tk k = 2 ∧ s_gv k = 1 ∧ k < 256 ∧ k ≠ 0 ∧ k ≠ 16 ∧ k ≠ 17 ∧ k ≠ 21 ∧ k ≠ 54 ∧ k ≠ 87 ∧ k ≠ 89 ∧ k ≠ 116)) ∧ ¬ (k = 188 ∨ k = 190 ∨ k = 46 ∨ k = 79 ∨ k = 191)) := by
  have := List.all_eq_true.mp qk_kinds k (List.mem_range.mpr h)
  simp only [Bool.or_eq_true, Bool.not_eq_true', decide_eq_true_eq] at this
  have hJ2 : s_isJ k = false := by simpa using hJ
  rcases this with ((((h | h) | h) | h) | h) | h
  · rw [hk] at h; exact absurd h (by decide)
  · rw [hJ2] at h; exact absurd h (by decide)
  · exact Or.inl h
  · exact Or.inr (Or.inl h)
  · exact Or.inr (Or.inr (Or.inl h))
  · exact Or.inr (Or.inr (Or.inr (by omega)))
/-- an instruction that is no jump -/
theorem s_K.rest {g0 g : hm} {N m j t d0 F st : Nat} {p l n h P S : Nat → Nat} {c R : Nat → Nat → Nat} {b far : Nat → Bool} (hW : s_WB g0 N p l n h c R P) (x : s_Cx g0 N p n h c R P m b far S j t d0) (hJ : ¬ s_isJ (c m j) = true) (k : s_K g0 (s_Sd g0 N p n h c R P) g F (st + 1) m (S j + s_pl P (c m) (n m) b true j) d0) (rk : Nat) : Tq (ns_rest (nI (c m j)) g) (fun q => s_Ou g0 N p n h c R P q st rk) := by
  obtain ⟨o1, o2, o3, o4, o5⟩ := x.dk hW
  have hsz0 := s_isK_sz o3.1
  have y0 := x.main hW hJ (i := 0) (by omega)
  have hk : c m j < 256 := y0.2.2
  have hm8 := x.1
  have nl : ∀ i, i < 256 → c m j ≠ i → ¬ nI (c m j) = nI i := fun i hi h q => h ((eqi (by omega) (by omega)).mp q)
  have ij : nX12_isJump (nI (c m j)) g = some (0, g) := by
    rw [q_isJump hk, show s_isJ (c m j) = false by simpa using hJ]; rfl
  have hS := (x.S4 hW).2.2
  rw [s_ln_n hJ] at hS
  unfold ns_rest
  rcases s_kinds hk o3.1 hJ with e | e | e | ⟨e, ne⟩
  · have u : nI (c m j) = (172 : Int32) := by rw [e]; rfl
    rw [if_pos u]
    have ht : 1 ≤ d0 := by
      have := o1.1
      unfold s_tq at this
      rw [if_neg (by omega), e] at this
      exact this
    obtain ⟨d', rfl⟩ : ∃ d', d0 = d' + 1 := ⟨d0 - 1, by omega⟩
    exact Tq.bv ((k.ends hW (by omega) rk).mono fun q hq => Tq.some hq)
  · have u1 : ¬ nI (c m j) = (172 : Int32) := nl 172 (by decide) (by omega)
    have u : nI (c m j) = (184 : Int32) := by rw [e]; rfl
    rw [if_neg u1, if_pos u]
    exact Tq.bv ((k.calls hW x e rk).mono fun q hq => Tq.some hq)
  · have u1 : ¬ nI (c m j) = (172 : Int32) := nl 172 (by decide) (by omega)
    have u2 : ¬ nI (c m j) = (184 : Int32) := nl 184 (by decide) (by omega)
    rw [if_neg u1, if_neg u2, ij, hm_bd_s, if_pos rfl]
    have ht : s_tk (c m j) ≤ d0 := by
      have := o1.1
      unfold s_tq at this
      rw [if_neg (by omega)] at this
      exact this
    have ha : c m j ≠ 191 → c m (j + 1) < 4 ∧ g0 304 (4001 * m + (S j + s_pl P (c m) (n m) b true j + 1)) = nI (c m (j + 1)) ∧ S j + s_pl P (c m) (n m) b true j + 1 < 4001 := by
      intro hne
      have hs2 : 1 < s_sz (c m j) := by
        rcases e with e | e | e | e | e
        all_goals
          first
          | (rw [e]; decide)
          | exact absurd e hne
      have y1 := x.main hW hJ (i := 1) hs2
      exact ⟨o3.2.2.2.2 (by omega), y1.1, by omega⟩
    have go : Tq (njX12_step_211 (nI (c m j)) g) (fun q => s_Ou g0 N p n h c R P q st rk) := by
      unfold njX12_step_211
      refine Tq.bv ?_
      by_cases c1 : c m j = 191
      · have u : nI (c m j) = (191 : Int32) := by rw [c1]; rfl
        rw [u]
        exact (k.a191 hm8).mono fun q hq => Tq.some (hq.ou rk)
      · refine (k.arr (kd := c m j) hm8 o5 o2 e ha ht).mono fun q hq => Tq.some (hq.ou hW x hJ (by omega) (by omega) c1 rk)
    rcases e with e | e | e | e | e
    · have v : nI (c m j) = (188 : Int32) := by rw [e]; rfl
      rw [if_pos v]; exact go
    · have v1 : ¬ nI (c m j) = (188 : Int32) := nl 188 (by decide) (by omega)
      have v : nI (c m j) = (190 : Int32) := by rw [e]; rfl
      rw [if_neg v1, if_pos v]; exact go
    · have v1 : ¬ nI (c m j) = (188 : Int32) := nl 188 (by decide) (by omega)
      have v2 : ¬ nI (c m j) = (190 : Int32) := nl 190 (by decide) (by omega)
      have v : nI (c m j) = (46 : Int32) := by rw [e]; rfl
      rw [if_neg v1, if_neg v2, if_pos v]; exact go
    · have v1 : ¬ nI (c m j) = (188 : Int32) := nl 188 (by decide) (by omega)
      have v2 : ¬ nI (c m j) = (190 : Int32) := nl 190 (by decide) (by omega)
      have v3 : ¬ nI (c m j) = (46 : Int32) := nl 46 (by decide) (by omega)
      have v : nI (c m j) = (79 : Int32) := by rw [e]; rfl
      rw [if_neg v1, if_neg v2, if_neg v3, if_pos v]; exact go
    · have v1 : ¬ nI (c m j) = (188 : Int32) := nl 188 (by decide) (by omega)
      have v2 : ¬ nI (c m j) = (190 : Int32) := nl 190 (by decide) (by omega)
      have v3 : ¬ nI (c m j) = (46 : Int32) := nl 46 (by decide) (by omega)
      have v4 : ¬ nI (c m j) = (79 : Int32) := nl 79 (by decide) (by omega)
      have v : nI (c m j) = (191 : Int32) := by rw [e]; rfl
      rw [if_neg v1, if_neg v2, if_neg v3, if_neg v4, if_pos v]; exact go
  · have n172 : c m j ≠ 172 := by
      intro e2
      rw [e2] at e
      revert e
      decide
    have n184 : c m j ≠ 184 := by
      intro e2
      rw [e2] at e
      revert e
      decide
    have u1 : ¬ nI (c m j) = (172 : Int32) := nl 172 (by decide) n172
    have u2 : ¬ nI (c m j) = (184 : Int32) := nl 184 (by decide) n184
    have v1 : ¬ nI (c m j) = (188 : Int32) := nl 188 (by decide) (by omega)
    have v2 : ¬ nI (c m j) = (190 : Int32) := nl 190 (by decide) (by omega)
    have v3 : ¬ nI (c m j) = (46 : Int32) := nl 46 (by decide) (by omega)
    have v4 : ¬ nI (c m j) = (79 : Int32) := nl 79 (by decide) (by omega)
    have v5 : ¬ nI (c m j) = (191 : Int32) := nl 191 (by decide) (by omega)
    rw [if_neg u1, if_neg u2, ij, hm_bd_s, if_pos rfl, if_neg v1, if_neg v2, if_neg v3, if_neg v4, if_neg v5]
    have ht : s_tk (c m j) ≤ d0 := by
      have := o1.1
      unfold s_tq at this
      rw [if_neg n184] at this
      exact this
    have n191 : c m j ≠ 191 := by omega
    have hx4 : S j + s_pl P (c m) (n m) b true j + s_sz (c m j) < 4001 := by omega
    have h17 : c m j = 17 → ∃ e, e < 256 ∧ g0 304 (4001 * m + (S j + s_pl P (c m) (n m) b true j + 2)) = nI e := by
      intro e2
      have y2 := x.main hW hJ (i := 2) (by rw [e2]; decide)
      exact ⟨_, y2.2.2, y2.1⟩
    have h21 : c m j = 21 ∨ c m j = 54 → c m (j + 1) < 20 := fun q => Nat.lt_of_lt_of_le (o3.2.2.1 q) o4
    by_cases c1 : 1 < s_sz (c m j)
    · have y1 := x.main hW hJ (i := 1) c1
      exact Tq.bv ((k.plain (a := c m (j + 1)) hm8 o5 o2 e ht hx4 y1.2.2 (fun _ => y1.1) h17 h21).mono fun q hq => Tq.some (hq.ou hW x hJ n184 n172 n191 rk))
    · have hne : ¬ (c m j = 21 ∨ c m j = 54) := by
        intro q
        apply c1
        rcases q with q | q <;> rw [q] <;> decide
      exact Tq.bv ((k.plain (a := 0) hm8 o5 o2 e ht hx4 (by decide) (fun q => absurd q c1) h17 (fun q => absurd q hne)).mono fun q hq => Tq.some (hq.ou hW x hJ n184 n172 n191 rk))
/-! the jumps -/
theorem s_d2_j {c par : Nat → Nat} {j d : Nat} (hJ : s_isJ (c j) = true) : s_d2 c par j d = if c j < 167 then d - 1 else d := by
  have h184 : c j ≠ 184 := fun e => by rw [e] at hJ; exact absurd hJ (by decide)
  unfold s_d2 s_tq
  rw [if_neg h184]
  rcases s_isJ_c hJ with ⟨h0, h1, h2⟩ | ⟨h0, h1⟩
  · rw [if_pos h0]
    obtain e | e | e | e | e | e : c j = 153 ∨ c j = 154 ∨ c j = 155 ∨ c j = 156 ∨ c j = 157 ∨ c j = 158 := by omega
    all_goals
      rw [e]
      rfl
  · rw [if_neg h0]
    rcases h1 with e | e
    all_goals
      rw [e]
      rfl
theorem ns_rest_j {kd : Nat} (hk : kd < 256) (hJ : s_isJ kd = true) (g : hm) : ns_rest (nI kd) g = hm_bv (nX12_jumps (nI kd) g) fun g9 => some g9 := by
  have nl : ∀ i, i < 256 → s_isJ i = false → ¬ nI kd = nI i := fun i hi h q => by
    have := (eqi (by omega) (by omega)).mp q
    rw [this, h] at hJ
    exact absurd hJ (by decide)
  have u1 : ¬ nI kd = (172 : Int32) := nl 172 (by decide) (by decide)
  have u2 : ¬ nI kd = (184 : Int32) := nl 184 (by decide) (by decide)
  have u3 : ¬ s_bI true = 0 := by decide
  unfold ns_rest
  rw [if_neg u1, if_neg u2, q_isJump hk, hJ, hm_bd_s, if_neg u3]
theorem s_isJ_256 {k : Nat} (h : s_isJ k = true) : k < 256 ∧ k ≠ 202 ∧ k ≠ 203 := by
  rcases s_isJ_c h with ⟨h0, h1, h2⟩ | ⟨h0, h1⟩ <;> omega
/-- a jump, in what is written: it goes on at S of where it leads, or behind itself -/
theorem s_K.jmp {g0 g : hm} {N m j t d0 F st : Nat} {p l n h P S : Nat → Nat} {c R : Nat → Nat → Nat} {b far : Nat → Bool} (hW : s_WB g0 N p l n h c R P) (x : s_Cx g0 N p n h c R P m b far S j t d0) (hJ : s_isJ (c m j) = true) (k : s_K g0 (s_Sd g0 N p n h c R P) g F st m (S j + s_pl P (c m) (n m) b true j) d0) : Tq (nX12_step g) (fun q => s_Ou g0 N p n h c R P q st 0) := by
  obtain ⟨o1, o2, o3, o4, o5⟩ := x.dk hW
  have hm8 := x.1
  have hln := s_ln_j (far := far) hJ
  have hS4 := x.S4 hW
  have xt := x.jump hW hJ
  have hSt := (xt.S4 hW).1
  have hd2 := s_d2_j (par := p) (d := d0) hJ
  have ht : c m j < 167 → 1 ≤ d0 := by
    intro c1
    have h3 := s_isJ_c hJ
    have h184 : c m j ≠ 184 := by omega
    have h1 := o1.1
    unfold s_tq at h1
    rw [if_neg h184] at h1
    obtain e | e | e | e | e | e : c m j = 153 ∨ c m j = 154 ∨ c m j = 155 ∨ c m j = 156 ∨ c m j = 157 ∨ c m j = 158 := by omega
    all_goals
      rw [e] at h1
      exact h1
  have fin1 : ∀ q, s_K g0 (s_Sd g0 N p n h c R P) q F (st + 1) m (S (s_tgt (c m) j).toNat) (s_d2 (c m) p j d0) → s_Ou g0 N p n h c R P q st 0 := fun q kq => kq.ou xt.to 0
  have fin2 : c m j < 167 → ∀ q, s_K g0 (s_Sd g0 N p n h c R P) q F (st + 1) m (S (j + s_sz (c m j))) (s_d2 (c m) p j d0) → s_Ou g0 N p n h c R P q st 0 := by
    intro c1 q kq
    refine kq.ou (x.next hW ?_).to 0
    have h3 := s_isJ_c hJ
    have n1 : c m j ≠ 167 := by omega
    have n2 : c m j ≠ 168 := by omega
    have n3 : c m j ≠ 172 := by omega
    have n4 : c m j ≠ 191 := by omega
    simp [s_fl, n1, n2, n3, n4]
  by_cases hf : far j = true
  · rw [if_pos hf] at hln
    by_cases c1 : c m j < 167
    · rw [if_pos c1] at hln hd2
      have h3 := s_isJ_c hJ
      obtain ⟨t1, t2, t3, t4⟩ := s_op_t (k := c m j) (by omega) (by omega)
      have hJ2 : s_isJ (s_op (c m j)) = true := by
        simp only [s_isJ, Bool.or_eq_true, Bool.and_eq_true, decide_eq_true_eq]
        exact Or.inl (Or.inl ⟨t3, t4⟩)
      have y0 := x.mainJ hW hJ (i := 0) (by omega)
      have y1 := x.mainJ hW hJ (i := 1) (by omega)
      have y4 := x.mainJ hW hJ (i := 4) (by omega)
      unfold s_ej at y0 y1
      rw [if_pos hf, if_pos c1, if_pos rfl, Nat.add_zero] at y0
      rw [if_pos hf, if_pos c1, if_neg (by decide), if_pos rfl] at y1
      refine k.st0 (by omega) (by omega) y0.1 (by omega) (by omega) (by omega) (fun q hq => hq.ou st 0) fun g1 k1 => ?_
      rw [ns_rest_j (by omega) hJ2]
      have htg : s_tg (s_op (c m j)) (S j + s_pl P (c m) (n m) b true j) 5 0 = ((S j + s_pl P (c m) (n m) b true j + 5 : Nat) : Int) := by
        unfold s_tg
        rw [if_neg (by omega)]
        have : s_s8 5 = 5 := by decide
        omega
      refine Tq.bv ((k1.jumps (by omega) o2 (by omega) (by omega) (a := 5) (b := 0) (by decide) (by decide) y1.1 (fun q => absurd q (by omega)) htg (fun _ => ht c1)).mono fun q hq => Tq.some ?_)
      rw [if_pos t1, t2] at hq
      rcases hq with ⟨-, hq⟩ | hq
      · have hx : s_Gd g0 N p n h c R P 0 m (S j + s_pl P (c m) (n m) b true j + 2) (d0 - 1) := x.gd (Or.inr (Or.inr (Or.inr ⟨hJ, hf, c1, rfl, hd2.symm, rfl⟩)))
        exact hq.ou ⟨0, by omega, hx⟩ 0
      · rw [← hd2] at hq
        refine fin2 c1 q ?_
        rw [hS4.2.1, hln]
        exact hq
    · rw [if_neg c1] at hln hd2
      have y0 := x.mainJ hW hJ (i := 0) (by omega)
      have y1 := x.mainJ hW hJ (i := 1) (by omega)
      have y2 := x.mainJ hW hJ (i := 2) (by omega)
      unfold s_ej at y0 y1 y2
      rw [if_pos hf, if_neg c1, if_pos rfl, Nat.add_zero] at y0
      rw [if_pos hf, if_neg c1, if_neg (by decide), if_pos rfl] at y1
      rw [if_pos hf, if_neg c1, if_neg (by decide), if_neg (by decide)] at y2
      refine k.st0 (by omega) (by omega) y0.1 (by decide) (by decide) (by decide) (fun q hq => hq.ou st 0) fun g1 k1 => ?_
      rw [ns_rest_j (by decide) (by decide)]
      have htg : s_tg 168 (S j + s_pl P (c m) (n m) b true j) (s_hi ((S (s_tgt (c m) j).toNat : Int) - (S j + s_pl P (c m) (n m) b true j : Nat))) (s_lo ((S (s_tgt (c m) j).toNat : Int) - (S j + s_pl P (c m) (n m) b true j : Nat))) = ((S (s_tgt (c m) j).toNat : Nat) : Int) := by
        unfold s_tg
        rw [if_pos rfl, s_hi_s (by omega) (by omega)]
        omega
      refine Tq.bv ((k1.jumps (by omega) o2 (by decide) (by omega) (s_hi_b _) (s_lo_b _) y1.1 (fun _ => y2.1) htg (fun q => absurd q (by decide))).mono fun q hq => Tq.some ?_)
      rw [if_neg (by decide)] at hq
      rcases hq with ⟨hq, -⟩ | hq
      · exact absurd hq (by decide)
      · rw [← hd2] at hq
        exact fin1 q hq
  · rw [if_neg hf] at hln
    have hL := x.2.1.1
    have hft : s_ft (S (s_tgt (c m) j).toNat) (S j + s_pl P (c m) (n m) b true j) = true := by
      by_cases e : s_ft (S (s_tgt (c m) j).toNat) (S j + s_pl P (c m) (n m) b true j) = true
      · exact e
      · exact absurd (hL.2.2.1 j x.2.2.2.1 ⟨x.2.2.1, hJ, by simpa using e⟩) hf
    simp only [s_ft, Bool.and_eq_true, decide_eq_true_eq] at hft
    have y0 := x.mainJ hW hJ (i := 0) (by omega)
    have y1 := x.mainJ hW hJ (i := 1) (by omega)
    unfold s_ej at y0 y1
    rw [if_neg hf, if_pos rfl, Nat.add_zero] at y0
    rw [if_neg hf, if_neg (by decide)] at y1
    by_cases c1 : c m j < 167
    · rw [if_pos c1] at y0 hd2
      obtain ⟨w1, w2, w3⟩ := s_isJ_256 hJ
      have h3 := s_isJ_c hJ
      refine k.st0 (by omega) (by omega) y0.1 w1 w2 w3 (fun q hq => hq.ou st 0) fun g1 k1 => ?_
      rw [ns_rest_j w1 hJ]
      have htg : s_tg (c m j) (S j + s_pl P (c m) (n m) b true j) (s_lo ((S (s_tgt (c m) j).toNat : Int) - (S j + s_pl P (c m) (n m) b true j : Nat))) 0 = ((S (s_tgt (c m) j).toNat : Nat) : Int) := by
        unfold s_tg
        rw [if_neg (by omega), s_lo_s (by omega) (by omega)]
        omega
      have hl4 := hS4.2.2
      rw [hln] at hl4
      refine Tq.bv ((k1.jumps (by omega) o2 w1 (by omega) (b := 0) (s_lo_b _) (by decide) y1.1 (fun q => absurd q (by omega)) htg (fun _ => ht c1)).mono fun q hq => Tq.some ?_)
      rw [if_pos c1, ← hd2] at hq
      rcases hq with ⟨-, hq⟩ | hq
      · refine fin2 c1 q ?_
        rw [hS4.2.1, hln]
        rw [s_sz_t (k := c m j) (by omega) (by omega)] at hq
        exact hq
      · exact fin1 q hq
    · rw [if_neg c1] at y0 hd2
      refine k.st0 (by omega) (by omega) y0.1 (by decide) (by decide) (by decide) (fun q hq => hq.ou st 0) fun g1 k1 => ?_
      rw [ns_rest_j (by decide) (by decide)]
      have htg : s_tg 167 (S j + s_pl P (c m) (n m) b true j) (s_lo ((S (s_tgt (c m) j).toNat : Int) - (S j + s_pl P (c m) (n m) b true j : Nat))) 0 = ((S (s_tgt (c m) j).toNat : Nat) : Int) := by
        unfold s_tg
        rw [if_neg (by decide), s_lo_s (by omega) (by omega)]
        omega
      have hl4 := hS4.2.2
      rw [hln] at hl4
      refine Tq.bv ((k1.jumps (by omega) o2 (by decide) (by omega) (b := 0) (s_lo_b _) (by decide) y1.1 (fun q => absurd q (by decide)) htg (fun q => absurd q (by decide))).mono fun q hq => Tq.some ?_)
      rw [if_neg (by decide), ← hd2] at hq
      rcases hq with ⟨hq, -⟩ | hq
      · exact absurd hq (by decide)
      · exact fin1 q hq
