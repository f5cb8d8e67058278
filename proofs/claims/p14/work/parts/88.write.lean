/-- where the source lies apart from what is written -/
def apt (s : hs_S) (M A T : Nat) : Prop := M ≠ A ∧ M ≠ A + 5 ∧ M ≠ T ∧ hs_R s M 0 - 1 ≠ A ∧ hs_R s M 0 - 1 ≠ A + 5
theorem apt.aw {s q : hs_S} {M A T t L lb lj : Nat} {bs : Nat → Nat} (h : apt s M A T) (x : aw s q A t L T lb lj bs) : apt q M A T := by
  unfold apt
  rw [x.1]
  exact h
theorem x_wj {s : hs_S} {M a n l N k A t T : Nat} {e P c S : Nat → Nat} {far far0 : Nat → Bool} {pd : Bool} (h : lyS s M a n e P c far pd) (hc : lyC n l N e P c) (hw : wyS s n c (s_pl P c n (fun i => eK (e i)) pd) S) (hy : lyP c (s_pl P c n (fun i => eK (e i)) pd) n far0 S) (hjk : ∀ k, k < n → s_jk c n k) (hk : k < n) (hB : s_B c k) (hJ : s_isJ (c k) = true) (o : awO s A t T) (ap : apt s M A T) (hr : t + s_ln c far k ≤ gm_n (A + 5)) :
    Tq (fX5_writeJump 95 M (nI k) A T s) (fun q => aw s q A t (s_ln c far k) T (if far k = true ∧ c k < 167 then 1 else 0) (if far k = true ∧ ¬ c k < 167 then 1 else 0) (fun i => s_ej c far S (S k + s_pl P c n (fun i => eK (e i)) pd k) k i)) := by
  have w := h.1
  have v := h.2.2.1
  have hL := h.2.1
  have hn := hc.1
  have hb := hc.b hk
  have hA := o.2.1
  have k1 := (sk hA).1
  have kT := o.2.2.2.2
  have r2 : hs_R s 95 2 - 1 = 98 := by rw [hL.2.2.1]
  have r2n : ¬ hs_R s 95 2 = 0 := by rw [hL.2.2.1]; decide
  have hln := s_ln_j (far := far) hJ
  obtain ⟨t1, t2, t3⟩ := hjk k hk hB hJ
  have bT := hy.2.2 _ t3 (by omega)
  have bk := hy.2.2 k hB (by omega)
  have bpl : s_pl P c n (fun i => eK (e i)) pd k ≤ 6 := by
    have := s_pl_01 P c n (fun i => eK (e i)) pd k
    have := s_pay_05 P c n (fun i => eK (e i)) pd k
    omega
  have hwk := hw k hk hB hJ
  unfold fX5_writeJump
  rw [if_pos (w.k v.1), x_val_in w v hk, hs_bd_s, (hc.2.2.1 k hk).1, if_pos (w.k gk_95.1), if_pos r2n, r2, yf_at w gk_95.2.2.2.2.2.1 (by rw [gk_95.2.2.2.2.2.2.1]; omega), hs_bd_s, hwk, if_pos (w.k gk_95.1), x_isLong h hn hk, hs_bd_s]
  generalize hp : S k + s_pl P c n (fun i => eK (e i)) pd k = p
  have bp : p ≤ 12006 := by omega
  -- the three bytes of a long jump
  have g102 : ∀ (s1 : hs_S) (t1 : Nat) (z : Int), -100000 < z → z < 100000 → awO s1 A t1 T → t1 + 3 ≤ gm_n (A + 5) → Tq (jX5_writeJump_102 A (zI z) s1) (fun q => aw s1 q A t1 3 T 0 0 (fun i => if i = 0 then 168 else if i = 1 then s_hi z else s_lo z)) := by
    intro s1 t1 z z1 z2 o1 hr1
    unfold jX5_writeJump_102
    obtain ⟨q1, E1, a1⟩ := x_app (x := 168) (y := 168) o1 (by omega) (by decide)
    have o2 := a1.o o1
    rw [if_pos (o1.1.k k1), E1]
    show Tq (if hs_kd q1 A = 0 then _ else none) _
    obtain ⟨q2, E2, a2⟩ := x_app2 (x := zI z) o2 (by omega) (nz_hi (by omega) (by omega)) (nz_lo z)
    rw [if_pos (o2.1.k k1), E2]
    refine Tq.some ((a1.tr a2).cg fun i hi => ?_)
    show (if i < 1 then 168 else if i - 1 = 0 then s_hi z else s_lo z) = if i = 0 then 168 else if i = 1 then s_hi z else s_lo z
    obtain e | e | e : i = 0 ∨ i = 1 ∨ i = 2 := by omega
    all_goals
      subst e
      rfl
  cases cf : far k
  · have nf : ¬ far k = true := by rw [cf]; decide
    have n1 : ¬ (false = true ∧ c k < 167) := fun q => absurd q.1 (by decide)
    have n2 : ¬ (false = true ∧ ¬ c k < 167) := fun q => absurd q.1 (by decide)
    rw [if_neg nf] at hln
    rw [if_pos (by decide), (x_kinds hb s).2.1, hs_bd_s, if_neg n1, if_neg n2, hln]
    have g42 : ∀ y : Nat, y < 256 → (y = if c k < 167 then c k else 167) → Tq (jX5_writeJump_42 A (zI ((S (s_tgt c k).toNat : Int) - p)) (nI y) A s) (fun q => aw s q A t 2 T 0 0 (fun i => s_ej c far S p k i)) := by
      intro y y1 y2
      unfold jX5_writeJump_42
      obtain ⟨q1, E1, a1⟩ := x_app o (by omega) (nI_255 y1)
      have o2 := a1.o o
      rw [if_pos (w.k k1), E1]
      show Tq (if hs_kd q1 A = 0 then _ else none) _
      obtain ⟨q2, E2, a2⟩ := x_app (x := zI ((S (s_tgt c k).toNat : Int) - p)) o2 (by omega) (nz_lo _)
      rw [if_pos (o2.1.k k1), E2]
      refine Tq.some ((a1.tr a2).cg fun i hi => ?_)
      show (if i < 1 then y else s_lo ((S (s_tgt c k).toNat : Int) - p)) = s_ej c far S p k i
      unfold s_ej
      rw [if_neg nf]
      obtain e | e : i = 0 ∨ i = 1 := by omega
      · subst e; rw [if_pos (by decide), if_pos rfl]; exact y2
      · subst e; rw [if_neg (by decide), if_neg (by decide)]
    rcases s_isJ_c hJ with ⟨h0, h1, h2⟩ | ⟨h0, h1⟩
    · have z : (decide (153 ≤ c k) && decide (c k ≤ 158)) = true := by simp [h1, h2]
      rw [z, if_neg (by decide)]
      exact g42 (c k) hb (by rw [if_pos h0])
    · have z : (decide (153 ≤ c k) && decide (c k ≤ 158)) = false := by
        simp only [Bool.and_eq_false_iff, decide_eq_false_iff_not]
        omega
      rw [z, if_pos (by decide)]
      exact g42 167 (by decide) (by rw [if_neg h0])
  · rw [if_pos cf] at hln
    rw [if_neg (by decide), (x_kinds hb s).2.1, hs_bd_s]
    rcases s_isJ_c hJ with ⟨h0, h1, h2⟩ | ⟨h0, h1⟩
    · have z : (decide (153 ≤ c k) && decide (c k ≤ 158)) = true := by simp [h1, h2]
      have n1 : (true = true ∧ c k < 167) := ⟨rfl, h0⟩
      have n2 : ¬ (true = true ∧ ¬ c k < 167) := fun q => q.2 h0
      rw [if_pos h0] at hln
      obtain ⟨p1, p2, p3, p4⟩ := s_op_t h1 h2
      rw [z, if_neg (by decide), x_opp h1 h2, hs_bd_s, if_pos (w.k k1), if_pos n1, if_neg n2, hln]
      obtain ⟨q1, E1, a1⟩ := x_app o (by omega) (nI_255 (show s_op (c k) < 256 by omega))
      have o1 := a1.o o
      rw [E1]
      show Tq (if hs_kd q1 A = 0 then _ else none) _
      obtain ⟨q2, E2, a2⟩ := x_app (x := 5) (y := 5) o1 (by omega) (by decide)
      have o2 := a2.o o1
      rw [if_pos (o1.1.k k1), E2]
      show Tq (if hs_kd q2 T = 6 then _ else none) _
      have a3 := aw.up o2 8 (Or.inl rfl)
      have o3 := a3.o o2
      have em2 : zI ((S (s_tgt c k).toNat : Int) - p) + (-2 : Int32) = zI ((S (s_tgt c k).toNat : Int) - p - 2) := by
        rw [show (-2 : Int32) = zI (-2) by decide, zI_add]
        congr 1
      rw [if_pos (o2.1.k kT), em2]
      obtain ⟨q4, E4, a4⟩ := g102 _ _ ((S (s_tgt c k).toNat : Int) - p - 2) (by omega) (by omega) o3 (by omega)
      rw [E4]
      refine Tq.some ((((a1.tr a2).tr a3).tr a4).cg fun i hi => ?_)
      unfold s_ej
      rw [if_pos cf, if_pos h0]
      obtain e | e | e | e | e : i = 0 ∨ i = 1 ∨ i = 2 ∨ i = 3 ∨ i = 4 := by omega
      all_goals
        subst e
        rfl
    · have z : (decide (153 ≤ c k) && decide (c k ≤ 158)) = false := by
        simp only [Bool.and_eq_false_iff, decide_eq_false_iff_not]
        omega
      have n1 : ¬ (true = true ∧ c k < 167) := fun q => h0 q.2
      have n2 : (true = true ∧ ¬ c k < 167) := ⟨rfl, h0⟩
      rw [if_neg h0] at hln
      rw [z, if_pos (by decide), if_pos (w.k kT), if_neg n1, if_pos n2, hln]
      have a3 := aw.up o 9 (Or.inr rfl)
      have o3 := a3.o o
      obtain ⟨q4, E4, a4⟩ := g102 _ _ ((S (s_tgt c k).toNat : Int) - p) (by omega) (by omega) o3 (by omega)
      rw [E4]
      refine ⟨q4, rfl, (a3.tr a4).cg fun i hi => ?_⟩
      unfold s_ej
      rw [if_pos cf, if_neg h0]
      obtain e | e | e : i = 0 ∨ i = 1 ∨ i = 2 := by omega
      all_goals
        subst e
        rfl
