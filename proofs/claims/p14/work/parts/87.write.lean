/-! LAYOUT: WHAT IS WRITTEN -/
/-- L bytes bs are put behind the t bytes of the set at A; of the method T its counts of long jumps go up by lb and lj -/
def aw (s q : hs_S) (A t L T lb lj : Nat) (bs : Nat → Nat) : Prop := hs_R q = hs_R s ∧ WT q ∧ hs_I q A 3 = nI (t + L) ∧ (∀ i, i ≠ 3 → hs_I q A i = hs_I s A i) ∧ (∀ i, i < L → hs_I q (A + 5) (t + i) = nI (bs i)) ∧ (∀ i, (i < t ∨ t + L ≤ i) → hs_I q (A + 5) i = hs_I s (A + 5) i) ∧ (∀ b, b ≠ A → b ≠ A + 5 → b ≠ T → hs_I q b = hs_I s b) ∧ (∀ i, i ≠ 8 → i ≠ 9 → hs_I q T i = hs_I s T i) ∧ hs_I q T 8 = hs_I s T 8 + nI lb ∧ hs_I q T 9 = hs_I s T 9 + nI lj
theorem aw.tr {s q r : hs_S} {A t L L' T lb lj lb' lj' : Nat} {bs bs' : Nat → Nat} (h : aw s q A t L T lb lj bs) (h' : aw q r A (t + L) L' T lb' lj' bs') : aw s r A t (L + L') T (lb + lb') (lj + lj') (fun i => if i < L then bs i else bs' (i - L)) := by
  obtain ⟨a1, a2, a3, a4, a5, a6, a7, a8, a9, a10⟩ := h
  obtain ⟨b1, b2, b3, b4, b5, b6, b7, b8, b9, b10⟩ := h'
  refine ⟨b1.trans a1, b2, by rw [b3, Nat.add_assoc], fun i hi => (b4 i hi).trans (a4 i hi), fun i hi => ?_, fun i hi => (b6 i (by omega)).trans (a6 i (by omega)), fun b x1 x2 x3 => (b7 b x1 x2 x3).trans (a7 b x1 x2 x3), fun i i1 i2 => (b8 i i1 i2).trans (a8 i i1 i2), ?_, ?_⟩
  · show hs_I r (A + 5) (t + i) = nI (if i < L then bs i else bs' (i - L))
    by_cases c : i < L
    · rw [if_pos c, b6 _ (Or.inl (by omega))]; exact a5 i c
    · rw [if_neg c, ← b5 (i - L) (by omega)]
      congr 1
      omega
  · rw [b9, a9, Int32.add_assoc, nI_add]
  · rw [b10, a10, Int32.add_assoc, nI_add]
theorem aw.cg {s q : hs_S} {A t L T lb lj : Nat} {bs bs' : Nat → Nat} (h : aw s q A t L T lb lj bs) (hb : ∀ i, i < L → bs i = bs' i) : aw s q A t L T lb lj bs' := by
  obtain ⟨a1, a2, a3, a4, a5, a6⟩ := h
  exact ⟨a1, a2, a3, a4, fun i hi => by rw [← hb i hi]; exact a5 i hi, a6⟩
/-- a set that is written to: the method T is one of its own, or not -/
def awO (s : hs_S) (A t T : Nat) : Prop := WT s ∧ isS A ∧ SF (hs_R s) A ∧ hs_I s A 3 = nI t ∧ gm_k T = 6
theorem aw.o {s q : hs_S} {A t L T lb lj : Nat} {bs : Nat → Nat} (h : aw s q A t L T lb lj bs) (o : awO s A t T) : awO q A (t + L) T := ⟨h.2.1, o.2.1, by rw [h.1]; exact o.2.2.1, h.2.2.1, o.2.2.2.2⟩
theorem x_app {s : hs_S} {A t T y : Nat} {x : Int32} (o : awO s A t T) (hr : t < gm_n (A + 5)) (hx : x &&& (255 : Int32) = nI y) : Tq (fX0_append A x s) (fun q => aw s q A t 1 T 0 0 (fun _ => y)) := by
  obtain ⟨w, hA, hR, h3, kT⟩ := o
  obtain ⟨k1, k2, k3, k4, k5, k6⟩ := sk hA
  have hl := gm_n_lt (A + 5)
  have r0 : hs_R s A 0 - 1 = A + 5 := by rw [hR.1]; rfl
  have r0n : ¬ hs_R s A 0 = 0 := by rw [hR.1]; omega
  obtain ⟨y1, F1, wy, -⟩ := zfX0_append (s := A) (b := false) (v1 := x) w k1 rfl
  have tn1 : T ≠ A := fun e => by rw [e, k1] at kT; exact absurd kT (by decide)
  have tn2 : T ≠ A + 5 := fun e => by rw [e, k4] at kT; exact absurd kT (by decide)
  have E : fX0_append A x s = some (hs_wI (hs_wI s (A + 5) t (nI y)) A 3 (nI (t + 1))) := by
    unfold fX0_append
    have u : ¬ Int32.ofNat (gm_n (A + 5)) ≤ nI t := fun q => absurd ((lei (a := gm_n (A + 5)) (by omega) (by omega)).mp q) (by omega)
    rw [if_pos (w.k k1), if_pos r0n, r0, if_pos (w.k k4), w.ln, h3, if_neg u, hx, yf_put w k4 hr]
    show (if hs_kd (hs_wI s (A + 5) t (nI y)) A = 0 then some (hs_wI (hs_wI s (A + 5) t (nI y)) A 3 (hs_I (hs_wI s (A + 5) t (nI y)) A 3 + 1)) else none) = _
    have w1 : WT (hs_wI s (A + 5) t (nI y)) := w.w (oW.a (s := 0) (b := false) ⟨k4, by rcases hA with q | q | q | q <;> omega, by rcases hA with q | q | q | q <;> omega⟩)
    rw [if_pos (w1.k k1), hs_I_w, if_neg (by omega), h3, nI_1]
  have ey : y1 = hs_wI (hs_wI s (A + 5) t (nI y)) A 3 (nI (t + 1)) := Option.some.inj (F1.symm.trans E)
  rw [ey] at wy
  rw [E]
  refine Tq.some ⟨rfl, wy, hs_I_eq _ _ _ _, fun i hi => ?_, fun i hi => ?_, fun i hi => ?_, fun b b1 b2 _ => funext fun i => ?_, fun i _ _ => ?_, ?_, ?_⟩
  · rw [hs_I_ne hi, hs_I_w, if_neg (by omega)]
  · rw [hs_I_w, if_neg (by omega), hs_I_w, if_pos rfl, if_pos (by omega)]
  · rw [hs_I_w, if_neg (by omega), hs_I_w, if_pos rfl, if_neg (by omega)]
  · rw [hs_I_w, if_neg b1, hs_I_w, if_neg b2]
  · rw [hs_I_w, if_neg tn1, hs_I_w, if_neg tn2]
  · rw [hs_I_w, if_neg tn1, hs_I_w, if_neg tn2]; exact (Int32.add_zero _).symm
  · rw [hs_I_w, if_neg tn1, hs_I_w, if_neg tn2]; exact (Int32.add_zero _).symm
theorem x_app2 {s : hs_S} {A t T y z : Nat} {x : Int32} (o : awO s A t T) (hr : t + 1 < gm_n (A + 5)) (hy : (x >>> ((8 : Int32) &&& 31)) &&& (255 : Int32) = nI y) (hz : x &&& (255 : Int32) = nI z) : Tq (fX0_appendPair A x s) (fun q => aw s q A t 2 T 0 0 (fun i => if i = 0 then y else z)) := by
  have k1 := (sk o.2.1).1
  unfold fX0_appendPair
  obtain ⟨q1, E1, a1⟩ := x_app o (by omega) hy
  rw [if_pos (o.1.k k1), E1]
  have o1 := a1.o o
  show Tq (if hs_kd q1 A = 0 then _ else none) _
  obtain ⟨q2, E2, a2⟩ := x_app o1 hr hz
  rw [if_pos (o1.1.k k1), E2]
  refine Tq.some ((a1.tr a2).cg fun i hi => ?_)
  show (if i < 1 then y else z) = if i = 0 then y else z
  by_cases q : i = 0
  · rw [if_pos q, if_pos (by omega)]
  · rw [if_neg q, if_neg (by omega)]
/-- a count goes up -/
theorem aw.up {s : hs_S} {A t T : Nat} (o : awO s A t T) (i : Nat) (hi : i = 8 ∨ i = 9) : aw s (hs_wI s T i (hs_I s T i + 1)) A t 0 T (if i = 8 then 1 else 0) (if i = 9 then 1 else 0) (fun _ => 0) := by
  obtain ⟨w, hA, hR, h3, kT⟩ := o
  obtain ⟨k1, k2, k3, k4, k5, k6⟩ := sk hA
  have tn1 : A ≠ T := fun e => by rw [← e, k1] at kT; exact absurd kT (by decide)
  have tn2 : A + 5 ≠ T := fun e => by rw [← e, k4] at kT; exact absurd kT (by decide)
  have e1 : (1 : Int32) = nI 1 := rfl
  have e0 : ∀ x : Int32, x = x + nI 0 := fun x => (Int32.add_zero x).symm
  refine ⟨rfl, w.w (oW.m (s := 0) (b := false) kT (by omega)), by rw [hs_I_w, if_neg tn1]; exact h3, fun j _ => by rw [hs_I_w, if_neg tn1], fun j hj => absurd hj (Nat.not_lt_zero _), fun j _ => by rw [hs_I_w, if_neg tn2], fun b _ _ b3 => funext fun j => by rw [hs_I_w, if_neg b3], fun j j1 j2 => by rw [hs_I_ne (by omega)], ?_, ?_⟩
  · rcases hi with e | e
    · subst e; rw [hs_I_eq]; rfl
    · subst e; rw [hs_I_ne (by decide)]; exact e0 _
  · rcases hi with e | e
    · subst e; rw [hs_I_ne (by decide)]; exact e0 _
    · subst e; rw [hs_I_eq]; rfl
theorem nI_255 {y : Nat} (h : y < 256) : nI y &&& (255 : Int32) = nI y := by
  rw [pk_andN (Nat.lt_trans h (by decide)) 8 (by decide), Nat.mod_eq_of_lt (by omega)]
set_option maxRecDepth 100000 in
theorem op_all : (List.range 256).all (fun k => !(decide (153 ≤ k) && decide (k ≤ 158)) || decide ((153 : Int32) + ((nI k - (153 : Int32)) ^^^ (1 : Int32)) = nI (s_op k))) = true := by decide +kernel
theorem x_opp {k : Nat} (h1 : 153 ≤ k) (h2 : k ≤ 158) (s : hs_S) : fX4_opposite (nI k) s = some (nI (s_op k), s) := by
  have := List.all_eq_true.mp op_all k (List.mem_range.mpr (by omega))
  rw [decide_eq_true h1, decide_eq_true h2] at this
  have e := of_decide_eq_true this
  unfold fX4_opposite
  rw [e]
/-- the layout's state is not touched by what is written -/
theorem lyS.aw {s q : hs_S} {A t L T lb lj M a n : Nat} {bs e P c : Nat → Nat} {far : Nat → Bool} {pd : Bool} (h : lyS s M a n e P c far pd) (x : aw s q A t L T lb lj bs) (hA : isS A) (kT : gm_k T = 6) (n1 : M ≠ A) (n2 : M ≠ A + 5) (n3 : M ≠ T) (n4 : hs_R s M 0 - 1 ≠ A) (n5 : hs_R s M 0 - 1 ≠ A + 5) : lyS q M a n e P c far pd := by
  obtain ⟨h1, h2, h3, h4, h5, h6, h7, h8⟩ := h
  have hA92 : A < 68 := by rcases hA with q | q | q | q <;> omega
  obtain ⟨g1, g2, -, -, -, -, -, g8, -⟩ := gk_95
  have t1 : 95 ≠ T := fun z => by rw [← z, g1] at kT; exact absurd kT (by decide)
  have t2 : 96 ≠ T := fun z => by rw [← z, g2] at kT; exact absurd kT (by decide)
  have t3 : 99 ≠ T := fun z => by rw [← z, g8] at kT; exact absurd kT (by decide)
  have t4 : hs_R s M 0 - 1 ≠ T := fun z => by
    have := (h1.f6_0 h3.1).2.1
    rw [z, kT] at this
    exact absurd this (by decide)
  have xb := x.2.2.2.2.2.2.1
  exact ⟨x.2.1, by rw [x.1]; exact h2, h3.fr (by rw [xb M n1 n2 n3]) (by rw [xb M n1 n2 n3]) (by rw [x.1]) (fun k _ => by rw [xb _ n4 n5 t4]), h4, by rw [x.1]; exact h5, fun i hi => by rw [xb 96 (by omega) (by omega) t2]; exact h6 i hi, by rw [xb 95 (by omega) (by omega) t1]; exact h7, fun i hi => by rw [xb 99 (by omega) (by omega) t3]; exact h8 i hi⟩
