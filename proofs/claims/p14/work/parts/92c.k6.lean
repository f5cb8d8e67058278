/-- of the method objects only those of the set at A are written, of the sets none -/
def N6 (A : Nat) (g q : hs_S) : Prop := ((∀ b, (gm_k b = 6 ∨ gm_k b = 0) → (∀ j, j < 8 → b ≠ A + 6 + 2 * j) → hs_I q b = hs_I g b) ∧ hs_R q = hs_R g) ∧ RO q
theorem N6.rf {A : Nat} {g : hs_S} (c : RO g) : N6 A g g := ⟨⟨fun _ _ _ => rfl, rfl⟩, c⟩
theorem N6.trans {A : Nat} {g q r : hs_S} (h : N6 A g q) (h' : N6 A q r) : N6 A g r := ⟨⟨fun b x y => (h'.1.1 b x y).trans (h.1.1 b x y), h'.1.2.trans h.1.2⟩, h'.2⟩
theorem P6.n {A j : Nat} {g q : hs_S} (h : P6 (A + 6 + 2 * j) g q) (hj : j < 8) : N6 A g q := ⟨⟨fun b x y => h.1.1 b x (y j hj), h.1.2⟩, h.2⟩
theorem k_mth {A m : Nat} {g : hs_S} (hR : SF (hs_R g) A) (hm8 : m < 8) : Pq (fX0_method A (nI m) g) (Or' g (fun r => r = A + 6 + 2 * m)) := by
  unfold fX0_method
  have u : ¬ (8 : Int32) ≤ nI m := fun q => absurd ((lei (a := 8) (by decide) (by omega)).mp q) (by omega)
  rw [if_neg (nI_pos (by omega)), if_neg u]
  refine Pq.ck (Pq.ck (Pq.ck (Pq.ck (Pq.ck (Pq.s ⟨rfl, ?_⟩)))))
  show hs_R g (hs_R g A 1 - 1) (nI m).toNatClampNeg - 1 = A + 6 + 2 * m
  rw [hR.2.1, cl (by omega)]
  show hs_R g (A + 1) m - 1 = _
  rw [(hR.2.2.2.2 m hm8).1]
  omega
theorem klX2_firstWrong_40 {A N : Nat} (hA : isS A) (hN8 : N ≤ 8) : ∀ (n : Nat) (v2 : Int32) (m : Nat) (g : hs_S), m < 100 → RO g → SF (hs_R g) A → hs_I g A 4 = nI N → Pq (lX2_firstWrong_40 n 91 A v2 (nI m) g) (fun q => N6 A g q.2.2.2)
  | 0, v2, m, g, _, _, _, _ => Pq.n
  | n + 1, v2, m, g, hm0, c, hR, h4 => by
    obtain ⟨k1, k2, k3, k4, k5, k6⟩ := sk hA
    rw [lX2_firstWrong_40, h4]
    refine Pq.ck ?_
    by_cases q : N ≤ m
    · rw [if_pos ((lei (by omega) (by omega)).mpr q)]
      exact Pq.s (N6.rf c)
    · rw [if_neg (fun z => q ((lei (by omega) (by omega)).mp z))]
      refine Pq.ro (k_mth hR (by omega)) fun r hr => ?_
      rw [hr]
      refine Pq.ck (Pq.st6 (kfX2_wrongInMethod c (k6 m (by omega)).1) fun r12 g11 o => ?_)
      have o1 := o.n (show m < 8 by omega)
      have hR1 : SF (hs_R g11) A := by rw [o1.1.2]; exact hR
      refine Pq.br ?_ (Pq.s o1)
      refine Pq.ck (Pq.ro (k_mth hR1 (by omega)) fun r hr => Pq.ck (Pq.ro pfX2_endOf fun r20 _ => ?_))
      rw [nI_1]
      exact fun q e => o1.trans (klX2_firstWrong_40 hA hN8 n r20 (m + 1) g11 (by omega) o1.2 hR1 (by rw [o1.1.1 A (Or.inr k1) (fun j _ => by omega)]; exact h4) q e)
theorem klX1_firstWrong_2 {A N : Nat} (hA : isS A) (hN8 : N ≤ 8) : ∀ (n : Nat) (m : Nat) (g : hs_S), m < 100 → RO g → SF (hs_R g) A → hs_I g A 4 = nI N → Pq (lX1_firstWrong_2 n 92 A (nI m) g) (fun q => N6 A g q.2.2.2)
  | 0, m, g, _, _, _, _ => Pq.n
  | n + 1, m, g, hm0, c, hR, h4 => by
    obtain ⟨k1, k2, k3, k4, k5, k6⟩ := sk hA
    rw [lX1_firstWrong_2, h4]
    refine Pq.ck ?_
    by_cases q : N ≤ m
    · rw [if_pos ((lei (by omega) (by omega)).mpr q)]
      exact Pq.s (N6.rf c)
    · rw [if_neg (fun z => q ((lei (by omega) (by omega)).mp z))]
      refine Pq.ro (k_mth hR (by omega)) fun r hr => ?_
      rw [hr]
      refine Pq.ck (Pq.st6 (kfX1_wrongPlace c gk_92 k1 (k6 m (by omega)).1) fun r12 g11 o => ?_)
      have o1 := o.n (show m < 8 by omega)
      have hR1 : SF (hs_R g11) A := by rw [o1.1.2]; exact hR
      refine Pq.br ?_ (Pq.s o1)
      rw [nI_1]
      exact fun q e => o1.trans (klX1_firstWrong_2 hA hN8 n (m + 1) g11 (by omega) o1.2 hR1 (by rw [o1.1.1 A (Or.inr k1) (fun j _ => by omega)]; exact h4) q e)
theorem kfX1_firstWrong {A N : Nat} {g : hs_S} (hA : isS A) (hN8 : N ≤ 8) (c : RO g) (hR : SF (hs_R g) A) (h4 : hs_I g A 4 = nI N) : Pq (fX1_firstWrong 92 A g) (fun q => N6 A g q.2) := by
  unfold fX1_firstWrong
  have h := klX1_firstWrong_2 hA hN8 hs_N 0 g (by omega) c hR h4
  have h' : Pq (lX1_firstWrong_2 hs_N 92 A (0 : Int32) g) (fun q => N6 A g q.2.2.2) := h
  cases e : lX1_firstWrong_2 hs_N 92 A (0 : Int32) g with
  | none => exact Pq.n
  | some q =>
    have o := h' q e
    obtain ⟨a1, a2, a3, a4⟩ := q
    have o : N6 A g a4 := o
    show Pq (if a1 = 0 then _ else _) _
    refine Pq.br (Pq.s o) (Pq.ck (Pq.ro pfX0_method0 fun r _ => Pq.ck (Pq.s o)))
/-- firstWrong(), right or not: the set's count aside, no set's number is written, and no other method object -/
theorem kfX2_firstWrong {A : Nat} {g : hs_S} (hA : isS A) (c : RO g) (hR : SF (hs_R g) A) (h91 : hs_R g 91 0 = 93) : Pq (fX2_firstWrong 91 A g) (fun q => (∀ b, (gm_k b = 6 ∨ gm_k b = 0) → (∀ j, j < 8 → b ≠ A + 6 + 2 * j) → ∀ i, (b = A → i ≠ 4) → hs_I q.2 b i = hs_I g b i) ∧ hs_R q.2 = hs_R g) := by
  have k1 := (sk hA).1
  unfold fX2_firstWrong
  refine Pq.ck (Pq.ro pfX0_valueAt fun r3 _ => Pq.ck ?_)
  have b0 : ∀ b i, (b = A → i ≠ 4) → hs_I (hs_wI g A 4 r3) b i = hs_I g b i := fun b i h => by
    rw [hs_I_w]
    by_cases q : b = A
    · rw [if_pos q, if_neg (h q)]
    · rw [if_neg q]
  have r0 : ∀ x : Int32, Pq (some (x, hs_wI g A 4 r3)) (fun q => (∀ b, (gm_k b = 6 ∨ gm_k b = 0) → (∀ j, j < 8 → b ≠ A + 6 + 2 * j) → ∀ i, (b = A → i ≠ 4) → hs_I q.2 b i = hs_I g b i) ∧ hs_R q.2 = hs_R g) := fun x => Pq.s ⟨fun b _ _ i hi => b0 b i hi, rfl⟩
  refine Pq.br (r0 _) ?_
  rw [hs_I_eq]
  by_cases c1 : r3 < (1 : Int32)
  · rw [if_pos c1]; exact r0 _
  rw [if_neg c1]
  by_cases c2 : r3 ≤ (8 : Int32)
  rotate_left
  · rw [if_neg c2]; exact r0 _
  rw [if_pos c2]
  have c0 : ¬ r3 < 0 := fun q => c1 (of_lt (by have := lt_toInt q; rw [ti_0] at this; rw [ti_1]; omega))
  obtain ⟨N, hN0, rfl⟩ := nI_of c0
  have hN8 : N ≤ 8 := (lei (b := 8) (by omega) (by decide)).mp c2
  have h := klX2_firstWrong_40 hA hN8 hs_N (1 : Int32) 0 (hs_wI g A 4 (nI N)) (by omega) c hR (hs_I_eq _ _ _ _)
  have h' : Pq (lX2_firstWrong_40 hs_N 91 A (1 : Int32) (0 : Int32) (hs_wI g A 4 (nI N))) (fun q => N6 A (hs_wI g A 4 (nI N)) q.2.2.2) := h
  cases e : lX2_firstWrong_40 hs_N 91 A (1 : Int32) (0 : Int32) (hs_wI g A 4 (nI N)) with
  | none => exact Pq.n
  | some q =>
    have o := h' q e
    obtain ⟨a1, a2, a3, a4⟩ := q
    have o : N6 A (hs_wI g A 4 (nI N)) a4 := o
    have fin : ∀ q, N6 A (hs_wI g A 4 (nI N)) q → (∀ b, (gm_k b = 6 ∨ gm_k b = 0) → (∀ j, j < 8 → b ≠ A + 6 + 2 * j) → ∀ i, (b = A → i ≠ 4) → hs_I q b i = hs_I g b i) ∧ hs_R q = hs_R g := fun q o => ⟨fun b h1 h2 i hi => by rw [o.1.1 b h1 h2, b0 b i hi], o.1.2⟩
    show Pq (if a1 = 0 then _ else _) _
    refine Pq.br (Pq.ck (Pq.br (Pq.ck (Pq.ck (Pq.ck ?_))) (Pq.s (fin _ o)))) (Pq.s (fin _ o))
    have e92 : hs_R a4 91 0 - 1 = 92 := by rw [o.1.2]; show hs_R g 91 0 - 1 = 92; rw [h91]
    rw [e92]
    have h3 := kfX1_firstWrong hA hN8 o.2 (by rw [o.1.2]; exact hR) (N := N) (by rw [o.1.1 A (Or.inr k1) (fun j _ => by omega)]; exact hs_I_eq _ _ _ _)
    cases e3 : fX1_firstWrong 92 A a4 with
    | none => exact Pq.n
    | some q =>
      obtain ⟨r, q⟩ := q
      exact Pq.s (fin _ (o.trans (h3 _ e3)))
