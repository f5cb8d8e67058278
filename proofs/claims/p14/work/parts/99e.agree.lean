/-! THE CLASS'S OTHER CALLS, as far as the tape, the FILE and what is written go -/
theorem Tq.and {σ : Type} {x : Option σ} {P Q : σ → Prop} (h : Tq x P) (h' : Tq x Q) : Tq x (fun q => P q ∧ Q q) := by
  obtain ⟨q, e, p⟩ := h
  obtain ⟨q', e', p'⟩ := h'
  have e3 : q' = q := Option.some.inj (e'.symm.trans e)
  rw [e3] at p'
  exact ⟨q, e, p, p'⟩
theorem Tq.pq {σ : Type} {x : Option σ} {P Q : σ → Prop} (h : Tq x P) (h' : Pq x Q) : Tq x (fun q => P q ∧ Q q) := by
  obtain ⟨q, e, p⟩ := h
  exact ⟨q, e, p, h' q e⟩
theorem cF.to {s q : hs_S} {A : Nat} {u : Nat → Nat} (h : cF s A u) (hN : u 0 ≤ 8) (hR : SF (hs_R s) A) (hR' : SF (hs_R q) A) (hb : ∀ b, A ≤ b → b < A + 22 → hs_I q b = hs_I s b) : cF q A u := by
  refine ⟨by rw [hb A (Nat.le_refl _) (by omega)]; exact h.1, fun j hj => ?_⟩
  obtain ⟨⟨m4, m5, m6, m8, m9, mt, e, mv, cl, m7⟩, D, h2, h3⟩ := h.2 j hj
  have r1 := (hR.2.2.2.2 j (by omega)).2.1
  have r2 := (hR'.2.2.2.2 j (by omega)).2.1
  have b1 := hb (A + 6 + 2 * j) (by omega) (by omega)
  have b2 := hb (A + 7 + 2 * j) (by omega) (by omega)
  have b3 := hb (A + 5) (by omega) (by omega)
  refine ⟨⟨by rw [b1]; exact m4, by rw [b1]; exact m5, by rw [b1]; exact m6, by rw [b1]; exact m8, by rw [b1]; exact m9, by rw [b2]; exact mt, e, mv.fr (by rw [b1]) (by rw [b1]) (by rw [r1, r2]) (fun k hk => ?_), cl, by rw [b1]; exact m7⟩, D, h2, by rw [b1]; exact h3⟩
  rw [r1]
  show hs_I q (A + 5) _ = hs_I s (A + 5) _
  rw [b3]
theorem RX.cu {R R' : Nat → Nat → Nat} (h : RX R) (co : CO R') (e : ∀ a, gm_k a ≠ 3 → R' a = R a) : RX R' := by
  obtain ⟨-, h2, h3, h4, h5, h6, h7, h8, h9, h10⟩ := h
  have e0 := e 0 (by decide +kernel)
  have e91 := e 91 (by decide +kernel)
  have e92 := e 92 (by decide +kernel)
  have e95 := e 95 (by decide +kernel)
  refine ⟨co, fun A hA => ?_, ?_, ?_, by rw [e91]; exact h5, by rw [e0]; exact h6, by rw [e0]; exact h7, by rw [e0]; exact h8, by rw [e0]; exact h9, by rw [e0]; exact h10⟩
  · obtain ⟨k1, k2, k3, k4, k5, k6⟩ := sk hA
    obtain ⟨x1, x2, x3, x4, x5⟩ := h2 A hA
    have eA := e A (by rw [k1]; decide)
    have eA1 := e (A + 1) (by rw [k2]; decide)
    have eA2 := e (A + 2) (by rw [k3]; decide)
    refine ⟨by rw [eA]; exact x1, by rw [eA]; exact x2, by rw [eA]; exact x3, by rw [eA2]; exact x4, fun j hj => ?_⟩
    have eM := e (A + 6 + 2 * j) (by rw [(k6 j hj).1]; decide)
    rw [eA1, eM]
    exact x5 j hj
  · unfold DR
    rw [e92]; exact h3
  · unfold LR
    rw [e95]; exact h4
theorem RX.sw {R R' : Nat → Nat → Nat} (h : RX R) (e : ∀ a, a ≠ 0 → R' a = R a) (e2 : ∀ j, 3 ≤ j → R' 0 j = R 0 j) (hf : ∀ j, j < 3 → isF (R' 0 j - 1)) : RX R' := by
  obtain ⟨h1, h2, h3, h4, h5, h6, h7, h8, h9, -⟩ := h
  have e91 := e 91 (by decide)
  have e92 := e 92 (by decide)
  have e95 := e 95 (by decide)
  refine ⟨fun a j hj => ?_, fun A hA => ?_, ?_, ?_, by rw [e91]; exact h5, by rw [e2 3 (by decide)]; exact h6, by rw [e2 4 (by decide)]; exact h7, by rw [e2 5 (by decide)]; exact h8, by rw [e2 6 (by decide)]; exact h9, hf⟩
  · have ha : a ≠ 0 := by
      intro q
      rw [q, gk_0] at hj
      revert hj
      unfold coS
      simp
    rw [e a ha]; exact h1 a j hj
  · have hA0 : A ≠ 0 := by rcases hA with q | q | q | q <;> omega
    unfold SF
    rw [e A hA0, e (A + 2) (by omega), e (A + 1) (by omega)]
    obtain ⟨x1, x2, x3, x4, x5⟩ := h2 A hA
    refine ⟨x1, x2, x3, x4, fun j hj => ?_⟩
    rw [e (A + 6 + 2 * j) (by omega)]
    exact x5 j hj
  · unfold DR
    rw [e92]; exact h3
  · unfold LR
    rw [e95]; exact h4
theorem k5_ow {a : Nat} (h : gm_k a = 5) : ow a = 100 := by
  have h1 := (ck_lt h (by decide)).1
  have q : (List.range 285).all (fun i => !decide (gm_k i = 5) || decide (ow i = 100)) = true := by decide +kernel
  have q2 := List.all_eq_true.mp q a (List.mem_range.mpr h1)
  have q3 : decide (gm_k a = 5) = true := decide_eq_true h
  rw [q3] at q2
  exact of_decide_eq_true q2
/-- run(), as far as the rest goes -/
theorem x_run {s : hs_S} (hJ : CJ s) (hX : RX (hs_R s)) (v1 v2 v3 v4 : Int32) : Tq (fX11_run 0 v1 v2 v3 v4 s) (fun q => cC s q.2 ∧ RX (hs_R q.2) ∧ hs_R q.2 0 = hs_R s 0 ∧ ∀ b, ow b ≠ 100 → hs_I q.2 b = hs_I s b) := by
  have p : Pq (fX11_run 0 v1 v2 v3 v4 s) (Os (fun o => o = 100) s) := by
    have co : RO s := ⟨hJ.1.2.2.2.1, hX.1⟩
    unfold fX11_run
    refine Pq.ck (Pq.ck (Pq.ck (Pq.br (Pq.s (PO.rf co)) (Pq.ro pfX0_has fun r _ => Pq.br (Pq.s (PO.rf co)) (Pq.br (Pq.s (PO.rf co)) (Pq.br (Pq.ck (Pq.ck (Pq.ck ?_))) (Pq.s (PO.rf co))))))))
    refine Pq.st (pfX6_perform (G := fun o => o = 100) co (hJ.1.f9_7 gk_0).2 (k5_ow (hJ.1.f9_7 gk_0).2)) fun r g' o => ?_
    exact Pq.s o
  refine (((z_run hJ v1 v2 v3 v4).and (zfX11_run (s := 999) (b := false) hJ.1 gk_0)).pq p).mono fun q hq => ?_
  obtain ⟨⟨⟨c1, -⟩, c2⟩, c3⟩ := hq
  have c4 := c2.1.2.2
  have c5 : PO (fun o => o = 100) s q.2 := c3
  exact ⟨c1, hX.cu c5.2.2 c4, c4 0 (by rw [gk_0]; decide), c5.1⟩
/-- price() -/
theorem x_price {g : hs_S} (h : CJ g) (v1 v2 : Int32) : Tq (fX11_price 0 v1 v2 g) (fun q => ((¬ ∃ k v, s_pok v1 v2 k v) ∧ q = (-3, g)) ∨ ∃ k v, s_pok v1 v2 k v ∧ q = (hs_I g 90 k, hs_wI g 90 k (nI v))) := by
  have bad : (¬ ∃ k v, s_pok v1 v2 k v) → ((¬ ∃ k v, s_pok v1 v2 k v) ∧ ((-3 : Int32), g) = (-3, g)) ∨ ∃ k v, s_pok v1 v2 k v ∧ ((-3 : Int32), g) = (hs_I g 90 k, hs_wI g 90 k (nI v)) := fun q => Or.inl ⟨q, rfl⟩
  obtain ⟨a1, a2⟩ := h.1.f9_4 gk_0
  obtain ⟨f1, f2⟩ := h.1.f7_0 a2
  unfold fX11_price
  rw [pv_sz_eq, hs_bd_s]
  refine Tq.br (fun c1 => Tq.some (bad ?_)) (fun c1 => ?_)
  · rintro ⟨k, v, p1, p2, p3, p4, p5⟩
    rw [p4] at c1
    exact (pv_isK' p1).mp c1 p2
  have hin1 : ¬ v1 < 0 ∧ ¬ (255 : Int32) < v1 := ⟨fun q => c1 (pv_sz_out (Or.inl q)), fun q => c1 (pv_sz_out (Or.inr q))⟩
  obtain ⟨k, hk0, rfl⟩ := nI_of hin1.1
  have hk : k < 256 := by
    have := nlt_toInt hin1.2
    rw [nI_toInt (by omega), show (255 : Int32).toInt = 255 by decide] at this
    omega
  have hK : s_isK k = true := by
    by_cases e : s_isK k = true
    · exact e
    · exact absurd ((pv_isK' hk).mpr e) c1
  refine Tq.br (fun c2 => Tq.some (bad ?_)) (fun c2 => ?_)
  · rintro ⟨k', v, p1, p2, p3, p4, p5⟩
    rw [p5] at c2
    exact nI_pos (by omega) c2
  obtain ⟨v, hv0, rfl⟩ := nI_of c2
  refine Tq.br (fun c3 => ?_) (fun c3 => Tq.some (bad ?_))
  rotate_left
  · rintro ⟨k', v', p1, p2, p3, p4, p5⟩
    apply c3
    rw [p5]
    exact (lei (b := 1000) (by omega) (by decide)).mpr p3
  have hv := (lei (b := 1000) (by omega) (by decide)).mp c3
  have hr : hs_R g (hs_R g 0 4 - 1) 0 - 1 = 90 := f2
  refine Tq.ck (h.1.k gk_0) (Tq.ck a1 (Tq.ck (h.1.k a2) ?_))
  unfold fX8_of
  rw [if_pos (h.1.k a2), if_pos f1, hr, yf_at h.1 gm_k_90 (by rw [gk_90n]; exact hk)]
  show Tq (if hs_kd g 0 = 9 then _ else none) _
  refine Tq.ck (h.1.k gk_0) (Tq.ck a1 (Tq.ck (h.1.k a2) ?_))
  unfold fX8_become
  rw [if_pos (h.1.k a2), if_pos f1, hr, yf_put h.1 gm_k_90 (by rw [gk_90n]; exact hk)]
  exact Tq.some (Or.inr ⟨k, v, ⟨hk, hK, hv, rfl, rfl⟩, rfl⟩)
/-- clear() -/
theorem x_clear {s : hs_S} {A B : Nat} (hA : isF A) (hB : isF B) (hAB : A ≠ B) (hJ : CJ s) (hX : RX (hs_R s)) (r0 : hs_R s 0 0 = A + 1) (r1 : hs_R s 0 1 = B + 1) : Tq (fX11_clear 0 s) (fun q => cC s q ∧ RX (hs_R q) ∧ hs_R q 0 = hs_R s 0 ∧ (∀ i, i < 256 → hs_I q 90 i = nI (s_p0 i)) ∧ hs_I q A 3 = 0 ∧ hs_I q B 4 = 0 ∧ hs_I q 67 4 = 0 ∧ ∀ b, b ≠ A → b ≠ B → b ≠ 67 → b ≠ 90 → ow b ≠ 100 → hs_I q b = hs_I s b) := by
  have hA6 : A < 46 ∧ 0 < A := by rcases hA with h | h | h <;> omega
  have hB6 : B < 46 ∧ 0 < B := by rcases hB with h | h | h <;> omega
  have owA : ow A ≠ 100 := by rcases hA with h | h | h <;> rw [h] <;> decide
  have owB : ow B ≠ 100 := by rcases hB with h | h | h <;> rw [h] <;> decide
  have k0 : gm_k 0 = 9 := gk_0
  have r3 : hs_R s 0 3 = 68 := hX.2.2.2.2.2.1
  have r4 : hs_R s 0 4 = 90 := hX.2.2.2.2.2.2.1
  refine ((z_clear hJ).and (Q := fun q => RX (hs_R q) ∧ hs_R q 0 = hs_R s 0 ∧ hs_I q A 3 = 0 ∧ hs_I q B 4 = 0 ∧ hs_I q 67 4 = 0 ∧ ∀ b, b ≠ A → b ≠ B → b ≠ 67 → b ≠ 90 → ow b ≠ 100 → hs_I q b = hs_I s b) ?_).mono fun q hq => ⟨hq.1.1, hq.2.1, hq.2.2.1, hq.1.2.1, hq.2.2.2⟩
  unfold fX11_clear
  obtain ⟨q1, e1, w1, R1, a3, a4, f1⟩ := x_empty0 hJ.1 hA.s
  rw [if_pos (hJ.1.k gk_0), if_pos (hJ.1.f9_0 gk_0).1, if_pos (hJ.1.k (hJ.1.f9_0 gk_0).2), r0, Nat.add_sub_cancel, e1]
  show Tq (if hs_kd q1 0 = 9 then _ else none) _
  obtain ⟨q2, e2, w2, R2, b3, b4, f2⟩ := x_empty0 w1 hB.s
  rw [if_pos (w1.k gk_0), if_pos (w1.f9_1 gk_0).1, if_pos (w1.k (w1.f9_1 gk_0).2), show hs_R q1 0 1 = B + 1 by rw [R1]; exact r1, Nat.add_sub_cancel, e2]
  show Tq (if hs_kd q2 0 = 9 then _ else none) _
  obtain ⟨q3, e3, w3, R3, c3, c4, f3⟩ := x_empty0 w2 isS_67
  rw [if_pos (w2.k gk_0), if_pos (w2.f9_3 gk_0).1, if_pos (w2.k (w2.f9_3 gk_0).2), show hs_R q2 0 3 - 1 = 67 by rw [R2, R1, r3], e3]
  show Tq (if hs_kd q3 0 = 9 then _ else none) _
  have d2 := (w3.f9_4 gk_0).2
  obtain ⟨q4, e4, ⟨w4, R4, f4⟩, -⟩ := z_first w3 d2
  rw [if_pos (w3.k gk_0), if_pos (w3.f9_4 gk_0).1, if_pos (w3.k (w3.f9_4 gk_0).2), e4]
  show Tq (if hs_kd q4 0 = 9 then _ else none) _
  have R04 : hs_R q4 = hs_R s := by rw [R4, R3, R2, R1]
  have co : RO q4 := ⟨w4.2.2.2.1, by rw [R04]; exact hX.1⟩
  have m2 := (w4.f9_7 gk_0).2
  obtain ⟨q5, e5, ⟨w5, u5⟩, p5⟩ := (zfX6_forget (s := 999) (b := true) w4 m2).pq (pfX6_forget (G := fun o => o = 100) co m2 (k5_ow m2))
  rw [if_pos (w4.k gk_0), if_pos (w4.f9_7 gk_0).1, if_pos (w4.k (w4.f9_7 gk_0).2), e5]
  have g : ∀ b, b ≠ A → b ≠ B → b ≠ 67 → b ≠ 90 → ow b ≠ 100 → hs_I q5 b = hs_I s b := fun b x1 x2 x3 x4 x5 => by
    rw [p5.1 b x5, f4 b x4, f3 b x3, f2 b x2, f1 b x1]
  refine Tq.some ⟨(show RX (hs_R q4) by rw [R04]; exact hX).cu p5.2.2 u5.2, by rw [u5.2 0 (by rw [gk_0]; decide), R04], ?_, ?_, ?_, g⟩
  · rw [p5.1 A owA, f4 A (by omega), f3 A (by omega), f2 A hAB]; exact a3
  · rw [p5.1 B owB, f4 B (by omega), f3 B (by omega)]; exact b4
  · rw [p5.1 67 (by decide), f4 67 (by decide)]; exact c4
