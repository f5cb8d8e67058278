/-- the invariant: the tape is as long as the reference's, the prices are its -/
def LI (s : hs_S) : Prop := CJ s ∧ RJ (hs_I s) ∧ tU s = hs_I s 285 2 ∧ ∀ k, k < 256 → hs_I s 90 k = hs_I s 312 k
theorem LI.cl {s q : hs_S} (h : LI s) (c : cC s q) (t : hs_I q 90 = hs_I s 90 ∧ tU q = tU s) : LI q := ⟨c.1, h.2.1.cl c, by rw [t.2, h.2.2.1, c.2.1 285 (by omega)], by rw [t.1, c.2.1 312 (by omega)]; exact h.2.2.2⟩
theorem rP_tU {s q : hs_S} (h : CJ s) (r : rP s q) : tU q = tU s := by
  show hs_I q (hs_R q 0 0 - 1) 3 = hs_I s (hs_R s 0 0 - 1) 3
  rw [r.2.2.2, r.2.2.1 _ (ck_lt (h.1.f9_0 gk_0).2 (by decide)).1]
theorem LI.rf {s q : hs_S} (h : LI s) (r : rP s q) (e : hs_I q 285 2 = hs_I s 285 2 ∧ hs_I q 312 = hs_I s 312) : LI q := ⟨r.1, r.2.1, by rw [rP_tU h.1 r, h.2.2.1, e.1], by rw [e.2, r.2.2.1 90 (by omega)]; exact h.2.2.2⟩
theorem lw2 {P : Nat × hs_S → Prop} {s : hs_S} (h : LI s) {x : Option (Int32 × hs_S)} (hx : Tq x (fun q => cC s q.2 ∧ hs_I q.2 90 = hs_I s 90 ∧ tU q.2 = tU s)) {y : hs_S → Option (Int32 × hs_S)} (hy : ∀ q, CJ q → RJ (hs_I q) → Tq (y q) (fun r => rP q r.2 ∧ hs_I r.2 285 2 = hs_I q 285 2 ∧ hs_I r.2 312 = hs_I q 312)) {rec : hs_S → Option (Nat × hs_S)} (hrec : ∀ s, LI s → Tq (rec s) P) : Tq (hs_bd x fun _ g1 => if hs_kd g1 285 = 10 then hs_bd (y g1) fun _ g2 => rec g2 else none) P := by
  refine Tq.hbd hx fun r g1 h1 => ?_
  have l1 := h.cl h1.1 h1.2
  exact Tq.ck (l1.1.1.k gk_285) (Tq.hbd (hy g1 l1.1 l1.2.1) fun r2 g2 h2 => hrec g2 (l1.rf h2.1 h2.2))
theorem law_loop (xs : Nat → Int32) {L : Nat} (hL : L ≤ 2560) : ∀ (n k : Nat) (s : hs_S), L + 5 < n + k → k ≤ L + 5 → LI s → Tq (lL_law_18 xs L n 0 285 (nI k) s) (fun q => q.1 = 0)
  | 0, k, s, h1, h2, _ => absurd h1 (by omega)
  | n + 1, k, s, h1, h2, h => by
    have e5 : Int32.ofNat L - (5 : Int32) = zI ((L : Int) - 5) := nz_sub L 5
    rw [lL_law_18, e5]
    refine Tq.br (fun _ => Tq.some rfl) (fun c => ?_)
    have hk : k + 5 ≤ L := by
      rw [← zI_n k] at c
      have : ¬ ((L : Int) - 5 < (k : Int)) := fun q => c ((zI_lt (by omega) (by omega) (by omega) (by omega)).mpr q)
      omega
    have hi : ∀ i, i < 5 → hs_in (nI k + nI i) L = true := fun i hi => by rw [nI_add]; exact hin (by omega) (by omega)
    have i1 : hs_in (nI k + (1 : Int32)) L = true := hi 1 (by decide)
    have i2 : hs_in (nI k + (2 : Int32)) L = true := hi 2 (by decide)
    have i3 : hs_in (nI k + (3 : Int32)) L = true := hi 3 (by decide)
    have i4 : hs_in (nI k + (4 : Int32)) L = true := hi 4 (by decide)
    have k9 : hs_kd s 0 = 9 := h.1.1.k gk_0
    have hrec : ∀ q, LI q → Tq (jL_law_609 xs L (fun y0 g => lL_law_18 xs L n 0 285 y0 g) 0 285 (nI k) q) (fun q => q.1 = 0) := by
      intro q hq
      unfold jL_law_609
      have e6 : nI k + (5 : Int32) = nI (k + 5) := nI_add k 5
      show Tq (lL_law_18 xs L n 0 285 (nI k + (5 : Int32)) q) _
      rw [e6]
      exact law_loop xs hL n (k + 5) q (by omega) (by omega) hq
    have ro : ∀ {x : Option (Int32 × hs_S)}, Tq x (Zr s tt) → Tq x (fun q => cC s q.2 ∧ hs_I q.2 90 = hs_I s 90 ∧ tU q.2 = tU s) := fun hx => z_ro h.1 hx
    refine Tq.ck (hin (by omega) (by omega)) ?_
    refine Tq.br (fun _ => ?_) (fun _ => ?_)
    · -- feed
      refine Tq.ck i1 (Tq.ck i2 (Tq.ck i3 (Tq.ck k9 ?_)))
      obtain ⟨t, T, hT⟩ := h.2.1.1
      refine Tq.hbd (z_feed h.1 _ _ (h.2.2.1.trans hT.1) hT.2.1) fun r g1 h1 => ?_
      obtain ⟨c1, c90, f1⟩ := h1
      have r1 := h.2.1.cl c1
      have hT1 : s_T (hs_I g1) t T := hT.fr (by rw [c1.2.1 285 (by omega)]) (c1.2.1 286 (by omega))
      refine Tq.ck (c1.1.1.k gk_285) (Tq.hbd (f_feed c1.1 r1 _ _ hT1) fun r2 g2 h2 => ?_)
      obtain ⟨p2, p312, f2⟩ := h2
      have fin : r = r2 ∧ tU g1 = hs_I g2 285 2 := by
        rcases f1 with ⟨a0, a1, a2⟩ | ⟨n1, a0, a1, a2, ⟨a3, a4, a5⟩ | ⟨a3, a4, a5⟩⟩ <;> rcases f2 with ⟨b0, b1, b2⟩ | ⟨n2, b0, b1, b2, ⟨b3, b4, b5⟩ | ⟨b3, b4, b5⟩⟩
        · exact ⟨a1.trans b1.symm, a2.trans b2.symm⟩
        · exact absurd ⟨n2, b0, b1, b2⟩ a0
        · exact absurd ⟨n2, b0, b1, b2⟩ a0
        · exact absurd ⟨n1, a0, a1, a2⟩ b0
        · exact ⟨a4.trans b4.symm, a5.trans b5.symm⟩
        · have e : n1 = n2 := (eqi (by omega) (by omega)).mp (a2.symm.trans b2)
          omega
        · exact absurd ⟨n1, a0, a1, a2⟩ b0
        · have e : n1 = n2 := (eqi (by omega) (by omega)).mp (a2.symm.trans b2)
          omega
        · have e : n1 = n2 := (eqi (by omega) (by omega)).mp (a2.symm.trans b2)
          subst e
          exact ⟨a4.trans b4.symm, a5.trans b5.symm⟩
      exact hrec g2 ⟨p2.1, p2.2.1, by rw [rP_tU c1.1 p2]; exact fin.2, by rw [p312, p2.2.2.1 90 (by omega), c90, c1.2.1 312 (by omega)]; exact h.2.2.2⟩
    refine Tq.br (fun _ => ?_) (fun _ => ?_)
    · -- load
      refine Tq.ck k9 (Tq.hbd (z_load h.1) fun r g1 h1 => ?_)
      refine Tq.ck (h1.1.1.1.k gk_285) (Tq.hbd (f_load h1.1.1 (h.2.1.cl h1.1)) fun r2 g2 h2 => ?_)
      exact hrec g2 ⟨h2.1.1, h2.1.2.1, by rw [rP_tU h1.1.1 h2.1, h1.2.2, h2.2.1], by rw [h2.2.2, h2.1.2.2.1 90 (by omega), h1.2.1, h1.1.2.1 312 (by omega)]; exact h.2.2.2⟩
    refine Tq.br (fun _ => ?_) (fun _ => ?_)
    · -- price
      refine Tq.ck i1 (Tq.ck i2 (Tq.ck k9 (Tq.hbd (z_price h.1 _ _) fun r g1 h1 => ?_)))
      obtain ⟨⟨c1, c1t⟩, f1⟩ := h1
      have r1 := h.2.1.cl c1
      have e312 : hs_I g1 312 = hs_I s 312 := c1.2.1 312 (by omega)
      refine Tq.ck (c1.1.1.k gk_285) (Tq.hbd (f_priceX c1.1 r1 _ _) fun r2 g2 h2 => ?_)
      obtain ⟨p2, p2t, f2⟩ := h2
      have e90 : hs_I g2 90 = hs_I g1 90 := p2.2.2.1 90 (by omega)
      have fin : r = r2 ∧ ∀ k, k < 256 → hs_I g2 90 k = hs_I g2 312 k := by
        rcases f1 with ⟨a0, a1, a2⟩ | ⟨k1, v1, a0, a1, a2⟩ <;> rcases f2 with ⟨b0, b1, b2⟩ | ⟨k2, v2, b0, b1, b2⟩
        · refine ⟨a1.trans b1.symm, fun k hk => ?_⟩
          rw [e90, a2, b2, e312]; exact h.2.2.2 k hk
        · exact absurd ⟨k2, v2, b0⟩ a0
        · exact absurd ⟨k1, v1, a0⟩ b0
        · obtain ⟨x1, x2, x3, x4, x5⟩ := a0
          obtain ⟨y1, y2, y3, y4, y5⟩ := b0
          have ek : k1 = k2 := (eqi (by omega) (by omega)).mp (x4.symm.trans y4)
          have ev : v1 = v2 := (eqi (by omega) (by omega)).mp (x5.symm.trans y5)
          subst ek; subst ev
          refine ⟨?_, fun k hk => ?_⟩
          · have a1' : r = hs_I s 90 k1 := a1
            have b1' : r2 = hs_I g1 312 k1 := b1
            rw [a1', b1', e312]; exact h.2.2.2 k1 x1
          · have a2' := a2 k
            have b2' := b2 k
            rw [e90, a2', b2', e312]
            split
            · rfl
            · exact h.2.2.2 k hk
      rw [if_pos fin.1]
      exact hrec g2 ⟨p2.1, p2.2.1, by rw [rP_tU c1.1 p2, c1t, h.2.2.1, p2t, c1.2.1 285 (by omega)], fin.2⟩
    refine Tq.br (fun _ => ?_) (fun _ => ?_)
    · exact Tq.ck k9 (lw2 h (z_rewrite h.1) (fun q q1 q2 => f_rewrite q1 q2) hrec)
    refine Tq.br (fun _ => ?_) (fun _ => ?_)
    · -- told
      have go2 : ∀ (s0 : Int32) (q : hs_S), LI q → Tq (jL_law_277 xs L (fun y0 g => lL_law_18 xs L n 0 285 y0 g) 0 285 (nI k) s0 (xs (nI k + (1 : Int32)).toNatClampNeg) 285 q) (fun q => q.1 = 0) := by
        intro s0 q hq
        unfold jL_law_277
        exact Tq.ck i3 (Tq.ck (hq.1.1.k gk_285) (Tq.hbd (f_told hq.1 hq.2.1 _ _ _) fun r2 g2 h2 => hrec g2 (hq.rf h2.1 h2.2)))
      have go : ∀ s0 : Int32, Tq (jL_law_249 xs L (fun y0 g => lL_law_18 xs L n 0 285 y0 g) 0 285 (nI k) s0 (xs (nI k + (1 : Int32)).toNatClampNeg) 0 s) (fun q => q.1 = 0) := by
        intro s0
        unfold jL_law_249
        refine Tq.ck i3 (Tq.ck k9 (Tq.hbd (ro (zfX11_told h.1.1 gk_0)) fun r g1 h1 => Tq.ck i1 (Tq.ck i2 ?_)))
        have l1 := h.cl h1.1 h1.2
        exact Tq.br (fun _ => go2 0 g1 l1) (fun _ => go2 1 g1 l1)
      exact Tq.ck i1 (Tq.ck i2 (Tq.br (fun _ => go 0) (fun _ => go 1)))
    refine Tq.br (fun _ => ?_) (fun _ => ?_)
    · -- byteAt
      have go2 : ∀ (s0 : Int32) (q : hs_S), LI q → Tq (jL_law_336 xs L (fun y0 g => lL_law_18 xs L n 0 285 y0 g) 0 285 (nI k) s0 (xs (nI k + (1 : Int32)).toNatClampNeg) 285 q) (fun q => q.1 = 0) := by
        intro s0 q hq
        unfold jL_law_336
        exact Tq.ck i3 (Tq.ck (hq.1.1.k gk_285) (Tq.hbd (f_byteAt hq.1 hq.2.1 _ _ _) fun r2 g2 h2 => hrec g2 (hq.rf h2.1 h2.2)))
      have go : ∀ s0 : Int32, Tq (jL_law_308 xs L (fun y0 g => lL_law_18 xs L n 0 285 y0 g) 0 285 (nI k) s0 (xs (nI k + (1 : Int32)).toNatClampNeg) 0 s) (fun q => q.1 = 0) := by
        intro s0
        unfold jL_law_308
        refine Tq.ck i3 (Tq.ck k9 (Tq.hbd (ro (zfX11_byteAt h.1.1 gk_0)) fun r g1 h1 => Tq.ck i1 (Tq.ck i2 ?_)))
        have l1 := h.cl h1.1 h1.2
        exact Tq.br (fun _ => go2 0 g1 l1) (fun _ => go2 1 g1 l1)
      exact Tq.ck i1 (Tq.ck i2 (Tq.br (fun _ => go 0) (fun _ => go 1)))
    refine Tq.br (fun _ => ?_) (fun _ => ?_)
    · -- handler
      have go2 : ∀ (s0 : Int32) (q : hs_S), LI q → Tq (jL_law_400 xs L (fun y0 g => lL_law_18 xs L n 0 285 y0 g) 0 285 (nI k) s0 (xs (nI k + (1 : Int32)).toNatClampNeg) 285 q) (fun q => q.1 = 0) := by
        intro s0 q hq
        unfold jL_law_400
        exact Tq.ck i3 (Tq.ck i4 (Tq.ck (hq.1.1.k gk_285) (Tq.hbd (f_handler hq.1 hq.2.1 _ _ _ _) fun r2 g2 h2 => hrec g2 (hq.rf h2.1 h2.2))))
      have go : ∀ s0 : Int32, Tq (jL_law_367 xs L (fun y0 g => lL_law_18 xs L n 0 285 y0 g) 0 285 (nI k) s0 (xs (nI k + (1 : Int32)).toNatClampNeg) 0 s) (fun q => q.1 = 0) := by
        intro s0
        unfold jL_law_367
        refine Tq.ck i3 (Tq.ck i4 (Tq.ck k9 (Tq.hbd (ro (zfX11_handler h.1.1 gk_0)) fun r g1 h1 => Tq.ck i1 (Tq.ck i2 ?_))))
        have l1 := h.cl h1.1 h1.2
        exact Tq.br (fun _ => go2 0 g1 l1) (fun _ => go2 1 g1 l1)
      exact Tq.ck i1 (Tq.ck i2 (Tq.br (fun _ => go 0) (fun _ => go 1)))
    refine Tq.br (fun _ => ?_) (fun _ => ?_)
    · exact Tq.ck i1 (Tq.ck i2 (Tq.ck i3 (Tq.ck k9 (lw2 h (ro (zfX11_block h.1.1 gk_0)) (fun q q1 q2 => f_block q1 q2 _ _ _) hrec))))
    refine Tq.br (fun _ => ?_) (fun _ => ?_)
    · exact Tq.ck i1 (Tq.ck i2 (Tq.ck i3 (Tq.ck i4 (Tq.ck k9 (lw2 h (z_run h.1 _ _ _ _) (fun q q1 q2 => f_run q1 q2 _ _ _ _) hrec)))))
    refine Tq.br (fun _ => ?_) (fun _ => ?_)
    · exact Tq.ck k9 (lw2 h (ro (zfX11_answer h.1.1 gk_0)) (fun q q1 q2 => f_answer q1 q2) hrec)
    refine Tq.br (fun _ => ?_) (fun _ => ?_)
    · exact Tq.ck k9 (lw2 h (ro (zfX11_counted h.1.1 gk_0)) (fun q q1 q2 => f_counted q1 q2) hrec)
    refine Tq.br (fun _ => ?_) (fun _ => ?_)
    · exact Tq.ck k9 (lw2 h (ro (zfX11_steps h.1.1 gk_0)) (fun q q1 q2 => f_steps q1 q2) hrec)
    refine Tq.br (fun _ => ?_) (fun _ => ?_)
    · exact Tq.ck i1 (Tq.ck i2 (Tq.ck k9 (lw2 h (ro (zfX11_element h.1.1 gk_0)) (fun q q1 q2 => f_element q1 q2 _ _) hrec)))
    refine Tq.br (fun _ => ?_) (fun _ => ?_)
    · exact Tq.ck k9 (lw2 h (z_unwrite h.1) (fun q q1 q2 => f_unwrite q1 q2) hrec)
    refine Tq.br (fun _ => ?_) (fun _ => hrec s h)
    · refine Tq.ck k9 (Tq.hbv (z_clear h.1) fun g1 h1 => ?_)
      refine Tq.ck (h1.1.1.1.k gk_285) (Tq.hbv (f_clear h1.1.1 (h.2.1.cl h1.1)) fun g2 h2 => ?_)
      exact hrec g2 ⟨h2.1.1, h2.1.2.1, by rw [rP_tU h1.1.1 h2.1, h1.2.2, h2.2.1], fun k hk => by rw [h2.1.2.2.1 90 (by omega), h1.2.1 k hk]; exact (h2.2.2 k hk).2.symm⟩
