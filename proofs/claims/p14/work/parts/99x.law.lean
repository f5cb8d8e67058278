/-! THE LAW'S LOOP -/
theorem lw_p {P : Nat × hs_S → Prop} {x : Option (Int32 × hs_S)} {y : hs_S → Option (Int32 × hs_S)} (hx : Tq x (fun q => CJ q.2 ∧ Tq (y q.2) (fun r => AM r.2))) {rec : hs_S → Option (Nat × hs_S)} (hrec : ∀ s, AM s → Tq (rec s) P) : Tq (hs_bd x fun _ g1 => if hs_kd g1 285 = 10 then hs_bd (y g1) fun _ g2 => rec g2 else none) P :=
  Tq.hbd hx fun _ _ h1 => Tq.ck (h1.1.1.k gk_285) (Tq.hbd h1.2 fun _ g2 h2 => hrec g2 h2)
theorem lw_c {P : Nat × hs_S → Prop} {ec : Nat} {x : Option (Int32 × hs_S)} {y : hs_S → Option (Int32 × hs_S)} (hx : Tq x (fun q => CJ q.2 ∧ Tq (y q.2) (fun r => AM r.2 ∧ r.1 = q.1))) {rec : hs_S → Option (Nat × hs_S)} (hrec : ∀ s, AM s → Tq (rec s) P) : Tq (hs_bd x fun r1 g1 => if hs_kd g1 285 = 10 then hs_bd (y g1) fun r2 g2 => if r1 = r2 then rec g2 else some (ec, g2) else none) P :=
  Tq.hbd hx fun r1 _ h1 => Tq.ck (h1.1.1.k gk_285) (Tq.hbd h1.2 fun r2 g2 h2 => by
    have e : r1 = r2 := h2.2.symm
    rw [if_pos e]
    exact hrec g2 h2.1)
theorem lw_ro {s : hs_S} (h : AM s) {x : Option (Int32 × hs_S)} (hx : Tq x (Zr s tt)) {y : hs_S → Option (Int32 × hs_S)} (hy : Tq (y s) (fun r => AM r.2)) : Tq x (fun q => CJ q.2 ∧ Tq (y q.2) (fun r => AM r.2)) := hx.mono fun q hq => by
  rw [hq.1]; exact ⟨h.1.1, hy⟩
theorem lw_w {x : Option (Int32 × hs_S)} {y : hs_S → Option (Int32 × hs_S)} (hx : Tq x (fun q => CJ q.2 ∧ Tq (y q.2) (fun r => AM r.2 ∧ r.1 = q.1))) : Tq x (fun q => CJ q.2 ∧ Tq (y q.2) (fun r => AM r.2)) := hx.mono fun q hq => ⟨hq.1, hq.2.mono fun r hr => hr.1⟩
theorem law_loop (xs : Nat → Int32) {L : Nat} (hL : L ≤ 2560) : ∀ (n k : Nat) (s : hs_S), L + 5 < n + k → k ≤ L + 5 → AM s → Tq (lL_law_18 xs L n 0 285 (nI k) s) (fun q => q.1 = 0)
  | 0, k, s, h1, h2, _ => absurd h1 (by omega)
  | n + 1, k, s, h1, h2, h => by
    have e5 : Int32.ofNat L - (5 : Int32) = zI ((L : Int) - 5) := nz_sub L 5
    rw [lL_law_18, e5]
    refine Tq.br (fun _ => Tq.some rfl) (fun c => ?_)
    have hk : k + 5 ≤ L := by
      rw [← zI_n k] at c
      have : ¬ ((L : Int) - 5 < (k : Int)) := fun q => c ((zI_lt (by omega) (by omega) (by omega) (by omega)).mpr q)
      omega
    have hi : ∀ i, i < 5 → hs_in (nI k + nI i) L = true := fun i hi => by rw [nI_add]; exact hin (by omega) (by omega)
    have i1 : hs_in (nI k + (1 : Int32)) L = true := hi 1 (by decide)
    have i2 : hs_in (nI k + (2 : Int32)) L = true := hi 2 (by decide)
    have i3 : hs_in (nI k + (3 : Int32)) L = true := hi 3 (by decide)
    have i4 : hs_in (nI k + (4 : Int32)) L = true := hi 4 (by decide)
    have k9 : hs_kd s 0 = 9 := h.1.1.1.k gk_0
    have hrec : ∀ q, AM q → Tq (jL_law_609 xs L (fun y0 g => lL_law_18 xs L n 0 285 y0 g) 0 285 (nI k) q) (fun q => q.1 = 0) := by
      intro q hq
      unfold jL_law_609
      have e6 : nI k + (5 : Int32) = nI (k + 5) := nI_add k 5
      show Tq (lL_law_18 xs L n 0 285 (nI k + (5 : Int32)) q) _
      rw [e6]
      exact law_loop xs hL n (k + 5) q (by omega) (by omega) hq
    refine Tq.ck (hin (by omega) (by omega)) ?_
    refine Tq.br (fun _ => ?_) (fun _ => ?_)
    · -- feed
      exact Tq.ck i1 (Tq.ck i2 (Tq.ck i3 (Tq.ck k9 (lw_p (lw_w (b_feed h _ _)) hrec))))
    refine Tq.br (fun _ => ?_) (fun _ => ?_)
    · -- load
      exact Tq.ck k9 (lw_p (b_load h) hrec)
    refine Tq.br (fun _ => ?_) (fun _ => ?_)
    · -- price
      exact Tq.ck i1 (Tq.ck i2 (Tq.ck k9 (lw_p (lw_w (b_price h _ _)) hrec)))
    refine Tq.br (fun _ => ?_) (fun _ => ?_)
    · -- rewrite
      exact Tq.ck k9 (lw_p (lw_w (b_rewrite h)) hrec)
    refine Tq.br (fun _ => ?_) (fun _ => ?_)
    · -- told
      have go2 : ∀ (s0 : Int32) (q : hs_S), AM q → Tq (jL_law_277 xs L (fun y0 g => lL_law_18 xs L n 0 285 y0 g) 0 285 (nI k) s0 (xs (nI k + (1 : Int32)).toNatClampNeg) 285 q) (fun q => q.1 = 0) := by
        intro s0 q hq
        unfold jL_law_277
        exact Tq.ck i3 (Tq.ck (hq.1.1.1.k gk_285) (Tq.hbd (b_told hq _ _ _) fun r2 g2 h2 => hrec g2 h2))
      have go : ∀ s0 : Int32, Tq (jL_law_249 xs L (fun y0 g => lL_law_18 xs L n 0 285 y0 g) 0 285 (nI k) s0 (xs (nI k + (1 : Int32)).toNatClampNeg) 0 s) (fun q => q.1 = 0) := by
        intro s0
        unfold jL_law_249
        refine Tq.ck i3 (Tq.ck k9 (Tq.hbd (zfX11_told h.1.1.1 gk_0) fun r g1 h1 => Tq.ck i1 (Tq.ck i2 ?_)))
        have l1 : AM g1 := by
          have e : g1 = s := h1.1
          rw [e]; exact h
        exact Tq.br (fun _ => go2 0 g1 l1) (fun _ => go2 1 g1 l1)
      exact Tq.ck i1 (Tq.ck i2 (Tq.br (fun _ => go 0) (fun _ => go 1)))
    refine Tq.br (fun _ => ?_) (fun _ => ?_)
    · -- byteAt
      have go2 : ∀ (s0 : Int32) (q : hs_S), AM q → Tq (jL_law_336 xs L (fun y0 g => lL_law_18 xs L n 0 285 y0 g) 0 285 (nI k) s0 (xs (nI k + (1 : Int32)).toNatClampNeg) 285 q) (fun q => q.1 = 0) := by
        intro s0 q hq
        unfold jL_law_336
        exact Tq.ck i3 (Tq.ck (hq.1.1.1.k gk_285) (Tq.hbd (b_byteAt hq _ _ _) fun r2 g2 h2 => hrec g2 h2))
      have go : ∀ s0 : Int32, Tq (jL_law_308 xs L (fun y0 g => lL_law_18 xs L n 0 285 y0 g) 0 285 (nI k) s0 (xs (nI k + (1 : Int32)).toNatClampNeg) 0 s) (fun q => q.1 = 0) := by
        intro s0
        unfold jL_law_308
        refine Tq.ck i3 (Tq.ck k9 (Tq.hbd (zfX11_byteAt h.1.1.1 gk_0) fun r g1 h1 => Tq.ck i1 (Tq.ck i2 ?_)))
        have l1 : AM g1 := by
          have e : g1 = s := h1.1
          rw [e]; exact h
        exact Tq.br (fun _ => go2 0 g1 l1) (fun _ => go2 1 g1 l1)
      exact Tq.ck i1 (Tq.ck i2 (Tq.br (fun _ => go 0) (fun _ => go 1)))
    refine Tq.br (fun _ => ?_) (fun _ => ?_)
    · -- handler
      have go2 : ∀ (s0 : Int32) (q : hs_S), AM q → Tq (jL_law_400 xs L (fun y0 g => lL_law_18 xs L n 0 285 y0 g) 0 285 (nI k) s0 (xs (nI k + (1 : Int32)).toNatClampNeg) 285 q) (fun q => q.1 = 0) := by
        intro s0 q hq
        unfold jL_law_400
        exact Tq.ck i3 (Tq.ck i4 (Tq.ck (hq.1.1.1.k gk_285) (Tq.hbd (b_handler hq _ _ _ _) fun r2 g2 h2 => hrec g2 h2)))
      have go : ∀ s0 : Int32, Tq (jL_law_367 xs L (fun y0 g => lL_law_18 xs L n 0 285 y0 g) 0 285 (nI k) s0 (xs (nI k + (1 : Int32)).toNatClampNeg) 0 s) (fun q => q.1 = 0) := by
        intro s0
        unfold jL_law_367
        refine Tq.ck i3 (Tq.ck i4 (Tq.ck k9 (Tq.hbd (zfX11_handler h.1.1.1 gk_0) fun r g1 h1 => Tq.ck i1 (Tq.ck i2 ?_))))
        have l1 : AM g1 := by
          have e : g1 = s := h1.1
          rw [e]; exact h
        exact Tq.br (fun _ => go2 0 g1 l1) (fun _ => go2 1 g1 l1)
      exact Tq.ck i1 (Tq.ck i2 (Tq.br (fun _ => go 0) (fun _ => go 1)))
    refine Tq.br (fun _ => ?_) (fun _ => ?_)
    · -- block
      exact Tq.ck i1 (Tq.ck i2 (Tq.ck i3 (Tq.ck k9 (lw_p (lw_ro h (zfX11_block h.1.1.1 gk_0) (b_block h _ _ _)) hrec))))
    refine Tq.br (fun _ => ?_) (fun _ => ?_)
    · -- run
      exact Tq.ck i1 (Tq.ck i2 (Tq.ck i3 (Tq.ck i4 (Tq.ck k9 (lw_p (lw_w (b_runC h _ _ _ _)) hrec)))))
    refine Tq.br (fun _ => ?_) (fun _ => ?_)
    · -- answer
      exact Tq.ck k9 (lw_p (lw_w (b_answerC h)) hrec)
    refine Tq.br (fun _ => ?_) (fun _ => ?_)
    · -- counted
      exact Tq.ck k9 (lw_p (lw_w (b_countedC h)) hrec)
    refine Tq.br (fun _ => ?_) (fun _ => ?_)
    · -- steps
      exact Tq.ck k9 (lw_p (lw_w (b_stepsC h)) hrec)
    refine Tq.br (fun _ => ?_) (fun _ => ?_)
    · -- element
      exact Tq.ck i1 (Tq.ck i2 (Tq.ck k9 (lw_c (b_elementC h _ _) hrec)))
    refine Tq.br (fun _ => ?_) (fun _ => ?_)
    · -- unwrite
      exact Tq.ck k9 (lw_p (lw_w (b_unwrite h)) hrec)
    refine Tq.br (fun _ => ?_) (fun _ => hrec s h)
    · -- clear
      exact Tq.ck k9 (Tq.hbv (b_clear h) fun g1 h1 => Tq.ck (h1.1.1.k gk_285) (Tq.hbv h1.2 fun g2 h2 => hrec g2 h2))
