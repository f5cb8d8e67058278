theorem x_empty0 {s : hs_S} {A : Nat} (w : WT s) (hA : isS A) : ∃ q, fX0_empty A s = some q ∧ WT q ∧ hs_R q = hs_R s ∧ hs_I q A 3 = 0 ∧ hs_I q A 4 = 0 ∧ ∀ b, b ≠ A → hs_I q b = hs_I s b := by
  have k1 := (sk hA).1
  unfold fX0_empty
  rw [if_pos (w.k k1)]
  refine ⟨_, rfl, (w.w (oW.s (b := false) k1 ⟨by decide, by decide⟩)).w (oW.n (s := 0) (b := false) k1 (by decide)), rfl, ?_, hs_I_eq _ _ _ _, fun b hb => funext fun i => ?_⟩
  · rw [hs_I_ne (by decide), hs_I_eq]
  · rw [hs_I_w, if_neg hb, hs_I_w, if_neg hb]
theorem hs_bv_e {β : Type} (g : hs_S) (f : hs_S → Option β) : hs_bv (some g) f = f g := rfl
theorem hs_b3_s {α0 α1 γ : Type} (a0 : α0) (a1 : α1) (g : hs_S) (f : α0 → α1 → hs_S → Option γ) : hs_b3 (some (a0, a1, g)) f = f a0 a1 g := rfl
/-- rewrite(): there is a FILE -/
theorem x_rewrite {s : hs_S} {A t : Nat} {u P : Nat → Nat} (hA : isF A) (hac : s_AC u t) (hP1 : ∀ k, k < 256 → P k ≤ 1000) (w : WT s) (hX : RX (hs_R s)) (r1 : hs_R s 0 1 = A + 1) (hF : cF s A u) (hP : pP s P) :
    Tq (fX11_rewrite 0 s) (fun q => WT q.2 ∧ rwF s q.2 ∧ RA P u q.1 ∧ ((hs_I q.2 67 4 = nI (u 0) ∧ ∀ z, z < u 0 → ∃ a k, wMu q.2 z a k u P ∧ k ≤ 4000 ∧ a + k ≤ 32000) ∨ (hs_I q.2 67 4 = 0 ∧ ∃ m k, m < u 0 ∧ LoN P u true m k ∧ 4000 < k))) := by
  have hN8 := hac.2.2.1
  have hN1 := hac.2.1
  have hA67 : A < 46 := by rcases hA with h | h | h <;> omega
  have r1' : hs_R s 0 1 - 1 = A := by rw [r1]; rfl
  have r1n : ¬ hs_R s 0 1 = 0 := by rw [r1]; omega
  have x3 := hX.2.2.2.2.2.1
  have r3' : hs_R s 0 3 - 1 = 67 := by rw [x3]
  have r3n : ¬ hs_R s 0 3 = 0 := by rw [x3]; decide
  have c0 : ¬ nI (u 0) = (0 : Int32) := fun z => absurd ((eqi (b := 0) (by omega) (by decide)).mp z) (by omega)
  unfold fX11_rewrite
  obtain ⟨g6, E6, w6, R6, i3, i4, b6⟩ := x_empty0 w isS_67
  rw [if_pos (w.k gk_0), if_pos r1n, r1', if_pos (w.k (sk hA.s).1), hF.1, if_neg c0, if_pos r3n, r3', if_pos (w.k (sk isS_67).1), E6, hs_bv_e]
  have f6 : rwF s g6 := ⟨R6, fun b hb => b6 b (by omega)⟩
  obtain ⟨⟨k, x, g⟩, E, wg, fg, i4g, alt⟩ := x_rw22 hA hac hP1 (u 0) 0 hs_N 0 g6 (by omega) (by unfold hs_N; omega) w6 (by rw [R6]; exact hX) (by rw [R6]; exact r1) (hF.fr hA.s hN8 (hX.2.1 A hA.s) R6 (fun b h1 h2 => b6 b (by omega))) (fun k hk => by rw [b6 90 (by omega)]; exact hP k hk) i3 (by omega) (fun z hz => absurd hz (Nat.not_lt_zero _))
  have E' : lX11_rewrite_22 hs_N 0 (0 : Int32) g6 = some (k, x, g) := E
  have wg : WT g := wg
  have fg : rwF g6 g := fg
  have i4g : hs_I g 67 4 = hs_I g6 67 4 := i4g
  have fs := f6.tr fg
  rw [E', hs_b3_s]
  rcases alt with ⟨k0, all⟩ | ⟨k1, m, xm, hm0, hz, k', lo, hk⟩
  · have k0 : k = 0 := k0
    have all : ∀ z, z < u 0 → ∃ a k, wMu g z a k u P ∧ k ≤ 4000 ∧ a + k ≤ 32000 := all
    have Rg : hs_R g = hs_R s := fs.1
    have n4 : hs_I g A 4 = nI (u 0) := by rw [fs.2 A (by omega)]; exact hF.1
    rw [if_pos k0, if_pos (wg.k gk_0), Rg, if_pos r3n, if_pos r1n, r1', if_pos (wg.k (sk hA.s).1), r3', if_pos (wg.k (sk isS_67).1), n4]
    have w2 : WT (hs_wI g 67 4 (nI (u 0))) := wg.w (oW.n (s := 0) (b := false) (sk isS_67).1 (by decide))
    have f2 : rwF s (hs_wI g 67 4 (nI (u 0))) := fs.tr ⟨rfl, fun b hb => funext fun i => by rw [hs_I_w, if_neg (by omega)]⟩
    have j4 : hs_I (hs_wI g 67 4 (nI (u 0))) 67 4 = nI (u 0) := hs_I_eq _ _ _ _
    have jb : ∀ b, b ≠ 67 → hs_I (hs_wI g 67 4 (nI (u 0))) b = hs_I g b := fun b hb => funext fun i => by rw [hs_I_w, if_neg hb]
    generalize hs_wI g 67 4 (nI (u 0)) = g2 at w2 f2 j4 jb
    have all2 : ∀ z, z < u 0 → ∃ a k, wMu g2 z a k u P ∧ k ≤ 4000 ∧ a + k ≤ 32000 := fun z hz => by
      obtain ⟨a, k, y1, y2, y3⟩ := all z hz
      exact ⟨a, k, wM.fr y1 (hac.mt hz) (fun i _ => by rw [jb 72 (by decide)]) (jb _ (by omega)) (jb _ (by omega)), y2, y3⟩
    have ch : ∃ ks : Nat → Nat, ∀ z, z < u 0 → ∃ a, wMu g2 z a (ks z) u P ∧ ks z ≤ 4000 := by
      refine ⟨fun z => (hs_I g2 (73 + 2 * z) 3).toNatClampNeg, fun z hz => ?_⟩
      obtain ⟨a, k, y1, y2, y3⟩ := all2 z hz
      have e3 : hs_I g2 (73 + 2 * z) 3 = nI k := by
        obtain ⟨e, far, S, z1, z2, z3, z4, z5, z6, z7⟩ := y1
        exact z6
      have : (hs_I g2 (73 + 2 * z) 3).toNatClampNeg = k := by rw [e3, cl (by omega)]
      refine ⟨a, ?_⟩
      show wMu g2 z a (hs_I g2 (73 + 2 * z) 3).toNatClampNeg u P ∧ (hs_I g2 (73 + 2 * z) 3).toNatClampNeg ≤ 4000
      rw [this]
      exact ⟨y1, y2⟩
    obtain ⟨ks, hks⟩ := ch
    have R2 : hs_R g2 = hs_R s := f2.1
    rw [R2, if_pos r3n, r3', if_pos (w2.k (sk isS_67).1), x_codeBytes (k := ks) w2 isS_67 (by rw [R2]; exact hX.2.1 67 isS_67) hN8 j4 (fun j hj => by
      obtain ⟨a, ⟨e, far, S, z1, z2, z3, z4, z5, z6, z7⟩, -⟩ := hks j hj
      exact z6), hs_bd_s]
    refine Tq.some ⟨w2, f2, Or.inl ⟨ks, fun z hz => ?_, rfl⟩, Or.inl ⟨j4, all2⟩⟩
    obtain ⟨a, y1, y2⟩ := hks z hz
    exact ⟨y1.lo, y2⟩
  · have k1 : k = 1 := k1
    have xm : x = nI m := xm
    rw [if_neg (by rw [k1]; decide), xm]
    refine Tq.some ⟨wg, fs, Or.inr ⟨m, hm0, hz, ⟨k', lo, hk⟩, rfl⟩, Or.inr ⟨?_, m, k', hm0, lo, hk⟩⟩
    show hs_I g 67 4 = 0
    rw [i4g]; exact i4
