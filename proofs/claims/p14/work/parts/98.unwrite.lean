/-- in the cells from o to o' stand the bytes of a method that is laid out without payments -/
def sg (cells : Nat → Int32) (o o' p l n h : Nat) (c R P : Nat → Nat) : Prop := ∃ (e : Nat → Nat) (far : Nat → Bool) (S : Nat → Nat), cl1 c e n (s_bl c n h R) ∧ s_Lo c (s_pl P c n (fun i => eK (e i)) false) n far S ∧ o' = o + 5 + S n + 7 * h ∧ S n ≤ 2000 ∧ cells o = nI p ∧ cells (o + 1) = nI l ∧ cells (o + 2) = nI (S n / 256 % 256) ∧ cells (o + 3) = nI (S n % 256) ∧
  (∀ j, s_B c j → j < n → ∀ x, x < s_ln c far j → cells (o + 4 + (S j + x)) = nI (s_em P c n (fun i => eK (e i)) false far S j x)) ∧ cells (o + 4 + S n) = nI h ∧ ∀ x, x < 7 * h → cells (o + 5 + S n + x) = nI (hb (fun i => if i % 4 = 3 then R i else S (R i)) x)
theorem sg.fr {cells cells' : Nat → Int32} {o o' p l n h N : Nat} {c R P : Nat → Nat} (hM : s_Mt n l N h c R) (x : sg cells o o' p l n h c R P) (he : ∀ i, i < o' → cells' i = cells i) : sg cells' o o' p l n h c R P := by
  obtain ⟨e, far, S, x1, x2, x3, x4, x5, x6, x7, x8, x9, x10, x11⟩ := x
  refine ⟨e, far, S, x1, x2, x3, x4, by rw [he _ (by omega)]; exact x5, by rw [he _ (by omega)]; exact x6, by rw [he _ (by omega)]; exact x7, by rw [he _ (by omega)]; exact x8, fun j j1 j2 z hz => ?_, by rw [he _ (by omega)]; exact x10, fun z hz => by rw [he _ (by omega)]; exact x11 z hz⟩
  have := x2.lt hM.2.2.2.2.1 j1 j2 (show z < s_pl P c n (fun i => eK (e i)) false j + s_ln c far j by omega)
  rw [he _ (by omega)]
  exact x9 j j1 j2 z hz
theorem sg.le {cells : Nat → Int32} {o o' p l n h N : Nat} {c R P : Nat → Nat} (hM : s_Mt n l N h c R) (x : sg cells o o' p l n h c R P) : o' ≤ o + 5 + n + 7 * h := by
  obtain ⟨e, far, S, x1, x2, x3, -⟩ := x
  obtain ⟨-, -, sh3⟩ := x2.short hM (fun k hk => by rw [← (x1 k hk).1]; omega) (s_pl_f P c n _)
  have hnB := s_chain_n hM.2.2.2.2.1 n 0 (by omega) (by omega) (s_B_0 c)
  have := sh3 n hnB (Nat.le_refl _)
  omega
theorem x_um {s : hs_S} {A B m t tu : Nat} {u P : Nat → Nat} (hA : isF A) (hB : isF B) (hAB : A ≠ B) (hac : s_AC u tu) (hP1 : ∀ k, k < 256 → P k ≤ 1000) (hm0 : m < u 0) (w : WT s) (hX : RX (hs_R s)) (r2 : hs_R s 0 2 = B + 1) (mvm : MV s A m u (s_off u m)) (hP : pP s P) (h3 : hs_I s B 3 = nI t) (hr : t + (5 + s_n u (s_off u m) + 7 * s_h u (s_off u m)) ≤ 6000) :
    Tq (fX11_unwriteMethod 0 (A + 6 + 2 * m) (B + 6 + 2 * m) s) (fun q => hs_R q = hs_R s ∧ WT q ∧ (∀ i, i ≠ 3 → hs_I q B i = hs_I s B i) ∧ (∀ i, i < t → hs_I q (B + 5) i = hs_I s (B + 5) i) ∧ (∀ b, b ≠ B → b ≠ B + 5 → b ≠ B + 6 + 2 * m → b ≠ B + 7 + 2 * m → (b < 95 ∨ 100 ≤ b) → hs_I q b = hs_I s b) ∧ ∃ t', hs_I q B 3 = nI t' ∧ sg (hs_I q (B + 5)) t t' (u (s_off u m)) (u (s_off u m + 1)) (s_n u (s_off u m)) (s_h u (s_off u m)) (s_c u (s_off u m)) (s_R u (s_off u m)) P) := by
  have hN8 := hac.2.2.1
  have M := hac.mt hm0
  obtain ⟨V1, V2, V3, -⟩ := hac.v.2.2 m hm0
  have V1 : u (s_off u m) ≤ 4 := V1
  have V3 : u (s_off u m + 1) ≤ 20 := V3
  have hA67 : A < 46 := by rcases hA with h | h | h <;> omega
  have hB67 : B < 46 := by rcases hB with h | h | h <;> omega
  have dAB : A + 22 ≤ B ∨ B + 22 ≤ A := by rcases hA with h | h | h <;> rcases hB with h' | h' | h' <;> omega
  obtain ⟨x0, xS, xD, xL, x91, x3, x4, x5, x6, -⟩ := id hX
  have gB : gm_n (B + 5) = 6000 := by rw [(sk hB.s).2.2.2.2.1, if_neg (by omega)]
  have r6' : hs_R s 0 6 - 1 = 95 := by rw [x6]
  have r6n : ¬ hs_R s 0 6 = 0 := by rw [x6]; decide
  have r4' : hs_R s 0 4 - 1 = 89 := by rw [x4]
  have r4n : ¬ hs_R s 0 4 = 0 := by rw [x4]; decide
  have r2' : hs_R s 0 2 - 1 = B := by rw [r2]; rfl
  have r2n : ¬ hs_R s 0 2 = 0 := by rw [r2]; omega
  obtain ⟨kA, kB⟩ := And.intro ((sk hA.s).2.2.2.2.2 m (by omega)) ((sk hB.s).2.2.2.2.2 m (by omega))
  have k1 := (sk hB.s).1
  unfold fX11_unwriteMethod
  obtain ⟨⟨r, q⟩, E, yf, e, far, S, v, hcl, h7, q1, L, C, pS, Lo, yP, yW⟩ := x_planM (pd := false) w hX hA hac hm0 mvm hP hP1
  have yf : yF s q := yf
  have q1 : r = nI (S (s_n u (s_off u m))) := q1
  have L : lyS q (A + 6 + 2 * m) (s_off u m + 4) (s_n u (s_off u m)) e P (s_c u (s_off u m)) far false := L
  have E' : fX5_plan 95 (A + 6 + 2 * m) 89 (0 : Int32) s = some (r, q) := E
  have pS : plS q (s_n u (s_off u m)) (s_c u (s_off u m)) S := pS
  have yW : wyS q (s_n u (s_off u m)) (s_c u (s_off u m)) (s_pl P (s_c u (s_off u m)) (s_n u (s_off u m)) (fun i => eK (e i)) false) S := yW
  have wq := L.1
  have Rq : hs_R q = hs_R s := yf.1
  have hpl := s_pl_f P (s_c u (s_off u m)) (s_n u (s_off u m)) (fun i => eK (e i))
  have hc256 : ∀ k, k < s_n u (s_off u m) → s_c u (s_off u m) k < 256 := fun k hk => by rw [← (hcl k hk).1]; omega
  obtain ⟨sh1, sh2, sh3⟩ := Lo.short M hc256 hpl
  have hnB := s_chain_n M.2.2.2.2.1 (s_n u (s_off u m)) 0 (by omega) (by omega) (s_B_0 _)
  have hSn := sh3 _ hnB (Nat.le_refl _)
  have hn := M.2.1
  have hh := M.2.2.2.1
  generalize hn' : S (s_n u (s_off u m)) = n' at hSn q1
  have o0 : awO q B t (B + 6 + 2 * m) := ⟨wq, hB.s, by rw [Rq]; exact xS B hB.s, by rw [yf.2 B (by omega)]; exact h3, kB.1⟩
  have i4 : hs_I q (A + 6 + 2 * m) 4 = nI (u (s_off u m)) := by rw [yf.2 _ (by omega)]; exact mvm.1
  have i5 : hs_I q (A + 6 + 2 * m) 5 = nI (u (s_off u m + 1)) := by rw [yf.2 _ (by omega)]; exact mvm.2.1
  have i6 : hs_I q (A + 6 + 2 * m) 6 = nI (s_h u (s_off u m)) := by rw [yf.2 _ (by omega)]; exact mvm.2.2.1
  obtain ⟨g1, E1, a1⟩ := x_app (x := nI (u (s_off u m))) (y := u (s_off u m)) o0 (by omega) (nI_255 (by omega))
  have o1 := a1.o o0
  have R1 : hs_R g1 = hs_R s := a1.1.trans Rq
  have m1 : hs_I g1 (A + 6 + 2 * m) = hs_I q (A + 6 + 2 * m) := a1.2.2.2.2.2.2.1 _ (by omega) (by omega) (by omega)
  obtain ⟨g2, E2, a2⟩ := x_app (x := nI (u (s_off u m + 1))) (y := u (s_off u m + 1)) o1 (by omega) (nI_255 (by omega))
  have o2 := a2.o o1
  have R2 : hs_R g2 = hs_R s := a2.1.trans R1
  obtain ⟨g3, E3, a3⟩ := x_app2 (x := nI n') (y := n' / 256 % 256) (z := n' % 256) o2 (by omega) (sh8 (by omega)) (pk_andN (by omega) 8 (by decide))
  have o3 := a3.o o2
  have R3 : hs_R g3 = hs_R s := a3.1.trans R2
  have aa := (a1.tr a2).tr a3
  have hrow : hs_R q (A + 6 + 2 * m) 0 - 1 = A + 5 := by rw [Rq, ((xS A hA.s).2.2.2.2 m (by omega)).2.1]; rfl
  have W0 : wiS q (A + 6 + 2 * m) (s_off u m + 4) (s_n u (s_off u m)) (u (s_off u m + 1)) (u 0) B t (B + 6 + 2 * m) e P (s_c u (s_off u m)) S far false := ⟨L, C, yW, yP, M.2.2.2.2.2.2, o0, by omega, by omega, by omega, by rw [hrow]; omega, by rw [hrow]; omega⟩
  have W3 := W0.aw aa
  have ab := aa.2.2.2.2.2.2.1
  have pS3 : plS g3 (s_n u (s_off u m)) (s_c u (s_off u m)) S := ⟨fun i i1 i2 => by rw [ab 97 (by omega) (by omega) (by omega)]; exact pS.1 i i1 i2, by rw [ab 97 (by omega) (by omega) (by omega)]; exact pS.2⟩
  obtain ⟨g4, E4, W4⟩ := x_write (tm := A + 7 + 2 * m) (tt := B + 7 + 2 * m) (h := s_h u (s_off u m)) (R := s_R u (s_off u m)) W3 pS3 (by rw [gB, hn']; omega) hh (by rw [ab _ (by omega) (by omega) (by omega)]; exact i6) (by rw [R3, ((xS A hA.s).2.2.2.2 m (by omega)).2.2]; omega) (by rw [R3, ((xS B hB.s).2.2.2.2 m (by omega)).2.2]; omega) kA.2.1 kA.2.2 ⟨kB.2.1, by omega, by omega⟩ kB.2.2 (by omega) (by omega) (by omega) (by omega) (fun z hz => by rw [ab _ (by omega) (by omega) (by omega), yf.2 _ (by omega)]; exact mvm.2.2.2.2.2.1 z hz) (fun z hz i hi => M.r3 hz hi)
  obtain ⟨b1, b2, b3, b4, b5, b6, b7, b8, b9, b10, b11, b12, b13, b14, b15, b16, b17⟩ := W4
  have R4 : hs_R g4 = hs_R s := b1.trans R3
  have o4 : awO g4 B (t + (1 + 1 + 2) + n') (B + 6 + 2 * m) := ⟨b2, hB.s, by rw [R4]; exact xS B hB.s, by rw [b5, hn'], kB.1⟩
  obtain ⟨g5, E5, a5⟩ := x_app (x := nI (s_h u (s_off u m))) (y := s_h u (s_off u m)) o4 (by omega) (nI_255 (by omega))
  have o5 := a5.o o4
  have R5 : hs_R g5 = hs_R s := a5.1.trans R4
  have tbl : ∀ i, i < 4 * s_h u (s_off u m) → hs_I g5 (B + 7 + 2 * m) i = nI ((fun i => if i % 4 = 3 then s_R u (s_off u m) i else S (s_R u (s_off u m) i)) i) ∧ (fun i => if i % 4 = 3 then s_R u (s_off u m) i else S (s_R u (s_off u m) i)) i < 65536 ∧ (i % 4 = 3 → (fun i => if i % 4 = 3 then s_R u (s_off u m) i else S (s_R u (s_off u m) i)) i < 256) := by
    intro i hi
    obtain ⟨z1, z2⟩ := b17 (i / 4) (by omega)
    have hk := (M.2.2.2.2.2.1 (i / 4) (by omega)).2.2.2.2
    rw [a5.2.2.2.2.2.2.1 _ (by omega) (by omega) (by omega)]
    show hs_I g4 (B + 7 + 2 * m) i = nI (if i % 4 = 3 then s_R u (s_off u m) i else S (s_R u (s_off u m) i)) ∧ (if i % 4 = 3 then s_R u (s_off u m) i else S (s_R u (s_off u m) i)) < 65536 ∧ (i % 4 = 3 → (if i % 4 = 3 then s_R u (s_off u m) i else S (s_R u (s_off u m) i)) < 256)
    by_cases e3 : i % 4 = 3
    · rw [if_pos e3]
      have ei : 4 * (i / 4) + 3 = i := by omega
      rw [ei] at z2 hk
      exact ⟨z2, by omega, fun _ => by omega⟩
    · rw [if_neg e3]
      have z3 := z1 (i % 4) (by omega)
      obtain ⟨r1, r2⟩ := M.r3 (z := i / 4) (by omega) (show i % 4 < 3 by omega)
      have ei : 4 * (i / 4) + i % 4 = i := by omega
      rw [ei] at z3 r1 r2
      have := sh3 _ r2 r1
      exact ⟨z3, by omega, fun q => absurd q e3⟩
  obtain ⟨g6, E6, a6⟩ := x_uw71 (B := B) (T := B + 6 + 2 * m) (tt := B + 7 + 2 * m) (V := fun i => if i % 4 = 3 then s_R u (s_off u m) i else S (s_R u (s_off u m) i)) hh kB.2.1 kB.2.2 (by omega) (by omega) (by omega) (by omega) (by omega) (s_h u (s_off u m)) 0 hs_N _ g5 (by omega) (by unfold hs_N; omega) o5 (by rw [R5]; exact r2) (by rw [R5, ((xS B hB.s).2.2.2.2 m (by omega)).2.2]; omega) (by rw [a5.2.2.2.2.2.2.2.1 6 (by decide) (by decide)]; exact b12) tbl (by rw [gB]; omega)
  have E6' : lX11_unwriteMethod_71 hs_N 0 (B + 6 + 2 * m) (0 : Int32) g5 = some g6 := E6
  have w1 := o1.1
  have w2 := o2.1
  have w3 := o3.1
  rw [if_pos (w.k gk_0), if_pos r6n, if_pos r4n, r6', if_pos (w.k gk_95.1), r4', E', hs_bd_s, q1, if_pos (wq.k gk_0), Rq, if_pos r2n, if_pos (wq.k kA.1), r2', if_pos (wq.k k1), i4, E1, hs_bv_e, if_pos (w1.k gk_0), R1, if_pos r2n, if_pos (w1.k kA.1), r2', if_pos (w1.k k1), m1, i5, E2, hs_bv_e, if_pos (w2.k gk_0), R2, if_pos r2n, r2', if_pos (w2.k k1), E3, hs_bv_e, if_pos (w3.k gk_0), R3, if_pos r6n, if_pos r2n, r6', if_pos (w3.k gk_95.1), r2', E4, hs_bv_e, if_pos (b2.k gk_0), R4, if_pos r2n, if_pos (b2.k kB.1), r2', if_pos (b2.k k1), b12, E5, hs_bv_e, E6', hs_bv_e]
  have fa := a5.tr a6
  refine Tq.some ⟨a6.1.trans R5, a6.2.1, fun i hi => ?_, fun i hi => ?_, fun b y1 y2 y3 y4 y5 => ?_, t + (1 + 1 + 2) + n' + (1 + 7 * s_h u (s_off u m)), fa.2.2.1, e, far, S, hcl, Lo, by rw [hn']; omega, by rw [hn']; omega, ?_, ?_, ?_, ?_, fun j j1 j2 x hx => ?_, ?_, fun x hx => ?_⟩
  · rw [fa.2.2.2.1 i hi, b4 i hi, aa.2.2.2.1 i hi, yf.2 B (by omega)]
  · rw [fa.2.2.2.2.2.1 i (by omega), b6 i (by omega), aa.2.2.2.2.2.1 i (by omega), yf.2 (B + 5) (by omega)]
  · rw [fa.2.2.2.2.2.2.1 b y1 y2 y3, b3 b y1 y2 y3 y4 y5, ab b y1 y2 y3, yf.2 b y5]
  · rw [fa.2.2.2.2.2.1 _ (by omega), b6 _ (by omega)]
    exact aa.2.2.2.2.1 0 (by omega)
  · rw [fa.2.2.2.2.2.1 _ (by omega), b6 _ (by omega)]
    exact aa.2.2.2.2.1 1 (by omega)
  · rw [fa.2.2.2.2.2.1 _ (by omega), b6 _ (by omega), hn']
    exact aa.2.2.2.2.1 2 (by omega)
  · rw [fa.2.2.2.2.2.1 _ (by omega), b6 _ (by omega), hn']
    exact aa.2.2.2.2.1 3 (by omega)
  · have lt := Lo.lt M.2.2.2.2.1 j1 j2 (show x < s_pl P (s_c u (s_off u m)) (s_n u (s_off u m)) (fun i => eK (e i)) false j + s_ln (s_c u (s_off u m)) far j by omega)
    rw [fa.2.2.2.2.2.1 _ (by omega)]
    exact b7 j j1 j2 x (by omega)
  · have := fa.2.2.2.2.1 0 (by omega)
    rw [hn', show t + 4 + n' = t + (1 + 1 + 2) + n' + 0 by omega]
    exact this
  · have := fa.2.2.2.2.1 (1 + x) (by omega)
    rw [hn', show t + 5 + n' + x = t + (1 + 1 + 2) + n' + (1 + x) by omega, this]
    show nI (if 1 + x < 1 then s_h u (s_off u m) else hb (fun i => if i % 4 = 3 then s_R u (s_off u m) i else S (s_R u (s_off u m) i)) (7 * 0 + (1 + x - 1))) = _
    rw [if_neg (by omega), show 7 * 0 + (1 + x - 1) = x by omega]
