/-- what the building of the next FILE in the set at B leaves alone -/
def uF (s q : hs_S) (B : Nat) : Prop := hs_R q = hs_R s ∧ (∀ i, i ≠ 3 → hs_I q B i = hs_I s B i) ∧ ∀ b, b ≠ B → b ≠ B + 5 → (b < B + 6 ∨ B + 22 ≤ b) → (b < 95 ∨ 100 ≤ b) → hs_I q b = hs_I s b
theorem uF.tr {s q r : hs_S} {B : Nat} (h : uF s q B) (h' : uF q r B) : uF s r B := ⟨h'.1.trans h.1, fun i hi => (h'.2.1 i hi).trans (h.2.1 i hi), fun b x1 x2 x3 x4 => (h'.2.2 b x1 x2 x3 x4).trans (h.2.2 b x1 x2 x3 x4)⟩
theorem x_u36 {A B tu : Nat} {u P : Nat → Nat} (hA : isF A) (hB : isF B) (hAB : A ≠ B) (hac : s_AC u tu) (ht6 : tu ≤ 6000) (hP1 : ∀ k, k < 256 → P k ≤ 1000) : ∀ (d m f t : Nat) (s : hs_S) (tp : Nat → Nat), m + d = u 0 → d < f → WT s → RX (hs_R s) → hs_R s 0 1 = A + 1 → hs_R s 0 2 = B + 1 → cF s A u → pP s P → hs_I s B 3 = nI t → t ≤ s_off u m → tp 0 = 1 → tp m = t → (∀ z, z ≤ m → tp z ≤ t) → (∀ z, z < m → sg (hs_I s (B + 5)) (tp z) (tp (z + 1)) (u (s_off u z)) (u (s_off u z + 1)) (s_n u (s_off u z)) (s_h u (s_off u z)) (s_c u (s_off u z)) (s_R u (s_off u z)) P) →
    Tq (lX11_unwrite_36 f 0 (nI m) s) (fun q => WT q ∧ uF s q B ∧ (∀ i, i < t → hs_I q (B + 5) i = hs_I s (B + 5) i) ∧ ∃ tp' : Nat → Nat, tp' 0 = 1 ∧ hs_I q B 3 = nI (tp' (u 0)) ∧ tp' (u 0) ≤ 6000 ∧ (∀ z, z ≤ u 0 → tp' z ≤ tp' (u 0)) ∧ ∀ z, z < u 0 → sg (hs_I q (B + 5)) (tp' z) (tp' (z + 1)) (u (s_off u z)) (u (s_off u z + 1)) (s_n u (s_off u z)) (s_h u (s_off u z)) (s_c u (s_off u z)) (s_R u (s_off u z)) P)
  | d, m, 0, t, s, tp, _, hf, _, _, _, _, _, _, _, _, _, _, _, _ => absurd hf (Nat.not_lt_zero _)
  | 0, m, f + 1, t, s, tp, hm0, _, w, hX, r1, r2, hF, hP, h3, ht, t0, tm, tle, hS => by
    have hN8 := hac.2.2.1
    have em : m = u 0 := by omega
    have hoff := hac.2.2.2.2.1
    have r1' : hs_R s 0 1 - 1 = A := by rw [r1]; rfl
    have r1n : ¬ hs_R s 0 1 = 0 := by rw [r1]; omega
    rw [lX11_unwrite_36, if_pos (w.k gk_0), if_pos r1n, r1', if_pos (w.k (sk hA.s).1), hF.1, if_pos ((lei (by omega) (by omega)).mpr (by omega))]
    rw [em] at tm ht
    exact Tq.some ⟨w, ⟨rfl, fun _ _ => rfl, fun _ _ _ _ _ => rfl⟩, fun _ _ => rfl, tp, t0, by rw [tm]; exact h3, by rw [tm]; omega, fun z hz => by rw [tm]; exact tle z (by omega), fun z hz => hS z (by omega)⟩
  | d + 1, m, f + 1, t, s, tp, hm0, hf, w, hX, r1, r2, hF, hP, h3, ht, t0, tm, tle, hS => by
    have hN8 := hac.2.2.1
    have hmN : m < u 0 := by omega
    have hA67 : A < 46 := by rcases hA with h | h | h <;> omega
    have hB67 : B < 46 := by rcases hB with h | h | h <;> omega
    have dAB : A + 22 ≤ B ∨ B + 22 ≤ A := by rcases hA with h | h | h <;> rcases hB with h' | h' | h' <;> omega
    have M := hac.mt hmN
    have r1' : hs_R s 0 1 - 1 = A := by rw [r1]; rfl
    have r1n : ¬ hs_R s 0 1 = 0 := by rw [r1]; omega
    have r2' : hs_R s 0 2 - 1 = B := by rw [r2]; rfl
    have r2n : ¬ hs_R s 0 2 = 0 := by rw [r2]; omega
    have xS := hX.2.1
    have hle : s_off u (m + 1) ≤ tu := hac.2.2.2.2.1 ▸ s_off_le u (show m + 1 ≤ u 0 by omega)
    have hoe : s_off u (m + 1) = s_off u m + 5 + s_n u (s_off u m) + 7 * s_h u (s_off u m) := rfl
    rw [lX11_unwrite_36, if_pos (w.k gk_0), if_pos r1n, r1', if_pos (w.k (sk hA.s).1), hF.1, if_neg (fun z => absurd ((lei (by omega) (by omega)).mp z) (by omega)), x_mth w hA.s (xS A hA.s) (by omega), hs_bd_s, if_pos (w.k gk_0), if_pos r2n, r2', if_pos (w.k (sk hB.s).1), x_mth w hB.s (xS B hB.s) (by omega), hs_bd_s, if_pos (w.k gk_0)]
    obtain ⟨q, E, q1, q2, q3, q4, q5, t', q6, q7⟩ := x_um (t := t) hA hB hAB hac hP1 hmN w hX r2 (hF.2 m hmN).1 hP h3 (by omega)
    rw [E, hs_bv_e, nI_1]
    have le' := q7.le M
    have ge' : t ≤ t' := by
      obtain ⟨e, far, S, x1, x2, x3, -⟩ := q7
      omega
    have F1 : uF s q B := ⟨q1, q3, fun b y1 y2 y3 y4 => q5 b y1 y2 (by omega) (by omega) y4⟩
    refine (x_u36 hA hB hAB hac ht6 hP1 d (m + 1) f t' q (fun z => if z = m + 1 then t' else tp z) (by omega) (by omega) q2 (by rw [q1]; exact hX) (by rw [q1]; exact r1) (by rw [q1]; exact r2) (hF.fr hA.s hN8 (xS A hA.s) q1 (fun b h1 h2 => F1.2.2 b (by omega) (by omega) (by omega) (by omega))) (fun k hk => by rw [F1.2.2 90 (by omega) (by omega) (by omega) (by omega)]; exact hP k hk) q6 (by omega) (by show (if 0 = m + 1 then t' else tp 0) = 1; rw [if_neg (by omega)]; exact t0) (by show (if m + 1 = m + 1 then t' else tp (m + 1)) = t'; rw [if_pos rfl]) (fun z hz => ?_) (fun z hz => ?_)).mono fun z hz => ⟨hz.1, F1.tr hz.2.1, fun i hi => by rw [hz.2.2.1 i (by omega), q4 i hi], hz.2.2.2⟩
    · show (if z = m + 1 then t' else tp z) ≤ t'
      by_cases c : z = m + 1
      · rw [if_pos c]; exact Nat.le_refl _
      · rw [if_neg c]; exact Nat.le_trans (tle z (by omega)) ge'
    · show sg (hs_I q (B + 5)) (if z = m + 1 then t' else tp z) (if z + 1 = m + 1 then t' else tp (z + 1)) _ _ _ _ _ _ P
      rw [if_neg (by omega)]
      by_cases c : z = m
      · subst c
        rw [if_pos rfl, tm]
        exact q7
      · rw [if_neg (by omega)]
        exact (hS z (by omega)).fr (hac.mt (by omega)) (fun i hi => q4 i (Nat.lt_of_lt_of_le hi (tle (z + 1) (by omega))))
/-- unwrite(): there is something rewritten -/
theorem x_unwrite {s : hs_S} {A B tu : Nat} {u P : Nat → Nat} (hA : isF A) (hB : isF B) (hAB : A ≠ B) (hac : s_AC u tu) (ht6 : tu ≤ 6000) (hu : ∀ i, i < tu → u i < 256) (hP1 : ∀ k, k < 256 → P k ≤ 1000) (hJ : CJ s) (hX : RX (hs_R s)) (r1 : hs_R s 0 1 = A + 1) (r2 : hs_R s 0 2 = B + 1) (hF : cF s A u) (hP : pP s P) (h67 : ¬ hs_I s 67 4 = 0) (hno : hs_I s (B + 2) 4 = 0) :
    Tq (fX11_unwrite 0 s) (fun q => CJ q.2 ∧ (∃ u' : Nat → Nat, UU u u' P ∧ s_off u' (u' 0) ≤ 6000 ∧ (∀ i, i < s_off u' (u' 0) → u' i < 256) ∧ cF q.2 B u' ∧ q.1 = nI (s_to (fun z => s_n u' (s_off u' z)) (u 0))) ∧ hs_R q.2 0 1 = B + 1 ∧ hs_R q.2 0 2 = A + 1 ∧ (∀ j, j ≠ 1 → j ≠ 2 → hs_R q.2 0 j = hs_R s 0 j) ∧ (∀ a, a ≠ 0 → hs_R q.2 a = hs_R s a) ∧ ∀ b, (b < B ∨ b = B + 2 ∨ B + 22 ≤ b) → (b < 92 ∨ 100 ≤ b) → hs_I q.2 b = hs_I s b) := by
  have w := hJ.1
  have hN8 := hac.2.2.1
  have hN1 := hac.2.1
  have hA67 : A < 46 := by rcases hA with h | h | h <;> omega
  have hB67 : B < 46 := by rcases hB with h | h | h <;> omega
  have dAB : A + 22 ≤ B ∨ B + 22 ≤ A := by rcases hA with h | h | h <;> rcases hB with h' | h' | h' <;> omega
  obtain ⟨x0, xS, xD, xL, x91, x3, x4, x5, x6, -⟩ := id hX
  have r1' : hs_R s 0 1 - 1 = A := by rw [r1]; rfl
  have r1n : ¬ hs_R s 0 1 = 0 := by rw [r1]; omega
  have r2' : hs_R s 0 2 - 1 = B := by rw [r2]; rfl
  have r2n : ¬ hs_R s 0 2 = 0 := by rw [r2]; omega
  have r3' : hs_R s 0 3 - 1 = 67 := by rw [x3]
  have r3n : ¬ hs_R s 0 3 = 0 := by rw [x3]; decide
  have r5' : hs_R s 0 5 - 1 = 91 := by rw [x5]
  have r5n : ¬ hs_R s 0 5 = 0 := by rw [x5]; decide
  have kA := (sk hA.s).1
  have kB := (sk hB.s).1
  have gB : gm_n (B + 5) = 6000 := by rw [(sk hB.s).2.2.2.2.1, if_neg (by omega)]
  have kT := ((sk hB.s).2.2.2.2.2 0 (by decide)).1
  unfold fX11_unwrite
  obtain ⟨g6, E6, w6, R6, i3, i4, b6⟩ := x_empty0 w hB.s
  have n4 : hs_I g6 A 4 = nI (u 0) := by rw [b6 A (by omega)]; exact hF.1
  obtain ⟨g7, E7, a7⟩ := x_app (T := B + 6 + 2 * 0) (x := nI (u 0)) (y := u 0) (A := B) (t := 0) ⟨w6, hB.s, by rw [R6]; exact xS B hB.s, i3, kT⟩ (by omega) (nI_255 (by omega))
  have w7 := a7.2.1
  have R7 : hs_R g7 = hs_R s := a7.1.trans R6
  have b7 : ∀ b, b ≠ B → b ≠ B + 5 → b ≠ B + 6 → hs_I g7 b = hs_I s b := fun b y1 y2 y3 => by rw [a7.2.2.2.2.2.2.1 b y1 y2 y3, b6 b y1]
  rw [if_pos (w.k gk_0), if_pos r3n, r3', if_pos (w.k (sk isS_67).1), if_neg h67, if_pos r2n, r2', if_pos (w.k kB), E6, hs_bv_e, if_pos (w6.k gk_0), R6, if_pos r2n, if_pos r1n, r1', if_pos (w6.k kA), r2', if_pos (w6.k kB), n4, E7, hs_bv_e]
  have F7 : cF g7 A u := hF.fr hA.s hN8 (xS A hA.s) R7 (fun b h1 h2 => b7 b (by omega) (by omega) (by omega))
  obtain ⟨g8, E8, w8, f8, c8, tp, t0, t3, t6, tle, hS⟩ := x_u36 hA hB hAB hac ht6 hP1 (u 0) 0 hs_N 1 g7 (fun _ => 1) (by omega) (by unfold hs_N; omega) w7 (by rw [R7]; exact hX) (by rw [R7]; exact r1) (by rw [R7]; exact r2) F7 (fun k hk => by rw [b7 90 (by omega) (by omega) (by omega)]; exact hP k hk) a7.2.2.1 (Nat.le_refl _) rfl rfl (fun _ _ => Nat.le_refl _) (fun z hz => absurd hz (Nat.not_lt_zero _))
  have E8' : lX11_unwrite_36 hs_N 0 (0 : Int32) g7 = some g8 := E8
  have R8 : hs_R g8 = hs_R s := f8.1.trans R7
  have cell0 : hs_I g8 (B + 5) 0 = nI (u 0) := by
    rw [c8 0 (by omega)]
    exact a7.2.2.2.2.1 0 (by omega)
  -- the new bytes
  have hbyte : ∀ i, i < tp (u 0) → ∃ y, y < 256 ∧ hs_I g8 (B + 5) i = nI y := by
    have seg : ∀ m, m ≤ u 0 → ∀ i, i < tp m → ∃ y, y < 256 ∧ hs_I g8 (B + 5) i = nI y := by
      intro m
      induction m with
      | zero =>
        intro _ i hi
        rw [t0] at hi
        rw [show i = 0 by omega]
        exact ⟨u 0, by omega, cell0⟩
      | succ m ih =>
        intro hm0 i hi
        by_cases c : i < tp m
        · exact ih (by omega) i c
        · obtain ⟨V1, -, V3, -⟩ := hac.v.2.2 m (by omega)
          exact (hS m (by omega)).byte (hac.mt (by omega)) V1 V3 (by omega) hi
    exact seg (u 0) (Nat.le_refl _)
  obtain ⟨UUu, offs⟩ := UU.of (u' := fun i => (hs_I g8 (B + 5) i).toNatClampNeg) (P := P) (tp := tp) hac (fun i y hy e => by show (hs_I g8 (B + 5) i).toNatClampNeg = y; rw [e, cl (by omega)]) cell0 t0 hS
  have hu' : ∀ i, i < tp (u 0) → hs_I g8 (B + 5) i = nI ((fun i => (hs_I g8 (B + 5) i).toNatClampNeg) i) ∧ (fun i => (hs_I g8 (B + 5) i).toNatClampNeg) i < 256 := fun i hi => by
    obtain ⟨y, y1, y2⟩ := hbyte i hi
    show hs_I g8 (B + 5) i = nI (hs_I g8 (B + 5) i).toNatClampNeg ∧ (hs_I g8 (B + 5) i).toNatClampNeg < 256
    rw [y2, cl (by omega)]
    exact ⟨rfl, y1⟩
  generalize (fun i => (hs_I g8 (B + 5) i).toNatClampNeg) = u' at UUu offs hu'
  have ac' := UUu.ac hac hu
  have e0 : u' 0 = u 0 := UUu.1
  have toff : s_off u' (u' 0) = tp (u 0) := by rw [e0]; exact offs _ (Nat.le_refl _)
  rw [toff] at ac'
  have v8 : sv g8 B (tp (u 0)) u' := ⟨t3, by rw [gB]; exact t6, fun i hi => ⟨u' i, (hu' i hi).1, by have := (hu' i hi).2; omega, Nat.mod_eq_of_lt (hu' i hi).2⟩⟩
  have no8 : hs_I g8 (B + 2) 4 = 0 := by rw [f8.2.2 _ (by omega) (by omega) (by omega) (by omega), b7 _ (by omega) (by omega) (by omega)]; exact hno
  obtain ⟨⟨r, g9⟩, E9, w9, alt⟩ := x_first hB.s w8 (by rw [R8]; exact xS B hB.s) (by rw [R8]; exact xD) (by rw [R8]; exact x91) v8 (fun i hi => (hu' i hi).1) no8
  have w9 : WT g9 := w9
  rcases alt with ⟨-, -, R9, b9, -, j4, -, all9⟩ | ⟨-, nac⟩
  rotate_left
  · exact absurd ac' nac
  have R9 : hs_R g9 = hs_R g8 := R9
  have b9 : ∀ b, (b < B + 4 ∨ B + 22 ≤ b) → b ≠ B → b ≠ 92 → b ≠ 93 → b ≠ 94 → hs_I g9 b = hs_I g8 b := b9
  have j4 : hs_I g9 B 4 = nI (u' 0) := j4
  have all9 : ∀ j, j < u' 0 → MV g9 B j u' (s_off u' j) ∧ dep g9 B u' j := all9
  have Rg : hs_R g9 = hs_R s := R9.trans R8
  have fin : ∀ b, (b < B ∨ b = B + 2 ∨ B + 22 ≤ b) → (b < 92 ∨ 100 ≤ b) → hs_I g9 b = hs_I s b := fun b y1 y2 => by
    rw [b9 b (by omega) (by omega) (by omega) (by omega) (by omega), f8.2.2 b (by omega) (by omega) (by omega) (by omega), b7 b (by omega) (by omega) (by omega)]
  have cj9 : CJ g9 := ⟨w9, by rw [Rg]; exact hJ.2.1, by rw [Rg]; exact hJ.2.2⟩
  rw [E8', hs_bv_e, if_pos (w8.k gk_0), R8, if_pos r5n, if_pos r2n, r5', if_pos (w8.k gk_91), r2', E9, hs_bd_s, if_pos (w9.k gk_0), Rg, if_pos r1n, if_pos r2n, r2', r1']
  obtain ⟨cj, s1, s2, s3, s4⟩ := cj9.swap (i := 1) (j := 2) (by decide) (by decide) (by decide)
  rw [Rg] at cj s1 s2 s3 s4
  rw [r2', r1'] at cj s1 s2 s3 s4
  have I9 : ∀ b, hs_I (hs_wR (hs_wR g9 0 1 B) 0 2 A) b = hs_I g9 b := fun b => rfl
  generalize hs_wR (hs_wR g9 0 1 B) 0 2 A = g10 at cj s1 s2 s3 s4 I9
  have w10 := cj.1
  have hB0 : 0 < B := by rcases hB with h | h | h <;> omega
  have q1' : hs_R g10 0 1 - 1 = B := by rw [s2]; exact r2'
  have q1n : ¬ hs_R g10 0 1 = 0 := by rw [s2]; exact r2n
  have sfB : SF (hs_R g10) B := by
    have h := xS B hB.s
    unfold SF at h ⊢
    rw [s4 B (by omega), s4 (B + 1) (by omega), s4 (B + 2) (by omega)]
    refine ⟨h.1, h.2.1, h.2.2.1, h.2.2.2.1, fun j hj => ?_⟩
    rw [s4 (B + 6 + 2 * j) (by omega)]
    exact h.2.2.2.2 j hj
  have cf : cF g10 B u' := by
    refine ⟨by rw [I9]; exact j4, fun j hj => ?_⟩
    obtain ⟨m1, D, m2, m3⟩ := all9 j hj
    refine ⟨?_, D, m2, by rw [I9]; exact m3⟩
    obtain ⟨y1, y2, y3, y4, y5, y6, e, y7, y8, y9⟩ := m1
    have r0 : hs_R g10 (B + 6 + 2 * j) = hs_R g9 (B + 6 + 2 * j) := by rw [s4 _ (by omega), Rg]
    refine ⟨by rw [I9]; exact y1, by rw [I9]; exact y2, by rw [I9]; exact y3, by rw [I9]; exact y4, by rw [I9]; exact y5, fun i hi => by rw [I9]; exact y6 i hi, e, y7.fr (by rw [I9]) (by rw [I9]) (by rw [r0]) (fun k _ => by rw [I9]), y8, by rw [I9]; exact y9⟩
  rw [q1', if_pos q1n, if_pos (w10.k kB), x_codeBytes (k := fun z => s_n u' (s_off u' z)) (N := u 0) w10 hB.s sfB hN8 (by rw [I9, j4, e0]) (fun j hj => by
    obtain ⟨⟨y1, y2, y3, y4, y5, y6, e, y7, y8, y9⟩, -⟩ := cf.2 j (by rw [e0]; exact hj)
    exact y7.2.2.1), hs_bd_s]
  refine Tq.some ⟨cj, ⟨u', UUu, by rw [toff]; exact t6, fun i hi => (hu' i (by rw [← toff]; exact hi)).2, cf, rfl⟩, by rw [s2, r2], by rw [s3, r1], fun j j1 j2 => s1 j j1 j2, s4, fun b y1 y2 => by rw [I9]; exact fin b y1 y2⟩
