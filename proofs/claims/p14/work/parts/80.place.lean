/-- the deepest -/
def isDeep (c par : Nat → Nat) (h : Nat) (R : Nat → Nat) (D : Nat) : Prop := (∀ τ k d, s_Rc c par h R τ k d → d ≤ D) ∧ (D = 0 ∨ ∃ τ k, s_Rc c par h R τ k D)
theorem isDeep.eq {c par : Nat → Nat} {h D D' : Nat} {R : Nat → Nat} (x : isDeep c par h R D) (y : isDeep c par h R D') : D = D' := by
  have h1 : D ≤ D' := by
    rcases x.2 with e | ⟨τ, k, e⟩
    · omega
    · exact y.1 τ k D e
  have h2 : D' ≤ D := by
    rcases y.2 with e | ⟨τ, k, e⟩
    · omega
    · exact x.1 τ k D' e
  omega
theorem x_great {s : hs_S} (w : WT s) (hD : DR (hs_R s)) (hv : ∀ i, i < 2000 → s_dv (hs_I s 93 i)) : ∀ (d k f mx : Nat), k + d = 2000 → d < f → mx ≤ 20 → Tq (lX1_greatest_4 f 92 (nI mx) (nI k) s) (fun q => q.2 = s ∧ ∃ mx', q.1 = nI mx' ∧ mx' ≤ 20 ∧ mx ≤ mx' ∧ (∀ i e, k ≤ i → i < 2000 → e ≤ 20 → hs_I s 93 i = nI e → e ≤ mx') ∧ (mx' = mx ∨ ∃ i, i < 2000 ∧ hs_I s 93 i = nI mx'))
  | d, k, 0, mx, _, hf, _ => absurd hf (Nat.not_lt_zero _)
  | 0, k, f + 1, mx, hk, _, hm => by
    have u : (2000 : Int32) ≤ nI k := (lei (a := 2000) (by decide) (by omega)).mpr (by omega)
    rw [lX1_greatest_4, if_pos u]
    exact Tq.some ⟨rfl, mx, rfl, hm, Nat.le_refl _, fun i e h1 h2 => absurd h2 (by omega), Or.inl rfl⟩
  | d + 1, k, f + 1, mx, hk, hf, hm => by
    have u : ¬ (2000 : Int32) ≤ nI k := fun q => absurd ((lei (a := 2000) (by decide) (by omega)).mp q) (by omega)
    have r0 : hs_R s 92 0 - 1 = 93 := by rw [hD.1]
    have r0n : ¬ hs_R s 92 0 = 0 := by rw [hD.1]; decide
    rw [lX1_greatest_4, if_neg u, if_pos (w.k gk_92), if_pos r0n, r0, yf_at w gk_93.1 (by rw [gk_93.2.1]; omega), hs_bd_s, nI_1]
    rcases hv k (by omega) with e | ⟨x, hx, e⟩
    · have z : ¬ nI mx < (-1 : Int32) := fun q => by
        have := lt_toInt q
        rw [nI_toInt (by omega), show (-1 : Int32).toInt = -1 by decide] at this
        omega
      rw [e, if_neg z]
      refine (x_great w hD hv d (k + 1) f mx (by omega) (by omega) hm).mono fun q hq => ?_
      obtain ⟨q1, mx', q2, q3, q4, q5, q6⟩ := hq
      refine ⟨q1, mx', q2, q3, q4, fun i y h1 h2 h3 h4 => ?_, q6⟩
      by_cases ei : i = k
      · rw [ei, e] at h4; exact absurd h4.symm (nI_m1 (by omega))
      · exact q5 i y (by omega) h2 h3 h4
    · rw [e]
      by_cases c : mx < x
      · rw [if_pos ((lti (by omega) (by omega)).mpr c)]
        refine (x_great w hD hv d (k + 1) f x (by omega) (by omega) hx).mono fun q hq => ?_
        obtain ⟨q1, mx', q2, q3, q4, q5, q6⟩ := hq
        refine ⟨q1, mx', q2, q3, by omega, fun i y h1 h2 h3 h4 => ?_, Or.inr (q6.elim (fun z => ⟨k, by omega, by rw [z]; exact e⟩) id)⟩
        by_cases ei : i = k
        · rw [ei, e] at h4
          have := (eqi (by omega) (by omega)).mp h4
          omega
        · exact q5 i y (by omega) h2 h3 h4
      · rw [if_neg (fun z => c ((lti (by omega) (by omega)).mp z))]
        refine (x_great w hD hv d (k + 1) f mx (by omega) (by omega) hm).mono fun q hq => ?_
        obtain ⟨q1, mx', q2, q3, q4, q5, q6⟩ := hq
        refine ⟨q1, mx', q2, q3, q4, fun i y h1 h2 h3 h4 => ?_, q6⟩
        by_cases ei : i = k
        · rw [ei, e] at h4
          have := (eqi (by omega) (by omega)).mp h4
          omega
        · exact q5 i y (by omega) h2 h3 h4
/-- of the method at M its deepest alone is written, and the check's rows -/
def eF (s q : hs_S) (M : Nat) : Prop := hs_R q = hs_R s ∧ (∀ b, b ≠ 92 → b ≠ 93 → b ≠ 94 → b ≠ M → hs_I q b = hs_I s b) ∧ ∀ i, i ≠ 10 → hs_I q M i = hs_I s M i
theorem M_ne {M : Nat} (k : gm_k M = 6) : M ≠ 92 ∧ M ≠ 93 ∧ M ≠ 94 := ⟨fun e => by rw [e, gk_92] at k; exact absurd k (by decide), fun e => by rw [e, gk_93.1] at k; exact absurd k (by decide), fun e => by rw [e, gk_93.2.2.1] at k; exact absurd k (by decide)⟩
/-- wrongPlace() -/
theorem x_place {s : hs_S} {A M tb a n l N h : Nat} {e c par R : Nat → Nat} (w : WT s) (hA : isS A) (hR : SF (hs_R s) A) (hD : DR (hs_R s)) (v : mv s M a n e) (hc : ∀ i, i < n → e i % 256 = c i) (hM : s_Mt n l N h c R) (hpar : ∀ o, o < N → hs_I s (A + 6 + 2 * o) 4 = nI (par o) ∧ par o ≤ 4) (hnone : hs_I s (A + 2) 4 = 0) (hrow : hs_R s M 0 - 1 < 92) (kt : gm_k tb = 100) (nt : gm_n tb = 32) (ht3 : tb < 92) (hR1 : hs_R s M 1 = tb + 1) (h6 : hs_I s M 6 = nI h) (ht : ∀ i, i < 4 * h → hs_I s tb i = nI (R i)) :
    Tq (fX1_wrongPlace 92 A M s) (fun q => (s_DOK c par n h R ∧ q.1 = -1 ∧ WT q.2 ∧ eF s q.2 M ∧ ∃ D, isDeep c par h R D ∧ hs_I q.2 M 10 = nI D) ∨ (¬ s_DOK c par n h R ∧ ∃ x, x ≤ 2000 ∧ q.1 = nI x)) := by
  obtain ⟨n1, n2, hN, hh, hch, hhk, hjk⟩ := id hM
  have hA92 : A < 68 := by rcases hA with q | q | q | q <;> omega
  have r0 : hs_R s 92 0 - 1 = 93 := by rw [hD.1]
  have r0n : ¬ hs_R s 92 0 = 0 := by rw [hD.1]; decide
  have r1 : hs_R s 92 1 - 1 = 94 := by rw [hD.2]
  have r1n : ¬ hs_R s 92 1 = 0 := by rw [hD.2]; decide
  obtain ⟨mn1, mn2, mn3⟩ := M_ne v.1
  unfold fX1_wrongPlace
  rw [if_pos (w.k gk_92), if_pos r0n, r0]
  obtain ⟨s3, E3, ⟨w3, R3, b3⟩, p3⟩ := yf_fill (v1 := -1) gk_93.1 gk_93.2.1 w
  rw [E3]
  show Tq (if hs_kd s3 92 = 1 then _ else none) _
  rw [if_pos (w3.k gk_92), if_pos (by rw [R3]; exact r1n), show hs_R s3 92 1 - 1 = 94 by rw [R3]; exact r1]
  obtain ⟨s8, E8, ⟨w8, R8, b8⟩, p8⟩ := yf_fill (v1 := 0) gk_93.2.2.1 gk_93.2.2.2 w3
  rw [E8]
  show Tq (if hs_kd s8 92 = 1 then _ else none) _
  have w9 : WT (hs_wI s8 92 2 0) := w8.w (dg_o (s := 0) (b := false) (by omega))
  have R9 : hs_R (hs_wI s8 92 2 0) = hs_R s := R8.trans R3
  have e0 : (0 : Int32) = nI 0 := rfl
  have E9 : fX9_put 93 (0 : Int32) (0 : Int32) (hs_wI s8 92 2 0) = some (hs_wI (hs_wI s8 92 2 0) 93 0 0) := yf_put (k := 0) w9 gk_93.1 (by rw [gk_93.2.1]; decide)
  rw [if_pos (w8.k gk_92), if_pos (by rw [R9]; exact r0n), show hs_R (hs_wI s8 92 2 0) 92 0 - 1 = 93 by rw [R9]; exact r0, E9]
  have w10 : WT (hs_wI (hs_wI s8 92 2 0) 93 0 0) := w9.w (dg_o (s := 0) (b := false) (by omega))
  have f10 : dF s (hs_wI (hs_wI s8 92 2 0) 93 0 0) := by
    refine ⟨R9, fun b h1 h2 h3 => ?_⟩
    funext i
    rw [hs_I_w, if_neg h2, hs_I_w, if_neg h1, b8 b h3, b3 b h2]
  have D10 : ∀ i, i < 2000 → hs_I (hs_wI (hs_wI s8 92 2 0) 93 0 0) 93 i = if i = 0 then 0 else -1 := fun i hi => by
    rw [hs_I_w, if_pos rfl]
    by_cases q : i = 0
    · rw [if_pos q, if_pos q]
    · rw [if_neg q, if_neg q, hs_I_w, if_neg (by decide), b8 93 (by decide)]; exact p3 i hi
  have G10 : ∀ i, i < 2000 → hs_I (hs_wI (hs_wI s8 92 2 0) 93 0 0) 94 i = 0 := fun i hi => by
    rw [hs_I_w, if_neg (by decide), hs_I_w, if_neg (by decide)]; exact p8 i hi
  have L10 : hs_I (hs_wI (hs_wI s8 92 2 0) 93 0 0) 92 2 = nI 0 := by rw [hs_I_w, if_neg (by decide), hs_I_eq]; rfl
  generalize hs_wI (hs_wI s8 92 2 0) 93 0 0 = q1 at w10 f10 D10 G10 L10
  show Tq (hs_bd (lX1_wrongPlace_32 hs_N 92 A M (0 : Int32) q1) _) _
  have hat : ∀ z, z < h → R (4 * z + 2) < n := fun z hz => by have := (hhk z hz).2.1.2.1; omega
  rw [e0]
  obtain ⟨⟨t2, q2⟩, E2, hq2⟩ := x_p32 (v1 := A) v.1 kt nt ht3 hh hat n2 h 0 hs_N q1 (by omega) (by unfold hs_N; omega) w10 (by rw [f10.1]; exact hD) (by rw [f10.1]; exact hR1) (by rw [f10.2 M mn1 mn2 mn3]; exact h6) (fun i hi => by rw [f10.2 tb (by omega) (by omega) (by omega)]; exact ht i hi)
  rw [E2, hs_bd_s]
  rcases hq2 with ⟨t0, z, z1, z2⟩ | ⟨t0, w2, f2, l2, g2, nz, D2⟩
  · have t0' : t2 = 1 := t0
    rw [if_neg (by rw [t0']; decide)]
    exact Tq.some (Or.inr ⟨fun q => q.1 z z1 z2, 0, by omega, rfl⟩)
  have t0' : t2 = 0 := t0
  have w2 : WT q2 := w2
  have g2 : hs_I q2 94 = hs_I q1 94 := g2
  have l2 : hs_I q2 92 = hs_I q1 92 := l2
  have D2 : ∀ i, ((∃ z, 0 ≤ z ∧ z < h ∧ i = R (4 * z + 2)) → hs_I q2 93 i = nI 1) ∧ ((¬ ∃ z, 0 ≤ z ∧ z < h ∧ i = R (4 * z + 2)) → hs_I q2 93 i = hs_I q1 93 i) := D2
  have f2' : dF s q2 := f10.tr f2
  rw [if_pos t0']
  have no0 : ¬ ∃ z, 0 ≤ z ∧ z < h ∧ 0 = R (4 * z + 2) := fun ⟨z, _, z1, z2⟩ => nz z (Nat.zero_le z) z1 z2.symm
  have hI : cIv (hs_I q2 93) (hs_I q2 94) n h c par R := by
    refine ⟨fun i hi => ?_, fun i hi d hd hd1 => ?_, ?_, fun z hz => (D2 _).1 ⟨z, Nat.zero_le z, hz, rfl⟩, fun i hi hG => ?_⟩
    · by_cases y : ∃ z, 0 ≤ z ∧ z < h ∧ i = R (4 * z + 2)
      · rw [(D2 i).1 y]; exact Or.inr ⟨1, by omega, rfl⟩
      · rw [(D2 i).2 y, D10 i (by omega)]
        by_cases e : i = 0
        · rw [if_pos e]; exact Or.inr ⟨0, by omega, rfl⟩
        · rw [if_neg e]; exact Or.inl rfl
    · by_cases y : ∃ z, 0 ≤ z ∧ z < h ∧ i = R (4 * z + 2)
      · rw [(D2 i).1 y] at hd1
        have := (eqi (a := 1) (by omega) (by omega)).mp hd1
        subst this
        obtain ⟨z, -, z1, z2⟩ := y
        refine ⟨?_, 0, Or.inr ⟨z, z1, z2, rfl⟩⟩
        have := (hhk z z1).2.1.2.2
        rw [z2]; exact this
      · rw [(D2 i).2 y, D10 i (by omega)] at hd1
        by_cases e : i = 0
        · rw [if_pos e] at hd1
          have := (eqi (a := 0) (by omega) (by omega)).mp hd1
          subst this
          rw [e]
          exact ⟨s_B_0 c, 0, Or.inl ⟨rfl, rfl⟩⟩
        · rw [if_neg e] at hd1
          exact absurd hd1.symm (nI_m1 (by omega))
    · rw [(D2 0).2 no0, D10 0 (by omega), if_pos rfl]; rfl
    · rw [g2, G10 i (by omega)] at hG
      exact absurd rfl hG
  have hi2 : ∀ i, n ≤ i → i < 2000 → hs_I q2 93 i = -1 := fun i i1 i2 => by
    rw [(D2 i).2 (fun ⟨z, _, z1, z2⟩ => absurd (hat z z1) (by omega)), D10 i i2, if_neg (by omega)]
  have cn : s_cn (hs_I q2 94) 0 n = n := by
    rw [g2]
    have : ∀ m, m ≤ n → s_cn (hs_I q1 94) 0 m = m := by
      intro m
      induction m with
      | zero => intro _; rfl
      | succ m ih =>
        intro hm8
        show s_cn (hs_I q1 94) 0 m + (if hs_I q1 94 (0 + m) = 0 then 1 else 0) = m + 1
        rw [ih (by omega), Nat.zero_add, if_pos (G10 m (by omega))]
    exact this n (Nat.le_refl _)
  obtain ⟨⟨t3, x3, q3⟩, E3', w3', f3, hq3⟩ := x_p73 (par := par) hA hM hc (fun o ho => (hpar o ho).2) hs_N 0 0 q2 (by omega) (by unfold hs_N; omega) w2 (by rw [f2'.1]; exact hR) (by rw [f2'.1]; exact hD) (v.df f2' hrow) (fun o ho => by rw [f2'.2 _ (by omega) (by omega) (by omega)]; exact (hpar o ho).1) (by rw [f2'.2 _ (by omega) (by omega) (by omega)]; exact hnone) (by rw [f2'.1]; exact hrow) hI hi2 (by rw [l2]; exact L10) (by omega) (fun i hi => absurd hi (Nat.not_lt_zero i)) (by omega)
  have f3' : dF s q3 := f2'.tr f3
  have w3'' : WT q3 := w3'
  rw [E3']
  show Tq (if t3 = 0 then _ else _) _
  rcases hq3 with ⟨t0, hI3, hcl, hhi⟩ | ⟨t0, x0, nd⟩
  rotate_left
  · have t0' : t3 = 1 := t0
    rw [if_neg (by rw [t0']; decide)]
    exact Tq.some (Or.inr ⟨nd, x0⟩)
  have t0' : t3 = 0 := t0
  have hI3 : cIv (hs_I q3 93) (hs_I q3 94) n h c par R := hI3
  have hhi : ∀ i, n ≤ i → i < 2000 → hs_I q3 93 i = -1 := hhi
  have cc := c_closed hM hI3 hcl
  have hdok : s_DOK c par n h R := ⟨fun z hz => nz z (Nat.zero_le z) hz, fun τ k d x => (cc τ k d x).2.2.2.2, fun τ k d τ' d' x y => by
    have a1 := cc τ k d x
    have a2 := cc τ' k d' y
    exact (eqi (by omega) (by omega)).mp (a1.2.2.2.1.symm.trans a2.2.2.2.1)⟩
  rw [if_pos t0']
  unfold jX1_wrongPlace_119 fX1_greatest
  have hdv : ∀ i, i < 2000 → s_dv (hs_I q3 93 i) := fun i hi => by
    by_cases q : i < n
    · exact hI3.1 i q
    · exact Or.inl (hhi i (by omega) hi)
  obtain ⟨⟨r5, q5⟩, E5, e5, D, r5e, D20, -, Dm, Da⟩ := x_great w3'' (by rw [f3'.1]; exact hD) hdv 2000 0 hs_N 0 (by omega) (by unfold hs_N; omega) (by omega)
  have e5' : q5 = q3 := e5
  have r5e' : r5 = nI D := r5e
  have E5' : lX1_greatest_4 hs_N 92 (0 : Int32) (0 : Int32) q3 = some (r5, q5) := E5
  rw [if_pos (w3''.k gk_92), E5', hs_bd_s, hs_bd_s, e5', r5e', if_pos (w3''.k v.1)]
  refine Tq.some (Or.inl ⟨hdok, rfl, w3''.w (oW.m (s := 0) (b := false) v.1 (by decide)), ⟨f3'.1, fun b b1 b2 b3 b4 => ?_, fun i hi => ?_⟩, D, ⟨fun τ k d x => ?_, ?_⟩, hs_I_eq _ _ _ _⟩)
  · funext i
    show hs_I (hs_wI q3 M 10 (nI D)) b i = _
    rw [hs_I_w, if_neg b4, f3'.2 b b1 b2 b3]
  · show hs_I (hs_wI q3 M 10 (nI D)) M i = _
    rw [hs_I_ne hi, f3'.2 M mn1 mn2 mn3]
  · have a1 := cc τ k d x
    exact Dm k d (Nat.zero_le k) (by omega) a1.2.1 a1.2.2.2.1
  · rcases Da with q | ⟨i, i1, i2⟩
    · exact Or.inl q
    · by_cases q : i < n
      · exact Or.inr (by obtain ⟨-, τ, x⟩ := hI3.2.1 i q D D20 i2; exact ⟨τ, i, x⟩)
      · rw [hhi i (by omega) i1] at i2
        exact absurd i2.symm (nI_m1 (by omega))
