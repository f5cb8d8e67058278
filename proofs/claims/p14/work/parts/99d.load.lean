/-! FEED AND LOAD OF THE CLASS, EXACTLY -/
theorem sh_eq (x b : Int64) (b' : UInt64) (s : Nat) (hs : s ≤ 56) (h1 : (b.toBitVec.smod 64#64).toNat = s) (h2 : (b'.toBitVec % 64#64).toNat = s) : (x >>> b).toInt32 &&& (255 : Int32) = (x.toUInt64 >>> b').toInt64.toInt32 &&& (255 : Int32) := by
  apply Int32.toBitVec_inj.mp
  apply BitVec.eq_of_getLsbD_eq
  intro i hi
  have e255 : (255 : Int32).toBitVec = 255#32 := rfl
  have a1 : (x >>> b).toBitVec = x.toBitVec.sshiftRight s := by
    rw [← h1]; rfl
  have a2 : (x.toUInt64 >>> b').toBitVec = x.toBitVec >>> s := by
    rw [← h2]; rfl
  have l1 : ((x >>> b).toInt32 &&& (255 : Int32)).toBitVec = (x >>> b).toBitVec.signExtend 32 &&& 255#32 := rfl
  have l2 : ((x.toUInt64 >>> b').toInt64.toInt32 &&& (255 : Int32)).toBitVec = (x.toUInt64 >>> b').toBitVec.signExtend 32 &&& 255#32 := rfl
  rw [l1, l2, a1, a2, BitVec.getLsbD_and, BitVec.getLsbD_and]
  by_cases c : i < 8
  · congr 1
    rw [BitVec.getLsbD_signExtend, BitVec.getLsbD_signExtend, BitVec.getLsbD_sshiftRight, BitVec.getLsbD_ushiftRight]
    have c1 : ¬ 64 ≤ i := by omega
    have c2 : s + i < 64 := by omega
    have c3 : i < 64 := by omega
    simp [c1, c2, c3]
  · have e : (255#32).getLsbD i = false := by
      have : ∀ j, j < 32 → 8 ≤ j → (255#32).getLsbD j = false := by decide +kernel
      exact this i hi (by omega)
    rw [e, Bool.and_false, Bool.and_false]
theorem fd_eq (w : Int64) {k : Nat} (hk : k < 8) : ((w >>> (((8 : Int32) * nI k).toInt64 &&& 63)).toInt32) &&& (255 : Int32) = nI (s_by w k) := by
  rw [← (s_by_n w k).1]
  unfold s_bw
  refine sh_eq w _ _ (8 * k) (by omega) ?_ ?_
  · obtain e | e | e | e | e | e | e | e : k = 0 ∨ k = 1 ∨ k = 2 ∨ k = 3 ∨ k = 4 ∨ k = 5 ∨ k = 6 ∨ k = 7 := by omega
    all_goals
      subst e
      decide +kernel
  · obtain e | e | e | e | e | e | e | e : k = 0 ∨ k = 1 ∨ k = 2 ∨ k = 3 ∨ k = 4 ∨ k = 5 ∨ k = 6 ∨ k = 7 := by omega
    all_goals
      subst e
      decide +kernel
theorem x_feed37 {A : Nat} (hA : isF A) (w : Int64) : ∀ (r f t : Nat) (v4 : Int32) (s : hs_S), r < f → v4 + 1 = nI r → r ≤ 8 → awO s A t (A + 6) → hs_R s 0 0 = A + 1 → t + r ≤ 6000 → Tq (lX11_feed_37 f 0 w v4 s) (fun q => aw s q A t r (A + 6) 0 0 (fun i => s_by w (r - 1 - i)))
  | r, 0, t, v4, s, hf, _, _, _, _, _ => absurd hf (Nat.not_lt_zero _)
  | 0, f + 1, t, v4, s, _, hv, _, o, r0, _ => by
    have e : v4 = -1 := by
      have h1 : v4 + 1 - 1 = nI 0 - 1 := by rw [hv]
      rw [Int32.add_sub_cancel] at h1
      exact h1
    have u : v4 < 0 := by rw [e]; decide
    rw [lX11_feed_37, if_pos u]
    exact Tq.some ((aw.rf o).cg fun i hi => absurd hi (Nat.not_lt_zero _))
  | r + 1, f + 1, t, v4, s, hf, hv, hr, o, r0, ht => by
    have e : v4 = nI r := by
      have h1 : v4 + 1 - 1 = nI (r + 1) - 1 := by rw [hv]
      rw [Int32.add_sub_cancel, nI_pred] at h1
      exact h1
    have hA67 : A < 46 := by rcases hA with h | h | h <;> omega
    have u : ¬ v4 < 0 := by rw [e]; exact nI_pos (by omega)
    have gA : gm_n (A + 5) = 6000 := by rw [(sk hA.s).2.2.2.2.1, if_neg (by omega)]
    have r0' : hs_R s 0 0 - 1 = A := by rw [r0]; rfl
    have r0n : ¬ hs_R s 0 0 = 0 := by rw [r0]; omega
    obtain ⟨q1, E1, a1⟩ := x_app o (by omega) (fd_eq w (show r < 8 by omega))
    rw [lX11_feed_37, if_neg u, if_pos (o.1.k gk_0), if_pos r0n, r0', if_pos (o.1.k (sk hA.s).1), e, E1, hs_bv_e]
    refine (x_feed37 hA w r f (t + 1) (nI r + (-1 : Int32)) q1 (by omega) (by rw [Int32.add_assoc, show (-1 : Int32) + 1 = 0 by decide, Int32.add_zero]) (by omega) (a1.o o) (by rw [a1.1]; exact r0) (by omega)).mono fun q hq => ?_
    have tr := a1.tr hq
    rw [show 1 + r = r + 1 by omega] at tr
    refine tr.cg fun i hi => ?_
    show (if i < 1 then s_by w r else s_by w (r - 1 - (i - 1))) = s_by w (r + 1 - 1 - i)
    by_cases c : i < 1
    · rw [if_pos c, show r + 1 - 1 - i = r by omega]
    · rw [if_neg c, show r - 1 - (i - 1) = r + 1 - 1 - i by omega]
/-- feed() -/
theorem x_feed {A t : Nat} {s : hs_S} (hA : isF A) (w : Int64) (a : Int32) (o : awO s A t (A + 6)) (r0 : hs_R s 0 0 = A + 1) (ht6 : t ≤ 6000) : Tq (fX11_feed 0 w a s) (fun q => ((¬ ∃ r, 1 ≤ r ∧ r ≤ 8 ∧ a = nI r) ∧ q = (-3, s)) ∨ ∃ r, 1 ≤ r ∧ r ≤ 8 ∧ a = nI r ∧ ((6000 < t + r ∧ q = (-4, s)) ∨ (t + r ≤ 6000 ∧ q.1 = nI (t + r) ∧ aw s q.2 A t r (A + 6) 0 0 (fun i => s_by w (r - 1 - i))))) := by
  have w0 := o.1
  have r0' : hs_R s 0 0 - 1 = A := by rw [r0]; rfl
  have r0n : ¬ hs_R s 0 0 = 0 := by rw [r0]; omega
  unfold fX11_feed
  by_cases c1 : a < (1 : Int32)
  · rw [if_pos c1]
    refine Tq.some (Or.inl ⟨?_, rfl⟩)
    rintro ⟨r, r1, r2, rfl⟩
    exact absurd ((lti (b := 1) (by omega) (by decide)).mp c1) (by omega)
  rw [if_neg c1]
  have c0 : ¬ a < 0 := fun q => c1 (of_lt (by have := lt_toInt q; rw [ti_0] at this; rw [ti_1]; omega))
  obtain ⟨r, hr0, rfl⟩ := nI_of c0
  have r1 : 1 ≤ r := by
    by_cases e : 1 ≤ r
    · exact e
    · exact absurd ((lti (b := 1) (by omega) (by decide)).mpr (by omega)) c1
  by_cases c2 : nI r ≤ (8 : Int32)
  rotate_left
  · rw [if_neg c2]
    refine Tq.some (Or.inl ⟨?_, rfl⟩)
    rintro ⟨r', r1', r2', e⟩
    exact c2 (by rw [e]; exact (lei (b := 8) (by omega) (by decide)).mpr r2')
  have r2 := (lei (b := 8) (by omega) (by decide)).mp c2
  rw [if_pos c2, if_pos (w0.k gk_0), if_pos r0n, r0', if_pos (w0.k (sk hA.s).1), o.2.2.2.1, nI_add]
  by_cases c3 : t + r ≤ 6000
  · have u : nI (t + r) ≤ (6000 : Int32) := (lei (b := 6000) (by omega) (by decide)).mpr c3
    rw [if_pos u]
    obtain ⟨q, e, x⟩ := x_feed37 hA w r hs_N t (nI r - 1) s (by unfold hs_N; omega) (by rw [Int32.sub_add_cancel]) r2 o r0 c3
    have wq := x.2.1
    have Rq := x.1
    rw [e, hs_bv_e, if_pos (wq.k gk_0), Rq, if_pos r0n, r0', if_pos (wq.k (sk hA.s).1), x.2.2.1]
    exact Tq.some (Or.inr ⟨r, r1, r2, rfl, Or.inr ⟨c3, rfl, x⟩⟩)
  · have u : ¬ nI (t + r) ≤ (6000 : Int32) := fun q => c3 ((lei (b := 6000) (by omega) (by decide)).mp q)
    rw [if_neg u]
    exact Tq.some (Or.inr ⟨r, r1, r2, rfl, Or.inl ⟨by omega, rfl⟩⟩)
/-- load() -/
theorem x_load {s : hs_S} {A B t : Nat} {T : Nat → Nat} (hA : isF A) (hB : isF B) (hAB : A ≠ B) (hJ : CJ s) (hX : RX (hs_R s)) (r0 : hs_R s 0 0 = A + 1) (r1 : hs_R s 0 1 = B + 1) (h3 : hs_I s A 3 = nI t) (ht6 : t ≤ 6000) (hT : ∀ i, i < t → hs_I s (A + 5) i = nI (T i) ∧ T i < 256) (hno : hs_I s (A + 2) 4 = 0) :
    Tq (fX11_load 0 s) (fun q => CJ q.2 ∧ (∀ a, a ≠ 0 → hs_R q.2 a = hs_R s a) ∧ (∀ j, j ≠ 0 → j ≠ 1 → hs_R q.2 0 j = hs_R s 0 j) ∧ (∀ b, (b < A ∨ b = A + 2 ∨ A + 22 ≤ b) → b ≠ B → b ≠ 67 → (b < 91 ∨ 95 ≤ b) → hs_I q.2 b = hs_I s b) ∧
      ((s_AC T t ∧ q.1 = nI (T 0) ∧ hs_R q.2 0 0 = B + 1 ∧ hs_R q.2 0 1 = A + 1 ∧ cF q.2 A T ∧ hs_I q.2 67 4 = 0 ∧ hs_I q.2 B 3 = 0) ∨ (¬ s_AC T t ∧ hs_R q.2 0 0 = A + 1 ∧ hs_R q.2 0 1 = B + 1 ∧ hs_I q.2 A 3 = 0 ∧ hs_I q.2 B = hs_I s B ∧ hs_I q.2 67 = hs_I s 67))) := by
  have w := hJ.1
  have hA67 : 0 < A ∧ A < 46 := by rcases hA with h | h | h <;> omega
  have hB67 : 0 < B ∧ B < 46 := by rcases hB with h | h | h <;> omega
  have dAB : A + 22 ≤ B ∨ B + 22 ≤ A := by rcases hA with h | h | h <;> rcases hB with h' | h' | h' <;> omega
  obtain ⟨x0, xS, xD, xL, x91, x3, x4, x5, x6, -⟩ := id hX
  have r0' : hs_R s 0 0 - 1 = A := by rw [r0]; rfl
  have r0n : ¬ hs_R s 0 0 = 0 := by rw [r0]; omega
  have r1' : hs_R s 0 1 - 1 = B := by rw [r1]; rfl
  have r1n : ¬ hs_R s 0 1 = 0 := by rw [r1]; omega
  have r5' : hs_R s 0 5 - 1 = 91 := by rw [x5]
  have r5n : ¬ hs_R s 0 5 = 0 := by rw [x5]; decide
  have kA := (sk hA.s).1
  have kB := (sk hB.s).1
  have gA : gm_n (A + 5) = 6000 := by rw [(sk hA.s).2.2.2.2.1, if_neg (by omega)]
  have v : sv s A t T := ⟨h3, by omega, fun i hi => ⟨T i, (hT i hi).1, by have := (hT i hi).2; omega, Nat.mod_eq_of_lt (hT i hi).2⟩⟩
  have ro : RO s := ⟨w.2.2.2.1, x0⟩
  obtain ⟨⟨r, q⟩, E, wq, alt⟩ := x_first hA.s w (xS A hA.s) xD x91 v (fun i hi => (hT i hi).1) hno
  have wq : WT q := wq
  have kq := kfX2_firstWrong hA.s ro (xS A hA.s) x91 _ E
  have kR : hs_R q = hs_R s := kq.2
  have kb : ∀ b, (gm_k b = 6 ∨ gm_k b = 0) → (∀ j, j < 8 → b ≠ A + 6 + 2 * j) → ∀ i, (b = A → i ≠ 4) → hs_I q b i = hs_I s b i := kq.1
  have po := (pfX2_firstWrong (G := fun x => x = A ∨ x = 91) (v0 := 91) (v1 := A) ro gk_91 kA (by rw [show ow 91 = 91 from rfl]; exact Or.inr rfl) (by rcases hA with h | h | h <;> rw [h] <;> exact Or.inl rfl)) _ E
  have pb : ∀ b, ¬ (ow b = A ∨ ow b = 91) → hs_I q b = hs_I s b := po.1
  have fr : ∀ b, (b < A ∨ b = A + 2 ∨ A + 22 ≤ b) → (b < 91 ∨ 95 ≤ b) → hs_I q b = hs_I s b := by
    intro b y1 y2
    by_cases c : b = A + 2
    · rw [c]
      funext i
      exact kb _ (Or.inl (sk hA.s).2.2.1) (fun j hj => by omega) i (fun e => absurd e (by omega))
    · refine pb b ?_
      unfold ow
      rcases hA with h | h | h <;> subst h <;> (repeat' split) <;> omega
  have cjq : CJ q := ⟨wq, by rw [kR]; exact hJ.2.1, by rw [kR]; exact hJ.2.2⟩
  unfold fX11_load
  rw [if_pos (w.k gk_0), if_pos r5n, if_pos r0n, r5', if_pos (w.k gk_91), r0', E, hs_bd_s]
  rcases alt with ⟨e1, ac, -, b9, -, j4, -, all9⟩ | ⟨ne1, nac⟩
  · have e1 : r = -1 := e1
    have j4 : hs_I q A 4 = nI (T 0) := j4
    have all9 : ∀ j, j < T 0 → MV q A j T (s_off T j) ∧ dep q A T j := all9
    rw [if_pos e1, if_pos (wq.k gk_0), kR, if_pos r1n, if_pos r0n, r0', r1']
    obtain ⟨cj, s1, s2, s3, s4⟩ := cjq.swap (i := 1) (j := 0) (by decide) (by decide) (by decide)
    rw [kR] at cj s1 s2 s3 s4
    rw [r0', r1'] at cj s1 s2 s3 s4
    have I9 : ∀ b, hs_I (hs_wR (hs_wR q 0 1 A) 0 0 B) b = hs_I q b := fun b => rfl
    generalize hs_wR (hs_wR q 0 1 A) 0 0 B = g10 at cj s1 s2 s3 s4 I9
    have w10 := cj.1
    have q3 : hs_R g10 0 3 = 68 := by rw [s1 3 (by decide) (by decide)]; exact x3
    have q3' : hs_R g10 0 3 - 1 = 67 := by rw [q3]
    have q3n : ¬ hs_R g10 0 3 = 0 := by rw [q3]; decide
    obtain ⟨g11, E11, w11, R11, i3, i4, b11⟩ := x_empty0 w10 isS_67
    rw [if_pos q3n, q3', if_pos (w10.k (sk isS_67).1), E11, hs_bv_e]
    unfold jX11_load_42
    have q0' : hs_R g11 0 0 - 1 = B := by rw [R11, s3]; exact r1'
    have q0n : ¬ hs_R g11 0 0 = 0 := by rw [R11, s3]; exact r1n
    obtain ⟨g12, E12, w12, R12, m3, m4, b12⟩ := x_empty0 w11 hB.s
    have q1' : hs_R g12 0 1 - 1 = A := by rw [R12, R11, s2]; exact r0'
    have q1n : ¬ hs_R g12 0 1 = 0 := by rw [R12, R11, s2]; exact r0n
    have RR : hs_R g12 = hs_R g10 := R12.trans R11
    have bb : ∀ b, b ≠ B → b ≠ 67 → hs_I g12 b = hs_I q b := fun b y1 y2 => by rw [b12 b y1, b11 b y2, I9]
    have a4 : hs_I g12 A 4 = nI (T 0) := by rw [bb A (by omega) (by omega)]; exact j4
    rw [if_pos (w11.k gk_0), if_pos q0n, q0', if_pos (w11.k kB), E12, hs_bv_e, if_pos e1, if_pos (w12.k gk_0), if_pos q1n, q1', if_pos (w12.k kA), a4]
    refine Tq.some ⟨⟨w12, by rw [RR]; exact cj.2.1, by rw [RR]; exact cj.2.2⟩, fun a ha => by rw [RR]; exact s4 a ha, fun j j1 j2 => by rw [RR]; exact s1 j j2 j1, fun b y1 y2 y3 y4 => by rw [bb b y2 y3]; exact fr b y1 y4, Or.inl ⟨ac, rfl, by rw [RR, s3]; exact r1, by rw [RR, s2]; exact r0, ?_, by rw [b12 67 (by omega)]; exact i4, m3⟩⟩
    refine ⟨a4, fun j hj => ?_⟩
    have hN8 := ac.2.2.1
    obtain ⟨⟨y1, y2, y3, y4, y5, y6, e, y7, y8, y9⟩, D, m2, m3⟩ := all9 j hj
    have rr : hs_R g12 (A + 6 + 2 * j) = hs_R q (A + 6 + 2 * j) := by rw [RR, s4 _ (by omega), kR]
    have rw0 : hs_R q (A + 6 + 2 * j) 0 - 1 = A + 5 := by rw [kR, ((xS A hA.s).2.2.2.2 j (by omega)).2.1]; rfl
    have c1 := bb (A + 6 + 2 * j) (by omega) (by omega)
    have c2 := bb (A + 7 + 2 * j) (by omega) (by omega)
    have c3 := bb (A + 5) (by omega) (by omega)
    refine ⟨⟨by rw [c1]; exact y1, by rw [c1]; exact y2, by rw [c1]; exact y3, by rw [c1]; exact y4, by rw [c1]; exact y5, fun i hi => by rw [c2]; exact y6 i hi, e, y7.fr (by rw [c1]) (by rw [c1]) (by rw [rr]) (fun k _ => by rw [rw0, c3]), y8, by rw [c1]; exact y9⟩, D, m2, by rw [c1]; exact m3⟩
  · have ne1 : ¬ r = -1 := ne1
    rw [if_neg ne1]
    unfold jX11_load_42
    obtain ⟨g12, E12, w12, R12, m3, m4, b12⟩ := x_empty0 wq hA.s
    have RR : hs_R g12 = hs_R s := R12.trans kR
    rw [if_pos (wq.k gk_0), kR, if_pos r0n, r0', if_pos (wq.k kA), E12, hs_bv_e, if_neg ne1]
    have frB : ∀ b, (b < A ∨ b = A + 2 ∨ A + 22 ≤ b) → (b < 91 ∨ 95 ≤ b) → hs_I g12 b = hs_I s b := fun b y1 y2 => by rw [b12 b (by omega)]; exact fr b y1 y2
    exact Tq.some ⟨⟨w12, by rw [RR]; exact hJ.2.1, by rw [RR]; exact hJ.2.2⟩, fun a _ => by rw [RR], fun j _ _ => by rw [RR], fun b y1 _ _ y4 => frB b y1 y4, Or.inr ⟨nac, by rw [RR]; exact r0, by rw [RR]; exact r1, m3, frB B (by omega) (by omega), frB 67 (by omega) (by omega)⟩⟩
