/-! A METHOD'S INSTRUCTIONS -/
def okO (c : Nat → Nat) (l N k : Nat) : Prop := ((c k = 21 ∨ c k = 54) → c (k + 1) < l) ∧ (c k = 184 → c (k + 1) < N) ∧ ((c k = 188 ∨ c k = 190 ∨ c k = 46 ∨ c k = 79) → c (k + 1) < 4)
theorem x_sizeAt {s : hs_S} {M a n k : Nat} {e : Nat → Nat} (w : WT s) (v : mv s M a n e) (hk : k < 2147483648) : fX7_sizeAt M (nI k) s = some (nI (cz (vE e n k)), s) := by
  unfold fX7_sizeAt
  rw [if_pos (w.k v.1), x_val w v hk]
  rw [hs_bd_s]
  rw [x_size (vE_lt e n k)]
  rfl
theorem cz_le (k : Nat) : cz k ≤ 5 := by
  unfold cz
  split
  · exact s_sz_le k
  · omega
theorem x_hasOp {s : hs_S} {v0 A M a n l N k : Nat} {e c : Nat → Nat} (w : WT s) (v : mv s M a n e) (hA : gm_k A = 0) (hl : hs_I s M 5 = nI l) (hl2 : l < 2147483648) (hN : hs_I s A 4 = nI N) (hN2 : N < 2147483648) (hc : ∀ i, i < n → e i % 256 = c i) (hk : k < n) (hs : k + s_sz (c k) ≤ n) : ∃ r, fX2_hasOperand v0 A M (nI k) s = some (r, s) ∧ (r = 0 ↔ ¬ okO c l N k) := by
  have hn := (v.lt w).1
  have hck : c k < 256 := by rw [← hc k hk]; omega
  have e1 : vE e n k = c k := by unfold vE; rw [if_pos hk, hc k hk]
  have o1 : vE e n (k + 1) < 256 := vE_lt e n (k + 1)
  have o2 : 2 ≤ s_sz (c k) → vE e n (k + 1) = c (k + 1) := fun h => by unfold vE; rw [if_pos (by omega), hc (k + 1) (by omega)]
  have ne : ∀ i, i < 256 → (nI (c k) = nI i ↔ c k = i) := fun i hi => eqi (by omega) (by omega)
  unfold fX2_hasOperand
  rw [if_pos (w.k v.1), x_val w v (by omega), e1]
  rw [hs_bd_s]
  rw [if_pos (w.k v.1), nI_1, x_val w v (by omega)]
  rw [hs_bd_s]
  have g30 : ∀ (_ : c k = 21 ∨ c k = 54), ∃ r, jX2_hasOperand_30 M (nI (vE e n (k + 1))) s = some (r, s) ∧ (r = 0 ↔ ¬ okO c l N k) := by
    intro h
    have h2 : vE e n (k + 1) = c (k + 1) := o2 (by rcases h with h | h <;> rw [h] <;> decide)
    unfold jX2_hasOperand_30
    rw [if_pos (w.k v.1), hl, h2]
    rw [h2] at o1
    by_cases q : c (k + 1) < l
    · rw [if_neg (fun z => absurd ((lei (by omega) (by omega)).mp z) (by omega))]
      refine ⟨_, rfl, fun z => absurd z (by decide), fun z => absurd ⟨fun _ => q, fun z => ?_, fun z => ?_⟩ z⟩
      · omega
      · omega
    · rw [if_pos ((lei (by omega) (by omega)).mpr (by omega))]
      exact ⟨_, rfl, fun _ z => q (z.1 h), fun _ => rfl⟩
  by_cases c1 : c k = 21
  · have x : nI (c k) = (21 : Int32) := (ne 21 (by decide)).mpr c1
    rw [if_pos x]; exact g30 (Or.inl c1)
  have x1 : ¬ nI (c k) = (21 : Int32) := fun q => c1 ((ne 21 (by decide)).mp q)
  rw [if_neg x1]
  by_cases c2 : c k = 54
  · have x : nI (c k) = (54 : Int32) := (ne 54 (by decide)).mpr c2
    rw [if_pos x]; exact g30 (Or.inr c2)
  have x2 : ¬ nI (c k) = (54 : Int32) := fun q => c2 ((ne 54 (by decide)).mp q)
  rw [if_neg x2]
  by_cases c3 : c k = 184
  · have x : nI (c k) = (184 : Int32) := (ne 184 (by decide)).mpr c3
    have h2 : vE e n (k + 1) = c (k + 1) := o2 (by rw [c3]; decide)
    rw [h2] at o1
    rw [if_pos x, if_pos (w.k hA), h2]
    unfold fX0_has
    rw [if_neg (nI_pos (by omega)), if_pos (w.k hA), hN]
    by_cases q : c (k + 1) < N
    · rw [if_neg (fun z => absurd ((lei (by omega) (by omega)).mp z) (by omega))]
      refine ⟨1, rfl, fun z => absurd z (by decide), fun z => absurd ⟨fun z => ?_, fun _ => q, fun z => ?_⟩ z⟩
      · omega
      · omega
    · rw [if_pos ((lei (by omega) (by omega)).mpr (by omega))]
      exact ⟨0, rfl, fun _ z => q (z.2.1 c3), fun _ => rfl⟩
  have x3 : ¬ nI (c k) = (184 : Int32) := fun q => c3 ((ne 184 (by decide)).mp q)
  rw [if_neg x3, (x_kinds hck s).2.2.1]
  rw [hs_bd_s]
  by_cases c4 : c k = 188 ∨ c k = 190 ∨ c k = 46 ∨ c k = 79
  · have t : (decide (c k = 188) || decide (c k = 190) || decide (c k = 46) || decide (c k = 79)) = true := by
      simp only [Bool.or_eq_true, decide_eq_true_eq]
      omega
    have h2 : vE e n (k + 1) = c (k + 1) := o2 (by rcases c4 with h | h | h | h <;> rw [h] <;> decide)
    rw [h2] at o1
    rw [t, if_neg (by decide), h2]
    by_cases q : c (k + 1) < 4
    · have x : ¬ (4 : Int32) ≤ nI (c (k + 1)) := fun z => absurd ((lei (a := 4) (by decide) (by omega)).mp z) (by omega)
      rw [if_neg x]
      refine ⟨1, rfl, fun z => absurd z (by decide), fun z => absurd ⟨fun z => ?_, fun z => ?_, fun _ => q⟩ z⟩
      · omega
      · omega
    · have x : (4 : Int32) ≤ nI (c (k + 1)) := (lei (a := 4) (by decide) (by omega)).mpr (by omega)
      rw [if_pos x]
      exact ⟨0, rfl, fun _ z => q (z.2.2 c4), fun _ => rfl⟩
  · have t : (decide (c k = 188) || decide (c k = 190) || decide (c k = 46) || decide (c k = 79)) = false := by
      simp only [Bool.or_eq_false_iff, decide_eq_false_iff_not]
      omega
    rw [t, if_pos (by decide)]
    refine ⟨1, rfl, fun z => absurd z (by decide), fun z => absurd ⟨fun z => ?_, fun z => ?_, fun z => ?_⟩ z⟩
    · omega
    · omega
    · exact absurd z c4
/-- how many long jumps from k on -/
def s_lc (c : Nat → Nat) (n : Nat) : Nat → Nat → Nat
  | 0, _ => 0
  | f + 1, k => if k < n then (if c k = 168 then 1 else 0) + s_lc c n f (k + s_sz (c k)) else 0
theorem s_lc_le (c : Nat → Nat) (n : Nat) : ∀ f k, s_lc c n f k ≤ f
  | 0, k => Nat.le_refl 0
  | f + 1, k => by
    unfold s_lc
    have := s_lc_le c n f (k + s_sz (c k))
    split
    · split <;> omega
    · omega
/-- the cells, with the beginnings below k marked -/
def cl0 (c e : Nat → Nat) (n k : Nat) : Prop := ∀ i, i < n → e i % 256 = c i ∧ (eB (e i) = true ↔ (i < k ∧ s_B c i)) ∧ eK (e i) = false
/-- of the method at M only its cells and its count of long jumps are written -/
def iF (s q : hs_S) (M a n : Nat) : Prop := hs_R q = hs_R s ∧ (∀ b, b ≠ M → b ≠ hs_R s M 0 - 1 → hs_I q b = hs_I s b) ∧ (∀ i, i ≠ 9 → hs_I q M i = hs_I s M i) ∧ ∀ i, (i < a ∨ a + n ≤ i) → hs_I q (hs_R s M 0 - 1) i = hs_I s (hs_R s M 0 - 1) i
theorem iF.rf {s : hs_S} {M a n : Nat} : iF s s M a n := ⟨rfl, fun _ _ _ => rfl, fun _ _ => rfl, fun _ _ => rfl⟩
theorem iF.tr {s q r : hs_S} {M a n : Nat} (h : iF s q M a n) (h' : iF q r M a n) : iF s r M a n := by
  refine ⟨h'.1.trans h.1, fun b h1 h2 => ?_, fun i hi => (h'.2.2.1 i hi).trans (h.2.2.1 i hi), fun i hi => ?_⟩
  · exact (h'.2.1 b h1 (by rw [h.1]; exact h2)).trans (h.2.1 b h1 h2)
  · have := h'.2.2.2 i hi
    rw [h.1] at this
    exact this.trans (h.2.2.2 i hi)
theorem x_i2 {v0 A M a n l N : Nat} {c : Nat → Nat} (hv0 : gm_k v0 = 2) (hA : gm_k A = 0) (hl2 : l < 256) (hN2 : N < 256) : ∀ (d k f : Nat) (s : hs_S) (e : Nat → Nat) (lj : Nat), n ≤ k + d → d < f → k ≤ n → s_B c k → lj ≤ k → WT s → mv s M a n e → hs_I s M 5 = nI l → hs_I s A 4 = nI N → cl0 c e n k → hs_I s M 9 = nI lj → (∀ b, hs_R s M 0 - 1 = b → b ≠ A) →
    Tq (lX2_wrongInstruction_2 f v0 A M (nI k) s) (fun q => (q.1 = 0 ∧ (∀ j, s_B c j → k ≤ j → j < n → s_okI c l N n j) ∧ iF s q.2.2 M a n ∧ (∃ e', mv q.2.2 M a n e' ∧ cl0 c e' n n) ∧ hs_I q.2.2 M 9 = nI (lj + s_lc c n d k)) ∨ (q.1 = 1 ∧ (∃ i, i < n ∧ q.2.1 = nI i) ∧ hs_I q.2.2 M 2 = nI a ∧ ¬ ∀ j, s_B c j → k ≤ j → j < n → s_okI c l N n j))
  | d, k, 0, s, e, lj, _, hf, _, _, _, _, _, _, _, _, _, _ => absurd hf (Nat.not_lt_zero _)
  | d, k, f + 1, s, e, lj, hd, hf, hk, hB, hlj, w, v, hl, hN, hcl, h9, hrow => by
    obtain ⟨lt1, lt2, lt3⟩ := v.lt w
    rw [lX2_wrongInstruction_2, if_pos (w.k v.1), v.2.2.1]
    by_cases c0 : k < n
    rotate_left
    · rw [if_pos ((lei (by omega) (by omega)).mpr (by omega))]
      have ek : k = n := by omega
      refine Tq.some (Or.inl ⟨rfl, fun j _ j1 j2 => absurd j2 (by omega), iF.rf, ⟨e, v, by rw [← ek]; rw [← ek] at hcl; exact hcl⟩, ?_⟩)
      have : s_lc c n d k = 0 := by
        cases d with
        | zero => rfl
        | succ d => unfold s_lc; rw [if_neg c0]
      rw [this]; exact h9
    obtain ⟨d, rfl⟩ : ∃ d', d = d' + 1 := ⟨d - 1, by omega⟩
    have hce : ∀ i, i < n → e i % 256 = c i := fun i hi => (hcl i hi).1
    have hck : c k < 256 := by rw [← hce k c0]; omega
    have e1 : vE e n k = c k := by unfold vE; rw [if_pos c0, hce k c0]
    have bad : ¬ s_okI c l N n k → ¬ ∀ j, s_B c j → k ≤ j → j < n → s_okI c l N n j := fun h q => h (q k hB (Nat.le_refl _) c0)
    rw [if_neg (fun q => absurd ((lei (by omega) (by omega)).mp q) (by omega)), x_sizeAt w v (by omega), e1]
    show Tq (if nI (cz (c k)) ≤ 0 then _ else _) _
    have g37 : ¬ s_okI c l N n k → Tq (jX2_wrongInstruction_37 (fun y0 g => lX2_wrongInstruction_2 f v0 A M y0 g) v0 A M (nI k) (nI (cz (c k))) s) (fun q => (q.1 = 0 ∧ (∀ j, s_B c j → k ≤ j → j < n → s_okI c l N n j) ∧ iF s q.2.2 M a n ∧ (∃ e', mv q.2.2 M a n e' ∧ cl0 c e' n n) ∧ hs_I q.2.2 M 9 = nI (lj + s_lc c n (d + 1) k)) ∨ (q.1 = 1 ∧ (∃ i, i < n ∧ q.2.1 = nI i) ∧ hs_I q.2.2 M 2 = nI a ∧ ¬ ∀ j, s_B c j → k ≤ j → j < n → s_okI c l N n j)) := by
      intro h
      unfold jX2_wrongInstruction_37 jX2_wrongInstruction_38
      rw [if_pos rfl]
      exact Tq.some (Or.inr ⟨rfl, ⟨k, c0, rfl⟩, v.2.1, bad h⟩)
    have hcz := cz_le (c k)
    by_cases c1 : s_isK (c k) = true
    rotate_left
    · have : cz (c k) = 0 := by unfold cz; rw [if_neg c1]
      rw [if_pos (by rw [this]; decide)]
      exact g37 fun q => c1 q.1
    have ez : cz (c k) = s_sz (c k) := by unfold cz; rw [if_pos c1]
    have hs0 := s_isK_sz c1
    rw [ez] at g37 hcz ⊢
    have x1 : ¬ nI (s_sz (c k)) ≤ 0 := fun q => absurd ((lei (b := 0) (by omega) (by decide)).mp q) (by omega)
    rw [if_neg x1, if_pos (w.k v.1), v.2.2.1, nI_add]
    by_cases c2 : k + s_sz (c k) ≤ n
    rotate_left
    · rw [if_pos ((lti (by omega) (by omega)).mpr (by omega))]
      exact g37 fun q => c2 q.2.1
    rw [if_neg (fun q => absurd ((lti (by omega) (by omega)).mp q) (by omega))]
    obtain ⟨r, er, hr⟩ := x_hasOp (v0 := v0) w v hA hl (by omega) hN (by omega) hce c0 c2
    unfold jX2_wrongInstruction_38
    rw [if_neg (by decide), if_pos (w.k hv0), er]
    show Tq (if r = 0 then _ else _) _
    by_cases c3 : r = 0
    · rw [if_pos c3]
      refine Tq.some (Or.inr ⟨rfl, ⟨k, c0, rfl⟩, v.2.1, bad fun q => hr.mp c3 q.2.2⟩)
    have hop : okO c l N k := Classical.byContradiction fun q => c3 (hr.mpr q)
    have hok : s_okI c l N n k := ⟨c1, c2, hop⟩
    have e256 : (256 : Int32) = nI 256 := rfl
    rw [if_neg c3, if_pos (w.k v.1), e256, x_mark_in w v c0 256]
    obtain ⟨-, ke⟩ := v.2.2.2.2 k c0
    obtain ⟨-, -, z3, -, z5, z6, -, -, z9, -⟩ := ek ke
    have v1 := v.set w c0 z9
    have w1 : WT (hs_wI s (hs_R s M 0 - 1) (a + k) (nI (e k ||| 256))) := w.w (oW.a (s := 0) (b := false) lt2)
    have f1 : iF s (hs_wI s (hs_R s M 0 - 1) (a + k) (nI (e k ||| 256))) M a n := by
      refine ⟨rfl, fun b _ h2 => funext fun i => by rw [hs_I_w, if_neg h2], fun i _ => by rw [hs_I_w, if_neg (Ne.symm lt3)], fun i hi => by rw [hs_I_w, if_pos rfl, if_neg (by omega)]⟩
    have cl1 : cl0 c (fun i => if i = k then e k ||| 256 else e i) n (k + s_sz (c k)) := by
      intro i hi
      show (if i = k then e k ||| 256 else e i) % 256 = c i ∧ (eB (if i = k then e k ||| 256 else e i) = true ↔ (i < k + s_sz (c k) ∧ s_B c i)) ∧ eK (if i = k then e k ||| 256 else e i) = false
      by_cases q : i = k
      · rw [if_pos q, q, z3, z5, z6]
        exact ⟨hce k c0, ⟨fun _ => ⟨by omega, hB⟩, fun _ => rfl⟩, (hcl k c0).2.2⟩
      · rw [if_neg q]
        obtain ⟨y1, y2, y3⟩ := hcl i hi
        refine ⟨y1, ⟨fun z => ⟨by have := (y2.mp z).1; omega, (y2.mp z).2⟩, fun z => y2.mpr ⟨?_, z.2⟩⟩, y3⟩
        rcases Nat.lt_or_ge k i with h | h
        · exact absurd z.2 (s_B_gap hB h z.1)
        · omega
    have i5 : hs_I (hs_wI s (hs_R s M 0 - 1) (a + k) (nI (e k ||| 256))) M 5 = nI l := by rw [hs_I_w, if_neg (Ne.symm lt3)]; exact hl
    have i9 : hs_I (hs_wI s (hs_R s M 0 - 1) (a + k) (nI (e k ||| 256))) M 9 = nI lj := by rw [hs_I_w, if_neg (Ne.symm lt3)]; exact h9
    have iN : hs_I (hs_wI s (hs_R s M 0 - 1) (a + k) (nI (e k ||| 256))) A 4 = nI N := by rw [hs_I_w, if_neg (Ne.symm (hrow _ rfl))]; exact hN
    have hR1 : hs_R (hs_wI s (hs_R s M 0 - 1) (a + k) (nI (e k ||| 256))) = hs_R s := rfl
    generalize hs_wI s (hs_R s M 0 - 1) (a + k) (nI (e k ||| 256)) = s1 at v1 w1 f1 i5 i9 iN hR1
    show Tq (if hs_kd s1 M = 6 then _ else none) _
    rw [if_pos (w1.k v.1), x_val w1 v1 (by omega)]
    have e2 : vE (fun i => if i = k then e k ||| 256 else e i) n k = c k := by
      unfold vE
      rw [if_pos c0]
      exact (cl1 k c0).1
    rw [e2]
    have lst : ∀ (s2 : hs_S) (b : Nat), (b = if c k = 168 then 1 else 0) → WT s2 → iF s s2 M a n → mv s2 M a n (fun i => if i = k then e k ||| 256 else e i) → hs_I s2 A 4 = nI N → hs_I s2 M 9 = nI (lj + b) → Tq (lX2_wrongInstruction_2 f v0 A M (nI k + nI (s_sz (c k))) s2) (fun q => (q.1 = 0 ∧ (∀ j, s_B c j → k ≤ j → j < n → s_okI c l N n j) ∧ iF s q.2.2 M a n ∧ (∃ e', mv q.2.2 M a n e' ∧ cl0 c e' n n) ∧ hs_I q.2.2 M 9 = nI (lj + s_lc c n (d + 1) k)) ∨ (q.1 = 1 ∧ (∃ i, i < n ∧ q.2.1 = nI i) ∧ hs_I q.2.2 M 2 = nI a ∧ ¬ ∀ j, s_B c j → k ≤ j → j < n → s_okI c l N n j)) := by
      intro s2 b hb w2 f2 v2 iN2 i92
      rw [nI_add]
      have hb1 : b ≤ 1 := by rw [hb]; split <;> omega
      refine (x_i2 hv0 hA hl2 hN2 d (k + s_sz (c k)) f s2 _ (lj + b) (by omega) (by omega) c2 (s_B_next hB) (by omega) w2 v2 ?_ iN2 cl1 i92 ?_).mono fun q hq => ?_
      · rw [f2.2.2.1 5 (by decide)]; exact hl
      · rw [f2.1]; exact hrow
      · have all : (∀ j, s_B c j → k + s_sz (c k) ≤ j → j < n → s_okI c l N n j) ↔ ∀ j, s_B c j → k ≤ j → j < n → s_okI c l N n j := by
          refine ⟨fun h j j1 j2 j3 => ?_, fun h j j1 j2 j3 => h j j1 (by omega) j3⟩
          by_cases q : j = k
          · rw [q]; exact hok
          · exact h j j1 (s_B_ge hB j1 (by omega)) j3
        rcases hq with ⟨q1, q2, q3, q4, q5⟩ | ⟨q1, q2, q3, q4⟩
        · refine Or.inl ⟨q1, all.mp q2, f2.tr q3, q4, ?_⟩
          rw [q5]
          congr 1
          show lj + b + s_lc c n d (k + s_sz (c k)) = lj + s_lc c n (d + 1) k
          rw [s_lc, if_pos c0, hb]
          omega
        · exact Or.inr ⟨q1, q2, q3, fun z => q4 (all.mpr z)⟩
    have go := lst
    by_cases c4 : c k = 168
    · have x : nI (c k) = (168 : Int32) := by rw [c4]; rfl
      show Tq (if nI (c k) = (168 : Int32) then _ else _) _
      rw [if_pos x, if_pos (w1.k v.1), i9, nI_1]
      unfold jX2_wrongInstruction_91
      have o9 : oW 0 false M 9 (nI (lj + 1)) := oW.m v.1 (by decide)
      refine go _ 1 (by rw [if_pos c4]) (w1.w o9) (f1.tr ⟨rfl, fun b h1 _ => funext fun i => by rw [hs_I_w, if_neg h1], fun i hi => by rw [hs_I_w, if_pos rfl, if_neg hi], fun i _ => by rw [hs_I_w, if_neg (by rw [hR1]; exact lt3)]⟩) ?_ ?_ ?_
      · refine v1.fr ?_ ?_ rfl fun i hi => ?_
        · rw [hs_I_w, if_pos rfl, if_neg (by decide)]
        · rw [hs_I_w, if_pos rfl, if_neg (by decide)]
        · rw [hs_I_w, if_neg (by rw [hR1]; exact lt3)]
      · rw [hs_I_w, if_neg (fun q => absurd (hA.symm.trans ((congrArg gm_k q).trans v.1)) (by decide))]; exact iN
      · rw [hs_I_w, if_pos rfl, if_pos rfl]
    · have x : ¬ nI (c k) = (168 : Int32) := fun q => c4 ((eqi (b := 168) (by omega) (by decide)).mp q)
      show Tq (if nI (c k) = (168 : Int32) then _ else _) _
      rw [if_neg x]
      unfold jX2_wrongInstruction_91
      exact go s1 0 (by rw [if_neg c4]) w1 f1 v1 iN i9
/-- wrongInstruction() -/
theorem x_instr {v0 A M a n l N : Nat} {c e : Nat → Nat} {s : hs_S} (hv0 : gm_k v0 = 2) (hA : gm_k A = 0) (hl2 : l < 256) (hN2 : N < 256) (w : WT s) (v : mv s M a n e) (hl : hs_I s M 5 = nI l) (hN : hs_I s A 4 = nI N) (hcl : cl0 c e n 0) (h9 : hs_I s M 9 = nI 0) (hrow : hs_R s M 0 - 1 ≠ A) :
    Tq (fX2_wrongInstruction v0 A M s) (fun q => (q.1 = -1 ∧ s_chain c l N n ∧ iF s q.2 M a n ∧ (∃ e', mv q.2 M a n e' ∧ cl0 c e' n n) ∧ hs_I q.2 M 9 = nI (s_lc c n n 0)) ∨ (¬ q.1 = -1 ∧ ¬ s_chain c l N n)) := by
  have lt := (v.lt w).1
  obtain ⟨⟨t, p, s'⟩, e1, hq⟩ := x_i2 hv0 hA hl2 hN2 n 0 hs_N s e 0 (by omega) (by unfold hs_N; omega) (by omega) (s_B_0 c) (by omega) w v hl hN hcl h9 (fun b hb => by rw [← hb]; exact hrow)
  have all : (∀ j, s_B c j → 0 ≤ j → j < n → s_okI c l N n j) ↔ s_chain c l N n := ⟨fun h j j1 j2 => h j j1 (Nat.zero_le j) j2, fun h j j1 _ j2 => h j j1 j2⟩
  have e1' : lX2_wrongInstruction_2 hs_N v0 A M (0 : Int32) s = some (t, p, s') := e1
  unfold fX2_wrongInstruction
  rw [e1']
  show Tq (if t = 0 then _ else _) _
  rcases hq with ⟨q1, q2, q3, q4, q5⟩ | ⟨q1, ⟨i, i1, i2⟩, q3, q4⟩
  · have q1' : t = 0 := q1
    rw [if_pos q1']
    refine Tq.some (Or.inl ⟨rfl, all.mp q2, q3, q4, ?_⟩)
    rw [Nat.zero_add] at q5
    exact q5
  · have q1' : t = 1 := q1
    have i2' : p = nI i := i2
    have q3' : hs_I s' M 2 = nI a := q3
    rw [if_neg (by rw [q1']; decide)]
    unfold jX2_wrongInstruction_55
    by_cases cc : hs_kd s' M = 6
    · rw [if_pos cc, q3', i2', nI_add]
      exact Tq.some (Or.inr ⟨nI_m1 (by omega), fun z => q4 (all.mpr z)⟩)
    · obtain ⟨⟨r, z⟩, ez, ⟨wz, -⟩, -⟩ := zlX2_wrongInstruction_2 (s := 0) (b := false) hs_N v0 A M 0 s w hv0 hA v.1 (cm_N _)
      have : (t, p, s') = (r, z) := Option.some.inj (e1'.symm.trans ez)
      have e3 : s' = z.2 := congrArg (fun q => q.2.2) this
      exact absurd (by rw [e3]; exact wz.k v.1) cc
