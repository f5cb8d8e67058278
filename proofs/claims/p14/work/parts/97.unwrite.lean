/-! THE CLASS'S UNWRITING -/
/-- the bytes of the handlers -/
def hb (V : Nat → Nat) (x : Nat) : Nat := if x % 7 = 6 then V (4 * (x / 7) + 3) else if x % 7 % 2 = 0 then V (4 * (x / 7) + x % 7 / 2) / 256 % 256 else V (4 * (x / 7) + x % 7 / 2) % 256
theorem x_uw83 {B T tt k : Nat} {V : Nat → Nat} (hk : k < 8) (kt : gm_k tt = 100) (nt : gm_n tt = 32) (ntB : tt ≠ B) (ntB5 : tt ≠ B + 5) (ntT : tt ≠ T) : ∀ (d i f t : Nat) (s : hs_S), i + d = 3 → d < f → awO s B t T → hs_R s 0 2 = B + 1 → hs_R s T 1 = tt + 1 → (∀ i, i < 3 → hs_I s tt (4 * k + i) = nI (V (4 * k + i)) ∧ V (4 * k + i) < 65536) → t + 2 * d ≤ gm_n (B + 5) →
    Tq (lX11_unwriteMethod_83 f 0 T (nI k) (nI i) s) (fun q => aw s q B t (2 * d) T 0 0 (fun x => hb V (7 * k + 2 * i + x)))
  | d, i, 0, t, s, _, hf, _, _, _, _, _ => absurd hf (Nat.not_lt_zero _)
  | 0, i, f + 1, t, s, hi, _, o, r2, rT, hV, hr => by
    have u : (3 : Int32) ≤ nI i := (lei (a := 3) (by decide) (by omega)).mpr (by omega)
    rw [lX11_unwriteMethod_83, if_pos u]
    exact Tq.some ((aw.rf o).cg fun i hi => absurd hi (Nat.not_lt_zero _))
  | d + 1, i, f + 1, t, s, hi, hf, o, r2, rT, hV, hr => by
    have u : ¬ (3 : Int32) ≤ nI i := fun q => absurd ((lei (a := 3) (by decide) (by omega)).mp q) (by omega)
    have w := o.1
    have k1 := (sk o.2.1).1
    have kT := o.2.2.2.2
    have r2' : hs_R s 0 2 - 1 = B := by rw [r2]; rfl
    have r2n : ¬ hs_R s 0 2 = 0 := by rw [r2]; omega
    obtain ⟨v1, v2⟩ := hV i (by omega)
    rw [lX11_unwriteMethod_83, if_neg u, if_pos (w.k gk_0), if_pos r2n, if_pos (w.k kT), x_hnum w kT rT kt nt (by omega) (by omega), hs_bd_s, r2', if_pos (w.k k1), v1]
    obtain ⟨q1, E1, a1⟩ := x_app2 (x := nI (V (4 * k + i))) (y := V (4 * k + i) / 256 % 256) (z := V (4 * k + i) % 256) o (by omega) (sh8 (by omega)) (pk_andN (by omega) 8 (by decide))
    rw [E1, hs_bv_e, nI_1]
    have R1 := a1.1
    refine (x_uw83 hk kt nt ntB ntB5 ntT d (i + 1) f (t + 2) q1 (by omega) (by omega) (a1.o o) (by rw [R1]; exact r2) (by rw [R1]; exact rT) (fun i hi => by rw [a1.2.2.2.2.2.2.1 tt ntB ntB5 ntT]; exact hV i hi) (by omega)).mono fun q hq => ?_
    have tr := a1.tr hq
    rw [show 2 + 2 * d = 2 * (d + 1) by omega] at tr
    refine tr.cg fun x hx => ?_
    show (if x < 2 then (if x = 0 then V (4 * k + i) / 256 % 256 else V (4 * k + i) % 256) else hb V (7 * k + 2 * (i + 1) + (x - 2))) = hb V (7 * k + 2 * i + x)
    by_cases c : x < 2
    · rw [if_pos c]
      unfold hb
      obtain e | e : x = 0 ∨ x = 1 := by omega
      · subst e
        rw [if_pos rfl, if_neg (by omega), if_pos (by omega), show 4 * ((7 * k + 2 * i + 0) / 7) + (7 * k + 2 * i + 0) % 7 / 2 = 4 * k + i by omega]
      · subst e
        rw [if_neg (by omega), if_neg (by omega), if_neg (by omega), show 4 * ((7 * k + 2 * i + 1) / 7) + (7 * k + 2 * i + 1) % 7 / 2 = 4 * k + i by omega]
    · rw [if_neg c, show 7 * k + 2 * (i + 1) + (x - 2) = 7 * k + 2 * i + x by omega]
theorem x_uw71 {B T tt h : Nat} {V : Nat → Nat} (hh : h ≤ 8) (kt : gm_k tt = 100) (nt : gm_n tt = 32) (ntB : tt ≠ B) (ntB5 : tt ≠ B + 5) (ntT : tt ≠ T) (nTB : T ≠ B) (nTB5 : T ≠ B + 5) : ∀ (d k f t : Nat) (s : hs_S), k + d = h → d < f → awO s B t T → hs_R s 0 2 = B + 1 → hs_R s T 1 = tt + 1 → hs_I s T 6 = nI h → (∀ i, i < 4 * h → hs_I s tt i = nI (V i) ∧ V i < 65536 ∧ (i % 4 = 3 → V i < 256)) → t + 7 * d ≤ gm_n (B + 5) →
    Tq (lX11_unwriteMethod_71 f 0 T (nI k) s) (fun q => aw s q B t (7 * d) T 0 0 (fun x => hb V (7 * k + x)))
  | d, k, 0, t, s, _, hf, _, _, _, _, _, _ => absurd hf (Nat.not_lt_zero _)
  | 0, k, f + 1, t, s, hk, _, o, r2, rT, h6, hV, hr => by
    have kT := o.2.2.2.2
    rw [lX11_unwriteMethod_71, if_pos (o.1.k kT), h6, if_pos ((lei (by omega) (by omega)).mpr (by omega))]
    exact Tq.some ((aw.rf o).cg fun i hi => absurd hi (Nat.not_lt_zero _))
  | d + 1, k, f + 1, t, s, hk, hf, o, r2, rT, h6, hV, hr => by
    have k1 := (sk o.2.1).1
    have kT := o.2.2.2.2
    have e0 : (0 : Int32) = nI 0 := rfl
    have e3 : (3 : Int32) = nI 3 := rfl
    rw [lX11_unwriteMethod_71, if_pos (o.1.k kT), h6, if_neg (fun z => absurd ((lei (by omega) (by omega)).mp z) (by omega)), e0]
    obtain ⟨q1, E1, a1⟩ := x_uw83 (k := k) (V := V) (by omega) kt nt ntB ntB5 ntT 3 0 hs_N t s (by omega) (by unfold hs_N; omega) o r2 rT (fun i hi => ⟨(hV _ (by omega)).1, (hV _ (by omega)).2.1⟩) (by omega)
    have o1 := a1.o o
    have R1 := a1.1
    have w1 := o1.1
    have r2' : hs_R q1 0 2 - 1 = B := by rw [R1, r2]; rfl
    have r2n : ¬ hs_R q1 0 2 = 0 := by rw [R1, r2]; omega
    have vk : hs_I q1 tt (4 * k + 3) = nI (V (4 * k + 3)) := by rw [a1.2.2.2.2.2.2.1 tt ntB ntB5 ntT]; exact (hV _ (by omega)).1
    have vl := (hV (4 * k + 3) (by omega)).2.2 (by omega)
    rw [E1, hs_bv_e, if_pos (w1.k gk_0), if_pos r2n, if_pos (w1.k kT), e3, x_hnum w1 kT (by rw [R1]; exact rT) kt nt (by omega) (by omega), hs_bd_s, r2', if_pos (w1.k k1), vk]
    obtain ⟨q2, E2, a2⟩ := x_app (x := nI (V (4 * k + 3))) (y := V (4 * k + 3)) o1 (by omega) (nI_255 vl)
    rw [E2, hs_bv_e, nI_1]
    have R2 := a2.1
    refine (x_uw71 hh kt nt ntB ntB5 ntT nTB nTB5 d (k + 1) f (t + 2 * 3 + 1) q2 (by omega) (by omega) (a2.o o1) (by rw [R2, R1]; exact r2) (by rw [R2, R1]; exact rT) (by rw [a2.2.2.2.2.2.2.2.1 6 (by decide) (by decide), a1.2.2.2.2.2.2.2.1 6 (by decide) (by decide)]; exact h6) (fun i hi => by rw [a2.2.2.2.2.2.2.1 tt ntB ntB5 ntT, a1.2.2.2.2.2.2.1 tt ntB ntB5 ntT]; exact hV i hi) (by omega)).mono fun q hq => ?_
    have tr := (a1.tr a2).tr hq
    rw [show 2 * 3 + 1 + 7 * d = 7 * (d + 1) by omega] at tr
    refine tr.cg fun x hx => ?_
    show (if x < 2 * 3 + 1 then (if x < 2 * 3 then hb V (7 * k + 2 * 0 + x) else V (4 * k + 3)) else hb V (7 * (k + 1) + (x - (2 * 3 + 1)))) = hb V (7 * k + x)
    by_cases c : x < 2 * 3 + 1
    · rw [if_pos c]
      by_cases c2 : x < 2 * 3
      · rw [if_pos c2, show 7 * k + 2 * 0 + x = 7 * k + x by omega]
      · rw [if_neg c2]
        unfold hb
        rw [if_pos (by omega), show 4 * ((7 * k + x) / 7) + 3 = 4 * k + 3 by omega]
    · rw [if_neg c, show 7 * (k + 1) + (x - (2 * 3 + 1)) = 7 * k + x by omega]
/-- bytes are put behind those of the set at B; the method T of it and its table tt, and the layout's cells, may change -/
def bw (s q : hs_S) (B t L T tt : Nat) (bs : Nat → Nat) : Prop := hs_R q = hs_R s ∧ WT q ∧ hs_I q B 3 = nI (t + L) ∧ (∀ i, i ≠ 3 → hs_I q B i = hs_I s B i) ∧ (∀ i, i < L → hs_I q (B + 5) (t + i) = nI (bs i)) ∧ (∀ i, i < t → hs_I q (B + 5) i = hs_I s (B + 5) i) ∧ ∀ b, b ≠ B → b ≠ B + 5 → b ≠ T → b ≠ tt → (b < 95 ∨ 100 ≤ b) → hs_I q b = hs_I s b
theorem bw.tr {s q r : hs_S} {B t L L' T tt : Nat} {bs bs' : Nat → Nat} (h : bw s q B t L T tt bs) (h' : bw q r B (t + L) L' T tt bs') : bw s r B t (L + L') T tt (fun i => if i < L then bs i else bs' (i - L)) := by
  obtain ⟨a1, a2, a3, a4, a5, a6, a7⟩ := h
  obtain ⟨b1, b2, b3, b4, b5, b6, b7⟩ := h'
  refine ⟨b1.trans a1, b2, by rw [b3, Nat.add_assoc], fun i hi => (b4 i hi).trans (a4 i hi), fun i hi => ?_, fun i hi => (b6 i (by omega)).trans (a6 i hi), fun b x1 x2 x3 x4 x5 => (b7 b x1 x2 x3 x4 x5).trans (a7 b x1 x2 x3 x4 x5)⟩
  show hs_I r (B + 5) (t + i) = nI (if i < L then bs i else bs' (i - L))
  by_cases c : i < L
  · rw [if_pos c, b6 _ (by omega)]; exact a5 i c
  · rw [if_neg c, ← b5 (i - L) (by omega)]
    congr 1
    omega
theorem aw.b {s q : hs_S} {B t L T lb lj : Nat} {bs : Nat → Nat} (h : aw s q B t L T lb lj bs) (tt : Nat) : bw s q B t L T tt bs := by
  obtain ⟨a1, a2, a3, a4, a5, a6, a7, a8, a9, a10⟩ := h
  exact ⟨a1, a2, a3, a4, a5, fun i hi => a6 i (Or.inl hi), fun b x1 x2 x3 _ _ => a7 b x1 x2 x3⟩
theorem yF.b {s q : hs_S} {B t T tt : Nat} (h : yF s q) (w : WT q) (hB : B < 90) (h3 : hs_I s B 3 = nI t) : bw s q B t 0 T tt (fun _ => 0) := ⟨h.1, w, by rw [h.2 B (by omega)]; exact h3, fun i _ => by rw [h.2 B (by omega)], fun i hi => absurd hi (Nat.not_lt_zero _), fun i _ => by rw [h.2 (B + 5) (by omega)], fun b _ _ _ _ hb => h.2 b hb⟩
