/-! THE BLOCKS ARE MARKED -/
def cl1 (c e : Nat → Nat) (n : Nat) (B : Nat → Prop) : Prop := ∀ i, i < n → e i % 256 = c i ∧ (eB (e i) = true ↔ s_B c i) ∧ (eK (e i) = true ↔ B i)
/-- only the cells of the method are written -/
def rF (s q : hs_S) (M a n : Nat) : Prop := hs_R q = hs_R s ∧ (∀ b, b ≠ hs_R s M 0 - 1 → hs_I q b = hs_I s b) ∧ ∀ i, (i < a ∨ a + n ≤ i) → hs_I q (hs_R s M 0 - 1) i = hs_I s (hs_R s M 0 - 1) i
theorem rF.rf {s : hs_S} {M a n : Nat} : rF s s M a n := ⟨rfl, fun _ _ => rfl, fun _ _ => rfl⟩
theorem rF.tr {s q r : hs_S} {M a n : Nat} (h : rF s q M a n) (h' : rF q r M a n) : rF s r M a n := by
  refine ⟨h'.1.trans h.1, fun b hb => (h'.2.1 b (by rw [h.1]; exact hb)).trans (h.2.1 b hb), fun i hi => ?_⟩
  have := h'.2.2 i hi
  rw [h.1] at this
  exact this.trans (h.2.2 i hi)
theorem cl1.imp {c e : Nat → Nat} {n : Nat} {B B' : Nat → Prop} (h : cl1 c e n B) (hB : ∀ i, i < n → (B i ↔ B' i)) : cl1 c e n B' := fun i hi => ⟨(h i hi).1, (h i hi).2.1, (h i hi).2.2.trans (hB i hi)⟩
theorem x_mk {s : hs_S} {M a n : Nat} {e c : Nat → Nat} {B : Nat → Prop} {z : Int} (w : WT s) (v : mv s M a n e) (hc : cl1 c e n B) (h1 : -1000000 < z) (h2 : z < 1000000) : Tq (fX7_mark M (zI z) (512 : Int32) s) (fun q => WT q ∧ rF s q M a n ∧ ∃ e', mv q M a n e' ∧ cl1 c e' n (fun i => B i ∨ (i : Int) = z)) := by
  obtain ⟨lt1, lt2, lt3⟩ := v.lt w
  have out : (z < 0 ∨ (n : Int) ≤ z) → Tq (fX7_mark M (zI z) (512 : Int32) s) (fun q => WT q ∧ rF s q M a n ∧ ∃ e', mv q M a n e' ∧ cl1 c e' n (fun i => B i ∨ (i : Int) = z)) := by
    intro h
    have hz : zI z < 0 ∨ nI n ≤ zI z := by
      rcases h with h | h
      · exact Or.inl ((zI_neg (by omega) (by omega)).mpr h)
      · right
        rw [← zI_n]
        exact (zI_le (by omega) (by omega) (by omega) (by omega)).mpr h
    rw [x_mark_out w v hz]
    exact Tq.some ⟨w, rF.rf, e, v, hc.imp fun i hi => ⟨Or.inl, fun q => q.elim id fun y => absurd y (by omega)⟩⟩
  by_cases c0 : z < 0
  · exact out (Or.inl c0)
  by_cases c1 : (n : Int) ≤ z
  · exact out (Or.inr c1)
  obtain ⟨k, rfl⟩ : ∃ k : Nat, z = k := ⟨z.toNat, by omega⟩
  have hk : k < n := by omega
  have e5 : (512 : Int32) = nI 512 := rfl
  obtain ⟨v1, v2⟩ := v.2.2.2.2 k hk
  obtain ⟨-, -, -, z4, -, -, z7, z8, -, z10⟩ := ek v2
  rw [zI_n, e5, x_mark_in w v hk 512]
  refine Tq.some ⟨w.w (oW.a (s := 0) (b := false) lt2), ⟨rfl, fun b hb => funext fun i => by rw [hs_I_w, if_neg hb], fun i hi => by rw [hs_I_w, if_pos rfl, if_neg (by omega)]⟩, _, v.set w hk z10, fun i hi => ?_⟩
  show (if i = k then e k ||| 512 else e i) % 256 = c i ∧ (eB (if i = k then e k ||| 512 else e i) = true ↔ s_B c i) ∧ (eK (if i = k then e k ||| 512 else e i) = true ↔ (B i ∨ (i : Int) = k))
  by_cases q : i = k
  · rw [if_pos q, q, z4, z7, z8]
    exact ⟨(hc k hk).1, (hc k hk).2.1, ⟨fun _ => Or.inr rfl, fun _ => rfl⟩⟩
  · rw [if_neg q]
    exact ⟨(hc i hi).1, (hc i hi).2.1, ⟨fun y => Or.inl ((hc i hi).2.2.mp y), fun y => (hc i hi).2.2.mpr (y.elim id fun y => absurd y (by omega))⟩⟩
theorem mv.rf {s q : hs_S} {M a n : Nat} {e e' : Nat → Nat} (_ : mv s M a n e) (v : mv q M a n e') : mv q M a n e' := v
theorem x_m10 {M a n l N : Nat} {c : Nat → Nat} (hn : n < 10000) (hch : s_chain c l N n) (hjk : ∀ k, k < n → s_jk c n k) : ∀ (d k f : Nat) (s : hs_S) (e : Nat → Nat) (B : Nat → Prop), k + d = n → d < f → WT s → mv s M a n e → cl1 c e n B →
    Tq (lX2_markBlocks_10 f M (nI k) s) (fun q => WT q ∧ rF s q M a n ∧ ∃ e', mv q M a n e' ∧ cl1 c e' n (fun i => B i ∨ s_ma c n k i))
  | d, k, 0, s, e, B, _, hf, _, _, _ => absurd hf (Nat.not_lt_zero _)
  | 0, k, f + 1, s, e, B, hk, _, w, v, hc => by
    have lt := (v.lt w).1
    rw [lX2_markBlocks_10, if_pos (w.k v.1), v.2.2.1, if_pos ((lei (by omega) (by omega)).mpr (by omega))]
    exact Tq.some ⟨w, rF.rf, e, v, hc.imp fun i hi => ⟨Or.inl, fun q => q.elim id fun y => by obtain ⟨j, j1, j2, j3, -⟩ := y; omega⟩⟩
  | d + 1, k, f + 1, s, e, B, hk, hf, w, v, hc => by
    have lt := (v.lt w).1
    have h0 : k < n := by omega
    have hcb : ∀ i, i < n → c i < 256 := fun i hi => by rw [← (hc i hi).1]; omega
    -- behind the place k
    have on : ∀ (s2 : hs_S) (e2 : Nat → Nat) (B2 : Nat → Prop), WT s2 → rF s s2 M a n → mv s2 M a n e2 → cl1 c e2 n B2 → (∀ i, i < n → ((B2 i ∨ s_ma c n (k + 1) i) ↔ (B i ∨ s_ma c n k i))) → Tq (jX2_markBlocks_89 (fun y0 g => lX2_markBlocks_10 f M y0 g) M (nI k) s2) (fun q => WT q ∧ rF s q M a n ∧ ∃ e', mv q M a n e' ∧ cl1 c e' n (fun i => B i ∨ s_ma c n k i)) := by
      intro s2 e2 B2 w2 f2 v2 hc2 hB
      unfold jX2_markBlocks_89
      rw [nI_1]
      refine (x_m10 hn hch hjk d (k + 1) f s2 e2 B2 (by omega) (by omega) w2 v2 hc2).mono fun q hq => ?_
      obtain ⟨q1, q2, e', q3, q4⟩ := hq
      exact ⟨q1, f2.tr q2, e', q3, q4.imp hB⟩
    have ma : s_B c k → ∀ i, s_ma c n k i ↔ s_mk c k i ∨ s_ma c n (k + 1) i := by
      intro hB i
      constructor
      · rintro ⟨j, j1, j2, j3, j4⟩
        by_cases e : j = k
        · rw [e] at j4; exact Or.inl j4
        · exact Or.inr ⟨j, j1, by omega, j3, j4⟩
      · rintro (y | ⟨j, j1, j2, j3, j4⟩)
        · exact ⟨k, hB, Nat.le_refl _, h0, y⟩
        · exact ⟨j, j1, by omega, j3, j4⟩
    have mn : ¬ s_B c k → ∀ i, s_ma c n k i ↔ s_ma c n (k + 1) i := by
      intro hB i
      constructor
      · rintro ⟨j, j1, j2, j3, j4⟩
        have hne : k ≠ j := fun e => hB (by rw [e]; exact j1)
        exact ⟨j, j1, by omega, j3, j4⟩
      · rintro ⟨j, j1, j2, j3, j4⟩
        exact ⟨j, j1, by omega, j3, j4⟩
    -- the end of a block behind k
    have g75 : ∀ (s2 : hs_S) (e2 : Nat → Nat) (B2 : Nat → Prop), s_B c k → WT s2 → rF s s2 M a n → mv s2 M a n e2 → cl1 c e2 n B2 → (∀ i, i < n → (((B2 i ∨ i = k + s_sz (c k)) ∨ s_ma c n (k + 1) i) ↔ (B i ∨ s_ma c n k i))) → Tq (jX2_markBlocks_75 (fun y0 g => lX2_markBlocks_10 f M y0 g) M (nI k) s2) (fun q => WT q ∧ rF s q M a n ∧ ∃ e', mv q M a n e' ∧ cl1 c e' n (fun i => B i ∨ s_ma c n k i)) := by
      intro s2 e2 B2 hB w2 f2 v2 hc2 hBB
      have hok := hch k hB h0
      have e1 : vE e2 n k = c k := by unfold vE; rw [if_pos h0, (hc2 k h0).1]
      have ez : cz (c k) = s_sz (c k) := by unfold cz; rw [if_pos hok.1]
      have hz : nI k + nI (s_sz (c k)) = zI ((k + s_sz (c k) : Nat) : Int) := by rw [nI_add, zI_n]
      have hs5 := s_sz_le (c k)
      unfold jX2_markBlocks_75
      rw [if_pos (w2.k v2.1), x_sizeAt w2 v2 (by omega), e1, ez]
      show Tq (if hs_kd s2 M = 6 then _ else none) _
      rw [if_pos (w2.k v2.1), hz]
      obtain ⟨q, eq, q1, q2, e', q3, q4⟩ := x_mk (z := ((k + s_sz (c k) : Nat) : Int)) w2 v2 hc2 (by omega) (by omega)
      rw [eq]
      refine on q e' _ q1 (f2.tr q2) q3 q4 fun i hi => ?_
      rw [← hBB i hi]
      constructor
      · rintro ((y | y) | y)
        · exact Or.inl (Or.inl y)
        · exact Or.inl (Or.inr (by omega))
        · exact Or.inr y
      · rintro ((y | y) | y)
        · exact Or.inl (Or.inl y)
        · exact Or.inl (Or.inr (by omega))
        · exact Or.inr y
    -- from the target on
    have g38 : ∀ (s2 : hs_S) (e2 : Nat → Nat) (B2 : Nat → Prop), WT s2 → rF s s2 M a n → mv s2 M a n e2 → cl1 c e2 n B2 → (∀ i, i < n → (B2 i ↔ (B i ∨ (s_B c k ∧ s_isJ (c k) = true ∧ i = (s_tgt c k).toNat)))) → Tq (jX2_markBlocks_38 (fun y0 g => lX2_markBlocks_10 f M y0 g) M (nI k) s2) (fun q => WT q ∧ rF s q M a n ∧ ∃ e', mv q M a n e' ∧ cl1 c e' n (fun i => B i ∨ s_ma c n k i)) := by
      intro s2 e2 B2 w2 f2 v2 hc2 hB2
      obtain ⟨y1, y2, -⟩ := hc2 k h0
      have hck := hcb k h0
      obtain ⟨r, er, hr⟩ := x_jumpsAt w2 v2 (fun i hi => ⟨(hc2 i hi).1, (hc2 i hi).2.1⟩) h0
      have g62 : s_B c k → Tq (jX2_markBlocks_75 (fun y0 g => lX2_markBlocks_10 f M y0 g) M (nI k) s2) (fun q => WT q ∧ rF s q M a n ∧ ∃ e', mv q M a n e' ∧ cl1 c e' n (fun i => B i ∨ s_ma c n k i)) ∨ ¬ (s_isJ (c k) = true ∨ c k = 172 ∨ c k = 191) := by
        intro hB
        by_cases q : s_isJ (c k) = true ∨ c k = 172 ∨ c k = 191
        · left
          refine g75 s2 e2 B2 hB w2 f2 v2 hc2 fun i hi => ?_
          rw [hB2 i hi, ma hB i]
          unfold s_mk
          constructor
          · rintro (((y | ⟨-, y, y'⟩) | y) | y)
            · exact Or.inl y
            · exact Or.inr (Or.inl (Or.inl ⟨y, y'⟩))
            · exact Or.inr (Or.inl (Or.inr ⟨q, y⟩))
            · exact Or.inr (Or.inr y)
          · rintro (y | (⟨y, y'⟩ | ⟨-, y⟩) | y)
            · exact Or.inl (Or.inl (Or.inl y))
            · exact Or.inl (Or.inl (Or.inr ⟨hB, y, y'⟩))
            · exact Or.inl (Or.inr y)
            · exact Or.inr y
        · exact Or.inr q
      have g89 : (∀ i, i < n → ((B2 i ∨ s_ma c n (k + 1) i) ↔ (B i ∨ s_ma c n k i))) → Tq (jX2_markBlocks_89 (fun y0 g => lX2_markBlocks_10 f M y0 g) M (nI k) s2) (fun q => WT q ∧ rF s q M a n ∧ ∃ e', mv q M a n e' ∧ cl1 c e' n (fun i => B i ∨ s_ma c n k i)) := on s2 e2 B2 w2 f2 v2 hc2
      unfold jX2_markBlocks_38
      rw [if_pos (w2.k v2.1), x_beg_in w2 v2 h0]
      show Tq (if s_bI (eB (e2 k)) = 0 then _ else _) _
      cases cB : eB (e2 k)
      · rw [if_pos (by decide)]
        have nB : ¬ s_B c k := fun q => by have := y2.mpr q; rw [cB] at this; exact absurd this (by decide)
        unfold jX2_markBlocks_61 jX2_markBlocks_62
        rw [if_pos rfl, if_pos (w2.k v2.1), er]
        show Tq (if r = 0 then _ else _) _
        rw [if_pos (hr.mpr fun q => nB q.1)]
        refine g89 fun i hi => ?_
        rw [hB2 i hi, mn nB i]
        exact ⟨fun y => y.elim (fun y => y.elim Or.inl fun y => absurd y.1 nB) Or.inr, fun y => y.elim (fun y => Or.inl (Or.inl y)) Or.inr⟩
      · have hB : s_B c k := y2.mp cB
        rw [if_neg (by decide), if_pos (w2.k v2.1), x_val_in w2 v2 h0, y1]
        show Tq (hs_bd (fX4_endsWay (nI (c k)) s2) _) _
        rw [(x_kinds hck s2).2.2.2.1]
        show Tq (if s_bI (!(s_fl (c k))) = 0 then _ else _) _
        cases cf : s_fl (c k)
        · rw [if_neg (by decide)]
          unfold jX2_markBlocks_62
          rw [if_neg (by decide)]
          refine (g62 hB).resolve_right fun q => q ?_
          rcases s_isJ_fl cf with e | e | e | e
          · exact Or.inr (Or.inl e)
          · exact Or.inr (Or.inr e)
          · exact Or.inl (by rw [e]; decide)
          · exact Or.inl (by rw [e]; decide)
        · rw [if_pos (by decide)]
          unfold jX2_markBlocks_61 jX2_markBlocks_62
          rw [if_pos rfl, if_pos (w2.k v2.1), er]
          show Tq (if r = 0 then _ else _) _
          by_cases c1 : r = 0
          · rw [if_pos c1]
            have nJ : ¬ s_isJ (c k) = true := fun q => hr.mp c1 ⟨hB, q⟩
            have n1 : c k ≠ 172 := fun e => by rw [e] at cf; exact absurd cf (by decide)
            have n2 : c k ≠ 191 := fun e => by rw [e] at cf; exact absurd cf (by decide)
            refine g89 fun i hi => ?_
            rw [hB2 i hi, ma hB i]
            unfold s_mk
            constructor
            · rintro ((y | ⟨-, y, -⟩) | y)
              · exact Or.inl y
              · exact absurd y nJ
              · exact Or.inr (Or.inr y)
            · rintro (y | (⟨y, -⟩ | ⟨y, -⟩) | y)
              · exact Or.inl (Or.inl y)
              · exact absurd y nJ
              · rcases y with y | y | y
                · exact absurd y nJ
                · exact absurd y n1
                · exact absurd y n2
              · exact Or.inr y
          · rw [if_neg c1]
            refine (g62 hB).resolve_right fun q => q (Or.inl ?_)
            exact (Classical.byContradiction fun (p : ¬ (s_B c k ∧ s_isJ (c k) = true)) => c1 (hr.mpr p)).2
    obtain ⟨r, er, hr⟩ := x_jumpsAt w v (fun i hi => ⟨(hc i hi).1, (hc i hi).2.1⟩) h0
    rw [lX2_markBlocks_10, if_pos (w.k v.1), v.2.2.1, if_neg (fun q => absurd ((lei (by omega) (by omega)).mp q) (by omega)), er]
    show Tq (if r = 0 then _ else _) _
    by_cases c1 : r = 0
    · rw [if_pos c1]
      exact g38 s e B w rF.rf v hc fun i hi => ⟨Or.inl, fun y => y.elim id fun y => absurd ⟨y.1, y.2.1⟩ (hr.mp c1)⟩
    · obtain ⟨hB, hJ⟩ : s_B c k ∧ s_isJ (c k) = true := Classical.byContradiction fun q => c1 (hr.mpr q)
      have hok := hch k hB h0
      have tb := s_tgt_b hcb hn h0 hok hJ
      obtain ⟨t1, t2, t3⟩ := hjk k h0 hB hJ
      rw [if_neg c1, if_pos (w.k v.1), x_tgt w v (fun i hi => (hc i hi).1) h0 hok hJ]
      show Tq (if hs_kd s M = 6 then _ else none) _
      rw [if_pos (w.k v.1)]
      obtain ⟨q, eq, q1, q2, e', q3, q4⟩ := x_mk (z := s_tgt c k) w v hc tb.1 tb.2
      rw [eq]
      refine g38 q e' _ q1 q2 q3 q4 fun i hi => ?_
      constructor
      · rintro (y | y)
        · exact Or.inl y
        · exact Or.inr ⟨hB, hJ, by omega⟩
      · rintro (y | ⟨-, -, y⟩)
        · exact Or.inl y
        · exact Or.inr (by omega)
theorem x_hnum {s : hs_S} {M tb k i : Nat} (w : WT s) (hM : gm_k M = 6) (hR : hs_R s M 1 = tb + 1) (kt : gm_k tb = 100) (nt : gm_n tb = 32) (hk : k < 8) (hi : i < 4) : fX7_handlerNumber M (nI k) (nI i) s = some (hs_I s tb (4 * k + i), s) := by
  have e1 : nI k * (4 : Int32) + nI i = nI (4 * k + i) := by rw [show (4 : Int32) = nI 4 from rfl, pk_mul, nI_add, Nat.mul_comm]
  have e2 : hs_R s M 1 - 1 = tb := by rw [hR]; rfl
  unfold fX7_handlerNumber
  rw [if_pos (w.k hM), if_pos (w.f6_1 hM).1, e1, e2, yf_at w kt (by rw [nt]; omega)]
  rfl
theorem x_m97 {M tb a n h : Nat} {c R : Nat → Nat} (hn : n < 10000) (kt : gm_k tb = 100) (nt : gm_n tb = 32) (hh : h ≤ 8) (hRn : ∀ z, z < h → R (4 * z + 2) < n) : ∀ (d k f : Nat) (s : hs_S) (e : Nat → Nat) (B : Nat → Prop), k + d = h → d < f → WT s → mv s M a n e → cl1 c e n B → hs_R s M 1 = tb + 1 → hs_R s M 0 - 1 ≠ tb → hs_I s M 6 = nI h → (∀ i, i < 4 * h → hs_I s tb i = nI (R i)) →
    Tq (lX2_markBlocks_97 f M (nI k) s) (fun q => WT q ∧ rF s q M a n ∧ ∃ e', mv q M a n e' ∧ cl1 c e' n (fun i => B i ∨ ∃ z, k ≤ z ∧ z < h ∧ i = R (4 * z + 2)))
  | d, k, 0, s, e, B, _, hf, _, _, _, _, _, _, _ => absurd hf (Nat.not_lt_zero _)
  | 0, k, f + 1, s, e, B, hk, _, w, v, hc, _, _, h6, _ => by
    rw [lX2_markBlocks_97, if_pos (w.k v.1), h6, if_pos ((lei (by omega) (by omega)).mpr (by omega))]
    exact Tq.some ⟨w, rF.rf, e, v, hc.imp fun i hi => ⟨Or.inl, fun q => q.elim id fun y => by obtain ⟨j, j1, j2, -⟩ := y; omega⟩⟩
  | d + 1, k, f + 1, s, e, B, hk, hf, w, v, hc, hR1, hrow, h6, ht => by
    obtain ⟨lt1, lt2, lt3⟩ := v.lt w
    have e2 : fX7_handlerNumber M (nI k) (2 : Int32) s = some (nI (R (4 * k + 2)), s) := by
      have := x_hnum (i := 2) w v.1 hR1 kt nt (show k < 8 by omega) (by decide)
      rw [ht _ (by omega)] at this
      exact this
    have hb := hRn k (by omega)
    rw [lX2_markBlocks_97, if_pos (w.k v.1), h6, if_neg (fun q => absurd ((lei (by omega) (by omega)).mp q) (by omega)), e2]
    show Tq (if hs_kd s M = 6 then _ else none) _
    rw [if_pos (w.k v.1), ← zI_n]
    obtain ⟨q, eq, q1, q2, e', q3, q4⟩ := x_mk (z := ((R (4 * k + 2) : Nat) : Int)) w v hc (by omega) (by omega)
    rw [eq]
    show Tq (lX2_markBlocks_97 f M (nI k + (1 : Int32)) q) _
    rw [nI_1]
    refine (x_m97 hn kt nt hh hRn d (k + 1) f q e' _ (by omega) (by omega) q1 q3 q4 (by rw [q2.1]; exact hR1) (by rw [q2.1]; exact hrow) (by rw [q2.2.1 M (Ne.symm lt3)]; exact h6) (fun i hi => by rw [q2.2.1 tb (Ne.symm hrow)]; exact ht i hi)).mono fun r hr => ?_
    obtain ⟨r1, r2, e3, r3, r4⟩ := hr
    refine ⟨r1, q2.tr r2, e3, r3, r4.imp fun i hi => ?_⟩
    constructor
    · rintro ((y | y) | ⟨z, z1, z2, z3⟩)
      · exact Or.inl y
      · exact Or.inr ⟨k, Nat.le_refl _, by omega, by omega⟩
      · exact Or.inr ⟨z, by omega, z2, z3⟩
    · rintro (y | ⟨z, z1, z2, z3⟩)
      · exact Or.inl (Or.inl y)
      · by_cases e : z = k
        · rw [e] at z3; exact Or.inl (Or.inr (by omega))
        · exact Or.inr ⟨z, by omega, z2, z3⟩
theorem x_m126 {M a n : Nat} {e : Nat → Nat} (hn : n < 10000) : ∀ (d k f : Nat) (s : hs_S), k + d = n → d < f → WT s → mv s M a n e → hs_I s M 7 = nI (s_ct (fun i => eK (e i)) k) →
    Tq (lX2_markBlocks_126 f M (nI k) s) (fun q => WT q ∧ hs_R q = hs_R s ∧ (∀ b, b ≠ M → hs_I q b = hs_I s b) ∧ (∀ i, i ≠ 7 → hs_I q M i = hs_I s M i) ∧ hs_I q M 7 = nI (s_ct (fun i => eK (e i)) n))
  | d, k, 0, s, _, hf, _, _, _ => absurd hf (Nat.not_lt_zero _)
  | 0, k, f + 1, s, hk, _, w, v, h7 => by
    have lt := (v.lt w).1
    rw [lX2_markBlocks_126, if_pos (w.k v.1), v.2.2.1, if_pos ((lei (by omega) (by omega)).mpr (by omega))]
    have ek : k = n := by omega
    rw [ek] at h7
    exact Tq.some ⟨w, rfl, fun _ _ => rfl, fun _ _ => rfl, h7⟩
  | d + 1, k, f + 1, s, hk, hf, w, v, h7 => by
    obtain ⟨lt1, lt2, lt3⟩ := v.lt w
    have h0 : k < n := by omega
    have on : ∀ y : Nat, s_ct (fun i => eK (e i)) (k + 1) = s_ct (fun i => eK (e i)) k + y → Tq (jX2_markBlocks_152 (fun y0 g => lX2_markBlocks_126 f M y0 g) M (nI k) (nI y) (nI (s_ct (fun i => eK (e i)) k)) M s) (fun q => WT q ∧ hs_R q = hs_R s ∧ (∀ b, b ≠ M → hs_I q b = hs_I s b) ∧ (∀ i, i ≠ 7 → hs_I q M i = hs_I s M i) ∧ hs_I q M 7 = nI (s_ct (fun i => eK (e i)) n)) := by
      intro y hy
      unfold jX2_markBlocks_152
      rw [if_pos (w.k v.1), nI_1, nI_add, ← hy]
      have o : oW 0 false M 7 (nI (s_ct (fun i => eK (e i)) (k + 1))) := oW.m v.1 (by decide)
      have v1 : mv (hs_wI s M 7 (nI (s_ct (fun i => eK (e i)) (k + 1)))) M a n e := by
        refine v.fr ?_ ?_ rfl fun i hi => ?_
        · rw [hs_I_w, if_pos rfl, if_neg (by decide)]
        · rw [hs_I_w, if_pos rfl, if_neg (by decide)]
        · rw [hs_I_w, if_neg lt3]
      refine (x_m126 hn d (k + 1) f _ (by omega) (by omega) (w.w o) v1 (by rw [hs_I_w, if_pos rfl, if_pos rfl])).mono fun q hq => ?_
      obtain ⟨q1, q2, q3, q4, q5⟩ := hq
      refine ⟨q1, q2, fun b hb => (q3 b hb).trans (funext fun i => by rw [hs_I_w, if_neg hb]), fun i hi => (q4 i hi).trans (by rw [hs_I_w, if_pos rfl, if_neg hi]), q5⟩
    rw [lX2_markBlocks_126, if_pos (w.k v.1), v.2.2.1, if_neg (fun q => absurd ((lei (by omega) (by omega)).mp q) (by omega)), x_blk_in w v h0, h7]
    show Tq (if s_bI (eK (e k)) = 0 then _ else _) _
    cases c1 : eK (e k)
    · rw [if_pos (by decide)]
      exact on 0 (by rw [s_ct]; simp [c1])
    · rw [if_neg (by decide)]
      exact on 1 (by rw [s_ct]; simp [c1])
/-- markBlocks() -/
theorem x_blocks {v0 M tb a n l N h : Nat} {c e R : Nat → Nat} {s : hs_S} (hn : n < 10000) (hn0 : 1 ≤ n) (kt : gm_k tb = 100) (nt : gm_n tb = 32) (hh : h ≤ 8) (hch : s_chain c l N n) (hjk : ∀ k, k < n → s_jk c n k) (hRn : ∀ z, z < h → R (4 * z + 2) < n) (w : WT s) (v : mv s M a n e) (hc : cl0 c e n n) (hR1 : hs_R s M 1 = tb + 1) (hrow : hs_R s M 0 - 1 ≠ tb) (h6 : hs_I s M 6 = nI h) (h7 : hs_I s M 7 = nI 0) (ht : ∀ i, i < 4 * h → hs_I s tb i = nI (R i)) :
    Tq (fX2_markBlocks v0 M s) (fun q => WT q ∧ hs_R q = hs_R s ∧ (∀ b, b ≠ M → b ≠ hs_R s M 0 - 1 → hs_I q b = hs_I s b) ∧ (∀ i, (i < a ∨ a + n ≤ i) → hs_I q (hs_R s M 0 - 1) i = hs_I s (hs_R s M 0 - 1) i) ∧ (∀ i, i ≠ 7 → hs_I q M i = hs_I s M i) ∧ ∃ e', mv q M a n e' ∧ cl1 c e' n (s_bl c n h R) ∧ hs_I q M 7 = nI (s_ct (fun i => eK (e' i)) n)) := by
  obtain ⟨lt1, lt2, lt3⟩ := v.lt w
  have c0 : cl1 c e n (fun _ => False) := fun i hi => ⟨(hc i hi).1, (hc.h i hi).2, by rw [(hc i hi).2.2]; exact ⟨fun y => absurd y (by decide), fun y => y.elim⟩⟩
  have z0 : (0 : Int32) = zI ((0 : Nat) : Int) := (zI_n 0).symm
  have n0 : (0 : Int32) = nI 0 := rfl
  unfold fX2_markBlocks
  rw [if_pos (w.k v.1)]
  obtain ⟨q1, E1, w1, f1, e1, v1, m1⟩ := x_mk (z := ((0 : Nat) : Int)) w v c0 (by decide) (by decide)
  rw [z0, E1]
  show Tq (hs_bv (lX2_markBlocks_10 hs_N M (zI ((0 : Nat) : Int)) q1) _) _
  rw [← z0, n0]
  obtain ⟨q2, E2, w2, f2, e2, v2, m2⟩ := x_m10 hn hch hjk n 0 hs_N q1 e1 _ (by omega) (by unfold hs_N; omega) w1 v1 m1
  rw [E2]
  show Tq (hs_bv (lX2_markBlocks_97 hs_N M (nI 0) q2) _) _
  have F2 := f1.tr f2
  obtain ⟨q3, E3, w3, f3, e3, v3, m3⟩ := x_m97 hn kt nt hh hRn h 0 hs_N q2 e2 _ (by omega) (by unfold hs_N; omega) w2 v2 m2 (by rw [F2.1]; exact hR1) (by rw [F2.1]; exact hrow) (by rw [F2.2.1 M (Ne.symm lt3)]; exact h6) (fun i hi => by rw [F2.2.1 tb (Ne.symm hrow)]; exact ht i hi)
  rw [E3]
  show Tq (hs_bv (lX2_markBlocks_126 hs_N M (nI 0) q3) _) _
  have F3 := F2.tr f3
  obtain ⟨q4, E4, w4, R4, b4, i4, c4⟩ := x_m126 (e := e3) hn n 0 hs_N q3 (by omega) (by unfold hs_N; omega) w3 v3 (by rw [F3.2.1 M (Ne.symm lt3)]; exact h7)
  rw [E4]
  refine Tq.some ⟨w4, R4.trans F3.1, fun b h1 h2 => (b4 b h1).trans (F3.2.1 b h2), fun i hi => (by rw [b4 _ lt3]; exact F3.2.2 i hi), fun i hi => (i4 i hi).trans (by rw [F3.2.1 M (Ne.symm lt3)]), e3, ?_, ?_, c4⟩
  · refine v3.fr (i4 2 (by decide)) (i4 3 (by decide)) (by rw [R4]) fun i hi => ?_
    rw [b4 _ (by rw [F3.1]; exact lt3)]
  · refine m3.imp fun i hi => ?_
    unfold s_bl
    constructor
    · rintro (((y | y) | y) | ⟨z, -, z2, z3⟩)
      · exact y.elim
      · exact Or.inl (by omega)
      · exact Or.inr (Or.inr y)
      · exact Or.inr (Or.inl ⟨z, z2, z3⟩)
    · rintro (y | ⟨z, z2, z3⟩ | y)
      · exact Or.inl (Or.inl (Or.inr (by omega)))
      · exact Or.inr ⟨z, Nat.zero_le z, z2, z3⟩
      · exact Or.inl (Or.inr y)
