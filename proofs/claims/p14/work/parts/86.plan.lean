/-- the ways stand in the row -/
def wyS (s : hs_S) (n : Nat) (c pl S : Nat → Nat) : Prop := ∀ j, j < n → s_B c j → s_isJ (c j) = true → hs_I s 98 j = zI ((S (s_tgt c j).toNat : Int) - (S j + pl j : Nat))
theorem wF.yf {s q : hs_S} (h : wF s q) : yF s q := ⟨h.1, fun b hb => h.2 b (by omega) (by omega)⟩
theorem zF.yf {s q : hs_S} (h : zF s q 97) : yF s q := ⟨h.1, fun b hb => h.2 b (by omega)⟩
theorem lyS.cg {s : hs_S} {M a n : Nat} {e P c : Nat → Nat} {far far' : Nat → Bool} {pd : Bool} (h : lyS s M a n e P c far pd) (hf : ∀ i, i < n → far i = far' i) : lyS s M a n e P c far' pd :=
  ⟨h.1, h.2.1, h.2.2.1, h.2.2.2.1, h.2.2.2.2.1, h.2.2.2.2.2.1, h.2.2.2.2.2.2.1, fun i hi => by rw [← hf i hi]; exact h.2.2.2.2.2.2.2 i hi⟩
theorem x_len {s : hs_S} {M a n l N : Nat} {e P c S : Nat → Nat} {far far0 : Nat → Bool} {pd : Bool} (hc : lyC n l N e P c) (hy : lyP c (s_pl P c n (fun i => eK (e i)) pd) n far0 S) (hjk : ∀ k, k < n → s_jk c n k) (h : lyS s M a n e P c far pd) (hp : plS s n c S) :
    Tq (fX5_lengthen 95 M s) (fun q => (q.1 = 0 ↔ ∀ j, j < n → s_uf c (s_pl P c n (fun i => eK (e i)) pd) S j → far j = true) ∧ wF s q.2 ∧ (∃ far', lyS q.2 M a n e P c far' pd ∧ ∀ j, j < n → (far' j = true ↔ far j = true ∨ s_uf c (s_pl P c n (fun i => eK (e i)) pd) S j)) ∧ wyS q.2 n c (s_pl P c n (fun i => eK (e i)) pd) S) := by
  have hn := hc.1
  obtain ⟨⟨r, q⟩, E, q1, q2, q3, ⟨far', q4, q5⟩, q6, -⟩ := x_l4 hc hy hjk n 0 hs_N s far 0 (by omega) (by unfold hs_N; omega) (Or.inl rfl) h hp
  have E' : lX5_lengthen_4 hs_N 95 M (0 : Int32) (0 : Int32) s = some (r, q) := E
  have q1 : r = 0 ∨ r = 1 := q1
  have q2 : r = 0 ↔ ((0 : Int32) = 0 ∧ ∀ j, 0 ≤ j → j < n → s_uf c (s_pl P c n (fun i => eK (e i)) pd) S j → far j = true) := q2
  have h01 : hs_01 r = true := by
    rcases q1 with e | e <;> rw [e] <;> decide
  unfold fX5_lengthen
  rw [E', hs_bd_s, if_pos h01]
  refine Tq.some ⟨?_, q3, ⟨far', q4, fun j hj => ?_⟩, fun j j1 j2 j3 => q6 j (Nat.zero_le j) j1 j2 j3⟩
  · show r = 0 ↔ _
    rw [q2]
    exact ⟨fun z j j1 j2 => z.2 j (Nat.zero_le j) j1 j2, fun z => ⟨rfl, fun j _ j1 j2 => z j j1 j2⟩⟩
  · rw [q5 j hj]
    exact ⟨fun z => z.elim Or.inl fun y => Or.inr y.2, fun z => z.elim Or.inl fun y => Or.inr ⟨Nat.zero_le j, y⟩⟩
theorem s_ct_n (b : Nat → Bool) : ∀ n, s_ct b n = n → ∀ i, i < n → b i = true
  | 0, _, i, hi => absurd hi (Nat.not_lt_zero _)
  | n + 1, h, i, hi => by
    have h' : s_ct b n + (if b n = true then 1 else 0) = n + 1 := h
    have hle := s_ct_le b n
    have h1 : b n = true := by
      by_cases q : b n = true
      · exact q
      · rw [if_neg q] at h'; omega
    rw [if_pos h1] at h'
    by_cases e : i = n
    · rw [e]; exact h1
    · exact s_ct_n b n (by omega) i (by omega)
theorem x_p29 {M a n l N : Nat} {e P c : Nat → Nat} {pd : Bool} (hc : lyC n l N e P c) (hjk : ∀ k, k < n → s_jk c n k) (hn0 : 1 ≤ n) : ∀ (f τ : Nat) (s : hs_S) (far : Nat → Bool) (S : Nat → Nat), s_ct (fun i => !(far i)) n < f → τ ≤ s_ct far n → lyS s M a n e P c far pd → plS s n c S → lyP c (s_pl P c n (fun i => eK (e i)) pd) n far S → (∃ r, s_Fa c (s_pl P c n (fun i => eK (e i)) pd) n r far) → (∀ j, j < n → far j = true → s_B c j ∧ s_isJ (c j) = true) →
    Tq (lX5_plan_29 f 95 M (nI (S n)) (nI τ) s) (fun q => yF s q.2 ∧ ∃ far' S', q.1 = nI (S' n) ∧ lyS q.2 M a n e P c far' pd ∧ plS q.2 n c S' ∧ s_Lo c (s_pl P c n (fun i => eK (e i)) pd) n far' S' ∧ lyP c (s_pl P c n (fun i => eK (e i)) pd) n far' S' ∧ wyS q.2 n c (s_pl P c n (fun i => eK (e i)) pd) S')
  | 0, τ, s, far, S, hf, _, _, _, _, _, _ => absurd hf (Nat.not_lt_zero _)
  | f + 1, τ, s, far, S, hf, hτ, h, hp, hy, hr, hfj => by
    have w := h.1
    have v := h.2.2.1
    have lt := (v.lt w).1
    have hle := s_ct_le far n
    have hτn : τ < n := by
      by_cases q : τ < n
      · exact q
      · have all := s_ct_n far n (by omega)
        obtain ⟨hB0, hJ0⟩ := hfj 0 hn0 (all 0 hn0)
        have hsz := (s_isJ_sz hJ0).1
        have hok := (hc.2.1 0 hB0 hn0).2.1
        obtain ⟨hB1, -⟩ := hfj 1 (by omega) (all 1 (by omega))
        exact absurd hB1 (s_B_gap hB0 (by omega) (by omega))
    obtain ⟨⟨r, q⟩, E, q1, q2, ⟨far', q4, q5⟩, q6⟩ := x_len hc hy hjk h hp
    have q2 : wF s q := q2
    have q1 : r = 0 ↔ ∀ j, j < n → s_uf c (s_pl P c n (fun i => eK (e i)) pd) S j → far j = true := q1
    rw [lX5_plan_29, if_pos (w.k v.1), v.2.2.1, if_neg (fun z => absurd ((lei (by omega) (by omega)).mp z) (by omega)), if_pos (w.k gk_95.1), E, hs_bd_s]
    by_cases c0 : r = 0
    · rw [if_pos c0]
      have huf := q1.mp c0
      have eqf : ∀ i, i < n → far' i = far i := fun i hi => by
        have h1 := q5 i hi
        cases z1 : far' i <;> cases z2 : far i
        · rfl
        · rw [z1, z2] at h1; exact absurd (h1.mpr (Or.inl rfl)) (by decide)
        · rw [z1, z2] at h1
          rcases h1.mp rfl with y | y
          · exact absurd y (by decide)
          · exact absurd ((z2.symm.trans (huf i hi y))) (by decide)
        · rfl
      exact Tq.some ⟨q2.yf, far, S, rfl, q4.cg eqf, hp.wf q2, ⟨hy.1, hy.2.1, huf, hr⟩, hy, q6⟩
    · obtain ⟨j0, j1, j2, j3⟩ : ∃ j, j < n ∧ s_uf c (s_pl P c n (fun i => eK (e i)) pd) S j ∧ far j = false := by
        apply Classical.byContradiction
        intro z
        apply c0
        refine q1.mpr fun j hj hu => ?_
        cases y : far j
        · exact absurd ⟨j, hj, hu, y⟩ z
        · rfl
      have q4 : lyS q M a n e P c far' pd := q4
      have q5 : ∀ j, j < n → (far' j = true ↔ far j = true ∨ s_uf c (s_pl P c n (fun i => eK (e i)) pd) S j) := q5
      rw [if_neg c0, if_pos (q4.1.k gk_95.1)]
      obtain ⟨⟨r3, q3⟩, E3, S3, a1, a2, a3, a4, a5, a6⟩ := x_placeAll hc q4
      have a3 : r3 = nI (S3 n) := a3
      have a5 : zF q q3 97 := a5
      rw [E3, hs_bd_s, a3, nI_1]
      have lt2 : s_ct (fun i => !(far' i)) n < s_ct (fun i => !(far i)) n := s_ct_lt2 n (fun i hi z => by
        have z' : far' i = false := by simpa using z
        cases y : far i
        · rfl
        · have := (q5 i hi).mpr (Or.inl y)
          rw [z'] at this
          exact absurd this (by decide)) ⟨j0, j1, by simp [j3], by simp [(q5 j0 j1).mpr (Or.inr j2)]⟩
      have lt3 : s_ct far n < s_ct far' n := s_ct_lt2 n (fun i hi z => (q5 i hi).mpr (Or.inl z)) ⟨j0, j1, (q5 j0 j1).mpr (Or.inr j2), j3⟩
      obtain ⟨r0, hr0⟩ := hr
      refine (x_p29 hc hjk hn0 f (τ + 1) q3 far' S3 (by omega) (by omega) a4 a6 (lyP.of hc.2.1 hc.1 a1 a2) ⟨r0 + 1, far, S, hr0, hy.1, hy.2.1, ⟨j0, j1, j2, j3⟩, q5⟩ (fun j hj z => ?_)).mono fun z hz => ⟨(q2.yf.tr a5.yf).tr hz.1, hz.2⟩
      rcases (q5 j hj).mp z with y | y
      · exact hfj j hj y
      · exact ⟨y.1, y.2.1⟩
/-- plan() -/
theorem x_plan {s : hs_S} {M a n l N : Nat} {e P c : Nat → Nat} {B : Nat → Prop} {pd : Bool} (hn : n ≤ 2000) (hn0 : 1 ≤ n) (hcl : cl1 c e n B) (hBb : ∀ i, i < n → B i → s_B c i) (hch : s_chain c l N n) (hjk : ∀ k, k < n → s_jk c n k) (hP1 : ∀ k, k < 256 → P k ≤ 1000) (hM95 : M < 95) (w : WT s) (hL : LR (hs_R s)) (v : mv s M a n e) (hrow : hs_R s M 0 - 1 < 95) (hP : pP s P) :
    Tq (fX5_plan 95 M 89 (s_bI pd) s) (fun q => yF s q.2 ∧ ∃ far S, q.1 = nI (S n) ∧ lyS q.2 M a n e P c far pd ∧ plS q.2 n c S ∧ s_Lo c (s_pl P c n (fun i => eK (e i)) pd) n far S ∧ lyP c (s_pl P c n (fun i => eK (e i)) pd) n far S ∧ wyS q.2 n c (s_pl P c n (fun i => eK (e i)) pd) S) := by
  have hc : lyC n l N e P c := ⟨hn, hch, fun i hi => ⟨(hcl i hi).1, (hcl i hi).2.1⟩, hP1⟩
  have h01 : hs_01 (s_bI pd) = true := by cases pd <;> decide
  have w1 : WT (hs_wI s 95 4 (s_bI pd)) := w.w (ly_o (s := 0) (b := false) (by omega) (by omega))
  have f1 : yF s (hs_wI s 95 4 (s_bI pd)) := yF.rf.w (by omega) (by omega)
  have i1 : hs_I (hs_wI s 95 4 (s_bI pd)) 95 4 = s_bI pd := hs_I_eq _ _ _ _
  unfold fX5_plan
  rw [if_pos (w.k gk_95.1), if_pos h01]
  obtain ⟨q2, E2, w2, f2, h2, s2⟩ := x_sums (P := P) (pd := pd) hM95 hn hcl hBb hch w1 hL (v.yf f1 hM95 hrow) hrow (fun z hz => by rw [f1.2 90 (by omega)]; exact hP z hz) i1
  have f2' := f1.tr f2
  have r3 : hs_R q2 95 3 - 1 = 99 := by rw [f2'.1, hL.2.2.2]
  have r3n : ¬ hs_R q2 95 3 = 0 := by rw [f2'.1, hL.2.2.2]; decide
  rw [E2]
  show Tq (if hs_kd q2 95 = 4 then _ else none) _
  rw [if_pos (w2.k gk_95.1), if_pos r3n, r3]
  obtain ⟨q3, E3, ⟨w3, R3, b3⟩, p3⟩ := yf_fill (v1 := 0) gk_95.2.2.2.2.2.2.2.1 gk_95.2.2.2.2.2.2.2.2 w2
  have f3 : yF q2 q3 := ⟨R3, fun b hb => b3 b (by omega)⟩
  have f3' := f2'.tr f3
  rw [E3]
  show Tq (if hs_kd q3 95 = 4 then _ else none) _
  have L3 : lyS q3 M a n e P c (fun _ => false) pd := ⟨w3, by rw [f3'.1]; exact hL, v.yf f3' hM95 hrow, hM95, by rw [f3'.1]; exact hrow, fun i hi => by rw [b3 96 (by decide)]; exact s2 i hi, by rw [b3 95 (by decide), h2]; exact i1, fun i hi => by rw [p3 i (by omega)]; rfl⟩
  rw [if_pos (w3.k gk_95.1)]
  obtain ⟨⟨r4, q4⟩, E4, S4, a1, a2, a3, a4, a5, a6⟩ := x_placeAll hc L3
  have a3 : r4 = nI (S4 n) := a3
  have a5 : zF q3 q4 97 := a5
  have e0 : (0 : Int32) = nI 0 := rfl
  rw [E4, hs_bd_s, a3, e0]
  obtain ⟨⟨r5, q5⟩, E5, f5, h5⟩ := x_p29 hc hjk hn0 hs_N 0 q4 (fun _ => false) S4 (Nat.lt_of_le_of_lt (s_ct_le _ n) (by unfold hs_N; omega)) (Nat.zero_le _) a4 a6 (lyP.of hch hn a1 a2) ⟨0, fun _ _ => rfl⟩ (fun j hj z => absurd z (by decide))
  rw [E5, hs_bd_s]
  exact Tq.some ⟨(f3'.tr a5.yf).tr f5, h5⟩
