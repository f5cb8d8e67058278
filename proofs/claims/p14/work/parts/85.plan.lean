/-! LAYOUT: THE LONG JUMPS -/
theorem S_le6 {c pl S : Nat → Nat} {ln : Nat → Nat} {n l N : Nat} (hch : s_chain c l N n) (h0 : S 0 = 0) (hS : ∀ j, s_B c j → j < n → S (j + s_sz (c j)) = S j + pl j + ln j) (hw : ∀ j, 0 < s_sz (c j) → pl j + ln j ≤ 6 * s_sz (c j)) : ∀ i, s_it c i ≤ n → S (s_it c i) ≤ 6 * s_it c i
  | 0, _ => by show S 0 ≤ 6 * 0; omega
  | i + 1, h => by
    have h' : s_it c i + s_sz (c (s_it c i)) ≤ n := h
    have ih := S_le6 hch h0 hS hw i (by omega)
    show S (s_it c i + s_sz (c (s_it c i))) ≤ 6 * (s_it c i + s_sz (c (s_it c i)))
    by_cases c1 : s_it c i < n
    · have hB : s_B c (s_it c i) := ⟨i, rfl⟩
      have hs := s_isK_sz (hch _ hB c1).1
      have := hw (s_it c i) hs
      rw [hS _ hB c1]
      omega
    · have : s_sz (c (s_it c i)) = 0 := by omega
      rw [this, Nat.add_zero]
      exact ih
/-- a layout, as far as it is laid -/
def lyP (c pl : Nat → Nat) (n : Nat) (far : Nat → Bool) (S : Nat → Nat) : Prop := S 0 = 0 ∧ (∀ j, s_B c j → j < n → S (j + s_sz (c j)) = S j + pl j + s_ln c far j) ∧ ∀ j, s_B c j → j ≤ n → S j ≤ 12000
theorem lyP.of {P c S : Nat → Nat} {b far : Nat → Bool} {pd : Bool} {n l N : Nat} (hch : s_chain c l N n) (hn : n ≤ 2000) (h0 : S 0 = 0) (hS : ∀ j, s_B c j → j < n → S (j + s_sz (c j)) = S j + s_pl P c n b pd j + s_ln c far j) : lyP c (s_pl P c n b pd) n far S := by
  refine ⟨h0, hS, fun j hj hn2 => ?_⟩
  obtain ⟨i, rfl⟩ := hj
  have := S_le6 (ln := s_ln c far) hch h0 hS (fun j hs => s_w_le P c n b far pd hs) i hn2
  omega
theorem x_way {s : hs_S} {M a n l N k : Nat} {e P c S : Nat → Nat} {far far0 : Nat → Bool} {pd : Bool} (h : lyS s M a n e P c far pd) (hc : lyC n l N e P c) (hp : plS s n c S) (hy : lyP c (s_pl P c n (fun i => eK (e i)) pd) n far0 S) (hjk : ∀ k, k < n → s_jk c n k) (hk : k < n) (hB : s_B c k) (hJ : s_isJ (c k) = true) : fX5_wayOf 95 M (nI k) s = some (zI ((S (s_tgt c k).toNat : Int) - (S k + s_pl P c n (fun i => eK (e i)) pd k : Nat)), s) := by
  have w := h.1
  have v := h.2.2.1
  have hL := h.2.1
  have hn := hc.1
  have r1 : hs_R s 95 1 - 1 = 97 := by rw [hL.2.1]
  have r1n : ¬ hs_R s 95 1 = 0 := by rw [hL.2.1]; decide
  obtain ⟨t1, t2, t3⟩ := hjk k hk hB hJ
  have hpl : s_pl P c n (fun i => eK (e i)) pd k = s_pay P c n (fun i => eK (e i)) pd k := by
    unfold s_pl
    rw [if_neg (fun q => by rw [q.2] at hJ; exact absurd hJ (by decide)), Nat.add_zero]
  generalize hT : (s_tgt c k).toNat = T at t3
  have eT : s_tgt c k = (T : Int) := by omega
  unfold fX5_wayOf
  rw [if_pos (w.k gk_95.1), if_pos r1n, r1, yf_at w gk_95.2.2.2.1 (by rw [gk_95.2.2.2.2.1]; omega), hs_bd_s, hp.1 k hk hB, if_pos (w.k gk_95.1), x_sumB h hc hk, hs_bd_s, if_pos (w.k gk_95.1), if_pos r1n, if_pos (w.k v.1), x_tgt w v (fun i hi => (hc.2.2.1 i hi).1) hk (hc.2.1 k hB hk) hJ, hs_bd_s, eT, zI_n, r1, yf_at w gk_95.2.2.2.1 (by rw [gk_95.2.2.2.2.1]; omega), hs_bd_s, hp.1 T (by omega) t3, nI_add, nz_sub, hpl]
theorem lyS.w98 {s : hs_S} {M a n i : Nat} {e P c : Nat → Nat} {far : Nat → Bool} {pd : Bool} {z : Int32} (h : lyS s M a n e P c far pd) : lyS (hs_wI s 98 i z) M a n e P c far pd := h.w (Or.inr rfl)
theorem lyS.w99 {s : hs_S} {M a n k : Nat} {e P c : Nat → Nat} {far : Nat → Bool} {pd : Bool} (h : lyS s M a n e P c far pd) : lyS (hs_wI s 99 k 1) M a n e P c (fun i => if i = k then true else far i) pd := by
  obtain ⟨h1, h2, h3, h4, h5, h6, h7, h8⟩ := h
  have f : yF s (hs_wI s 99 k 1) := yF.rf.w (by omega) (by omega)
  refine ⟨h1.w (ly_o (s := 0) (b := false) (by omega) (by omega)), h2, h3.yf f h4 h5, h4, h5, fun j hj => by rw [hs_I_w, if_neg (by decide)]; exact h6 j hj, by rw [hs_I_w, if_neg (by decide)]; exact h7, fun j hj => ?_⟩
  show hs_I (hs_wI s 99 k 1) 99 j = s_bI (if j = k then true else far j)
  rw [hs_I_w, if_pos rfl]
  by_cases q : j = k
  · rw [if_pos q, if_pos q]; rfl
  · rw [if_neg q, if_neg q]; exact h8 j hj
/-- only ways and longs are written -/
def wF (s q : hs_S) : Prop := hs_R q = hs_R s ∧ ∀ b, b ≠ 98 → b ≠ 99 → hs_I q b = hs_I s b
theorem wF.tr {s q r : hs_S} (h : wF s q) (h' : wF q r) : wF s r := ⟨h'.1.trans h.1, fun b h1 h2 => (h'.2 b h1 h2).trans (h.2 b h1 h2)⟩
theorem wF.w {s q : hs_S} {a i : Nat} {z : Int32} (h : wF s q) (ha : a = 98 ∨ a = 99) : wF s (hs_wI q a i z) := ⟨h.1, fun b h1 h2 => (funext fun i => by rw [hs_I_w, if_neg (by omega)]).trans (h.2 b h1 h2)⟩
theorem plS.wf {s q : hs_S} {n : Nat} {c S : Nat → Nat} (h : plS s n c S) (f : wF s q) : plS q n c S := ⟨fun i i1 i2 => by rw [f.2 97 (by decide) (by decide)]; exact h.1 i i1 i2, by rw [f.2 97 (by decide) (by decide)]; exact h.2⟩
theorem x_l4 {M a n l N : Nat} {e P c S : Nat → Nat} {far0 : Nat → Bool} {pd : Bool} (hc : lyC n l N e P c) (hy : lyP c (s_pl P c n (fun i => eK (e i)) pd) n far0 S) (hjk : ∀ k, k < n → s_jk c n k) : ∀ (d k f : Nat) (s : hs_S) (far : Nat → Bool) (an : Int32), k + d = n → d < f → (an = 0 ∨ an = 1) → lyS s M a n e P c far pd → plS s n c S →
    Tq (lX5_lengthen_4 f 95 M an (nI k) s) (fun q => (q.1 = 0 ∨ q.1 = 1) ∧ (q.1 = 0 ↔ (an = 0 ∧ ∀ j, k ≤ j → j < n → s_uf c (s_pl P c n (fun i => eK (e i)) pd) S j → far j = true)) ∧ wF s q.2 ∧ (∃ far', lyS q.2 M a n e P c far' pd ∧ ∀ j, j < n → (far' j = true ↔ far j = true ∨ (k ≤ j ∧ s_uf c (s_pl P c n (fun i => eK (e i)) pd) S j))) ∧ (∀ j, k ≤ j → j < n → s_B c j → s_isJ (c j) = true → hs_I q.2 98 j = zI ((S (s_tgt c j).toNat : Int) - (S j + s_pl P c n (fun i => eK (e i)) pd j : Nat))) ∧ ∀ j, j < k → hs_I q.2 98 j = hs_I s 98 j)
  | d, k, 0, s, far, an, _, hf, _, _, _ => absurd hf (Nat.not_lt_zero _)
  | 0, k, f + 1, s, far, an, hk, _, ha, h, hp => by
    have lt := (h.2.2.1.lt h.1).1
    rw [lX5_lengthen_4, if_pos (h.1.k h.2.2.1.1), h.2.2.1.2.2.1, if_pos ((lei (by omega) (by omega)).mpr (by omega))]
    exact Tq.some ⟨ha, ⟨fun q => ⟨q, fun j j1 j2 => absurd j2 (by omega)⟩, fun q => q.1⟩, ⟨rfl, fun _ _ _ => rfl⟩, ⟨far, h, fun j hj => ⟨Or.inl, fun q => q.elim id fun q => absurd q.1 (by omega)⟩⟩, fun j j1 j2 => absurd j2 (by omega), fun _ _ => rfl⟩
  | d + 1, k, f + 1, s, far, an, hk, hf, ha, h, hp => by
    have w := h.1
    have v := h.2.2.1
    have lt := (v.lt w).1
    have hn := hc.1
    have h0 : k < n := by omega
    have hL := h.2.1
    have r2 : hs_R s 95 2 - 1 = 98 := by rw [hL.2.2.1]
    have r2n : ¬ hs_R s 95 2 = 0 := by rw [hL.2.2.1]; decide
    have r3 : hs_R s 95 3 - 1 = 99 := by rw [hL.2.2.2]
    have r3n : ¬ hs_R s 95 3 = 0 := by rw [hL.2.2.2]; decide
    obtain ⟨r, er, hr⟩ := x_jumpsAt w v hc.2.2.1 h0
    -- on behind k
    have on : ∀ (s2 : hs_S) (far2 : Nat → Bool) (an2 : Int32), (an2 = 0 ∨ an2 = 1) → lyS s2 M a n e P c far2 pd → plS s2 n c S → wF s s2 → (∀ j, j < n → (far2 j = true ↔ far j = true ∨ (j = k ∧ s_uf c (s_pl P c n (fun i => eK (e i)) pd) S k))) → (an2 = 0 ↔ an = 0 ∧ (s_uf c (s_pl P c n (fun i => eK (e i)) pd) S k → far k = true)) → (s_B c k → s_isJ (c k) = true → hs_I s2 98 k = zI ((S (s_tgt c k).toNat : Int) - (S k + s_pl P c n (fun i => eK (e i)) pd k : Nat))) → (∀ j, j < k → hs_I s2 98 j = hs_I s 98 j) →
        Tq (jX5_lengthen_71 (fun y0 y1 g => lX5_lengthen_4 f 95 M y0 y1 g) 95 M an2 (nI k) s2) (fun q => (q.1 = 0 ∨ q.1 = 1) ∧ (q.1 = 0 ↔ (an = 0 ∧ ∀ j, k ≤ j → j < n → s_uf c (s_pl P c n (fun i => eK (e i)) pd) S j → far j = true)) ∧ wF s q.2 ∧ (∃ far', lyS q.2 M a n e P c far' pd ∧ ∀ j, j < n → (far' j = true ↔ far j = true ∨ (k ≤ j ∧ s_uf c (s_pl P c n (fun i => eK (e i)) pd) S j))) ∧ (∀ j, k ≤ j → j < n → s_B c j → s_isJ (c j) = true → hs_I q.2 98 j = zI ((S (s_tgt c j).toNat : Int) - (S j + s_pl P c n (fun i => eK (e i)) pd j : Nat))) ∧ ∀ j, j < k → hs_I q.2 98 j = hs_I s 98 j) := by
      intro s2 far2 an2 ha2 h2 hp2 f2 hfar2 han2 hw2 ho2
      unfold jX5_lengthen_71
      rw [nI_1]
      refine (x_l4 hc hy hjk d (k + 1) f s2 far2 an2 (by omega) (by omega) ha2 h2 hp2).mono fun q hq => ?_
      obtain ⟨q1, q2, q3, ⟨far', q4, q5⟩, q6, q7⟩ := hq
      refine ⟨q1, ?_, f2.tr q3, ⟨far', q4, fun j hj => ?_⟩, fun j j1 j2 j3 j4 => ?_, fun j hj => (q7 j (by omega)).trans (ho2 j hj)⟩
      · rw [q2, han2]
        constructor
        · rintro ⟨⟨p1, p2⟩, p3⟩
          refine ⟨p1, fun j j1 j2 j3 => ?_⟩
          by_cases z : j = k
          · rw [z] at j3 ⊢; exact p2 j3
          · rcases (hfar2 j j2).mp (p3 j (by omega) j2 j3) with y | y
            · exact y
            · exact absurd y.1 z
        · rintro ⟨p1, p2⟩
          exact ⟨⟨p1, fun z => p2 k (Nat.le_refl _) h0 z⟩, fun j j1 j2 j3 => (hfar2 j j2).mpr (Or.inl (p2 j (by omega) j2 j3))⟩
      · rw [q5 j hj, hfar2 j hj]
        constructor
        · rintro ((y | ⟨y1, y2⟩) | ⟨y1, y2⟩)
          · exact Or.inl y
          · exact Or.inr ⟨by omega, by rw [y1]; exact y2⟩
          · exact Or.inr ⟨by omega, y2⟩
        · rintro (y | ⟨y1, y2⟩)
          · exact Or.inl (Or.inl y)
          · by_cases z : j = k
            · rw [z] at y2; exact Or.inl (Or.inr ⟨z, y2⟩)
            · exact Or.inr ⟨by omega, y2⟩
      · by_cases z : j = k
        · rw [z] at j3 j4 ⊢
          rw [q7 k (by omega)]
          exact hw2 j3 j4
        · exact q6 j (by omega) j2 j3 j4
    rw [lX5_lengthen_4, if_pos (w.k v.1), v.2.2.1, if_neg (fun q => absurd ((lei (by omega) (by omega)).mp q) (by omega)), er, hs_bd_s]
    by_cases c1 : r = 0
    · rw [if_pos c1]
      have nu : ¬ s_uf c (s_pl P c n (fun i => eK (e i)) pd) S k := fun q => hr.mp c1 ⟨q.1, q.2.1⟩
      exact on s far an ha h hp ⟨rfl, fun _ _ _ => rfl⟩ (fun j hj => ⟨Or.inl, fun q => q.elim id fun q => absurd q.2 nu⟩) ⟨fun q => ⟨q, fun z => absurd z nu⟩, fun q => q.1⟩ (fun z1 z2 => absurd ⟨z1, z2⟩ (hr.mp c1)) (fun _ _ => rfl)
    obtain ⟨hB, hJ⟩ : s_B c k ∧ s_isJ (c k) = true := Classical.byContradiction fun q => c1 (hr.mpr q)
    obtain ⟨t1, t2, t3⟩ := hjk k h0 hB hJ
    generalize hT : (s_tgt c k).toNat = T at t3
    have eT : s_tgt c k = (T : Int) := by omega
    have bT := hy.2.2 T t3 (by omega)
    have bk := hy.2.2 k hB (by omega)
    have bpl : s_pl P c n (fun i => eK (e i)) pd k ≤ 6 := by
      have := s_pl_01 P c n (fun i => eK (e i)) pd k
      have := s_pay_05 P c n (fun i => eK (e i)) pd k
      omega
    have ufk : s_uf c (s_pl P c n (fun i => eK (e i)) pd) S k ↔ s_ft (S T) (S k + s_pl P c n (fun i => eK (e i)) pd k) = false := ⟨fun q => by rw [← hT]; exact q.2.2, fun q => ⟨hB, hJ, by rw [hT]; exact q⟩⟩
    have E1 := x_way h hc hp hy hjk h0 hB hJ
    rw [hT] at E1
    generalize hX : s_pl P c n (fun i => eK (e i)) pd k = X at E1 bpl ufk
    rw [if_neg c1, if_pos (w.k gk_95.1), E1, hs_bd_s, if_pos (w.k gk_95.1), if_pos r2n, r2, yf_put w gk_95.2.2.2.2.2.1 (by rw [gk_95.2.2.2.2.2.2.1]; omega)]
    have h1 := h.w98 (i := k) (z := zI ((S T : Int) - (S k + X : Nat)))
    have f1 : wF s (hs_wI s 98 k (zI ((S T : Int) - (S k + X : Nat)))) := (show wF s s from ⟨rfl, fun _ _ _ => rfl⟩).w (Or.inl rfl)
    have u1 : ∀ i, hs_I (hs_wI s 98 k (zI ((S T : Int) - (S k + X : Nat)))) 98 i = if i = k then zI ((S T : Int) - (S k + X : Nat)) else hs_I s 98 i := fun i => by rw [hs_I_w, if_pos rfl]
    generalize hs_wI s 98 k (zI ((S T : Int) - (S k + X : Nat))) = s1 at h1 f1 u1
    have p1 := hp.wf f1
    have hw1 : s_B c k → s_isJ (c k) = true → hs_I s1 98 k = zI ((S (s_tgt c k).toNat : Int) - (S k + s_pl P c n (fun i => eK (e i)) pd k : Nat)) := fun _ _ => by rw [u1, if_pos rfl, hT, hX]
    have ho1 : ∀ j, j < k → hs_I s1 98 j = hs_I s 98 j := fun j hj => by rw [u1, if_neg (by omega)]
    show Tq (if hs_kd s1 95 = 4 then _ else none) _
    rw [if_pos (h1.1.k gk_95.1), x_isLong h1 hn h0, hs_bd_s]
    have g60 : s_uf c (s_pl P c n (fun i => eK (e i)) pd) S k → far k = false → Tq (jX5_lengthen_60 (fun y0 y1 g => lX5_lengthen_4 f 95 M y0 y1 g) 95 M (nI k) s1) (fun q => (q.1 = 0 ∨ q.1 = 1) ∧ (q.1 = 0 ↔ (an = 0 ∧ ∀ j, k ≤ j → j < n → s_uf c (s_pl P c n (fun i => eK (e i)) pd) S j → far j = true)) ∧ wF s q.2 ∧ (∃ far', lyS q.2 M a n e P c far' pd ∧ ∀ j, j < n → (far' j = true ↔ far j = true ∨ (k ≤ j ∧ s_uf c (s_pl P c n (fun i => eK (e i)) pd) S j))) ∧ (∀ j, k ≤ j → j < n → s_B c j → s_isJ (c j) = true → hs_I q.2 98 j = zI ((S (s_tgt c j).toNat : Int) - (S j + s_pl P c n (fun i => eK (e i)) pd j : Nat))) ∧ ∀ j, j < k → hs_I q.2 98 j = hs_I s 98 j) := by
      intro hu hfk
      unfold jX5_lengthen_60
      rw [if_pos (h1.1.k gk_95.1), if_pos (by rw [f1.1]; exact r3n), show hs_R s1 95 3 - 1 = 99 by rw [f1.1]; exact r3, yf_put h1.1 gk_95.2.2.2.2.2.2.2.1 (by rw [gk_95.2.2.2.2.2.2.2.2]; omega)]
      refine on _ (fun i => if i = k then true else far i) 1 (Or.inr rfl) h1.w99 (p1.wf ((show wF s1 s1 from ⟨rfl, fun _ _ _ => rfl⟩).w (Or.inr rfl))) (f1.w (Or.inr rfl)) (fun j hj => ?_) ⟨fun q => absurd q (by decide), fun q => absurd (hfk.symm.trans (q.2 hu)) (by decide)⟩ (fun z1 z2 => by rw [hs_I_w, if_neg (by decide)]; exact hw1 z1 z2) (fun j hj => by rw [hs_I_w, if_neg (by decide)]; exact ho1 j hj)
      by_cases z : j = k
      · rw [if_pos z]; exact ⟨fun _ => Or.inr ⟨z, hu⟩, fun _ => rfl⟩
      · rw [if_neg z]; exact ⟨Or.inl, fun q => q.elim id fun q => absurd q.1 z⟩
    have same : (s_uf c (s_pl P c n (fun i => eK (e i)) pd) S k → far k = true) → Tq (jX5_lengthen_71 (fun y0 y1 g => lX5_lengthen_4 f 95 M y0 y1 g) 95 M an (nI k) s1) (fun q => (q.1 = 0 ∨ q.1 = 1) ∧ (q.1 = 0 ↔ (an = 0 ∧ ∀ j, k ≤ j → j < n → s_uf c (s_pl P c n (fun i => eK (e i)) pd) S j → far j = true)) ∧ wF s q.2 ∧ (∃ far', lyS q.2 M a n e P c far' pd ∧ ∀ j, j < n → (far' j = true ↔ far j = true ∨ (k ≤ j ∧ s_uf c (s_pl P c n (fun i => eK (e i)) pd) S j))) ∧ (∀ j, k ≤ j → j < n → s_B c j → s_isJ (c j) = true → hs_I q.2 98 j = zI ((S (s_tgt c j).toNat : Int) - (S j + s_pl P c n (fun i => eK (e i)) pd j : Nat))) ∧ ∀ j, j < k → hs_I q.2 98 j = hs_I s 98 j) := by
      intro hz
      refine on s1 far an ha h1 p1 f1 (fun j hj => ⟨Or.inl, fun q => q.elim id fun q => by rw [q.1]; exact hz q.2⟩) ⟨fun q => ⟨q, hz⟩, fun q => q.1⟩ hw1 ho1
    cases cf : far k
    · rw [if_pos (by decide)]
      have z1 : ((-128 : Int32)) = zI (-128) := by decide
      have z2 : ((127 : Int32)) = zI 127 := by decide
      rw [z1, z2]
      by_cases d1 : (S T : Int) - (S k + X : Nat) < -128
      · rw [if_pos ((zI_lt (by omega) (by omega) (by omega) (by omega)).mpr d1)]
        refine g60 (ufk.mpr ?_) cf
        simp only [s_ft, Bool.and_eq_false_iff, decide_eq_false_iff_not]
        omega
      · rw [if_neg (fun q => d1 ((zI_lt (by omega) (by omega) (by omega) (by omega)).mp q))]
        by_cases d2 : (S T : Int) - (S k + X : Nat) ≤ 127
        · rw [if_pos ((zI_le (by omega) (by omega) (by omega) (by omega)).mpr d2)]
          refine same fun q => ?_
          have q' := ufk.mp q
          simp only [s_ft, Bool.and_eq_false_iff, decide_eq_false_iff_not] at q'
          omega
        · rw [if_neg (fun q => d2 ((zI_le (by omega) (by omega) (by omega) (by omega)).mp q))]
          refine g60 (ufk.mpr ?_) cf
          simp only [s_ft, Bool.and_eq_false_iff, decide_eq_false_iff_not]
          omega
    · rw [if_neg (by decide)]
      exact same fun _ => cf
