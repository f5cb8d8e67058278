/-! LAYOUT: THE PLACES -/
/-- the layout's rows, but for places and ways -/
def lyS (s : hs_S) (M a n : Nat) (e P c : Nat → Nat) (far : Nat → Bool) (pd : Bool) : Prop := WT s ∧ LR (hs_R s) ∧ mv s M a n e ∧ M < 95 ∧ hs_R s M 0 - 1 < 95 ∧ (∀ i, i < n → hs_I s 96 i = nI (sm P c n (fun i => eK (e i)) pd i)) ∧ hs_I s 95 4 = s_bI pd ∧ ∀ i, i < n → hs_I s 99 i = s_bI (far i)
theorem lyS.w {s : hs_S} {M a n b i : Nat} {e P c : Nat → Nat} {far : Nat → Bool} {pd : Bool} {z : Int32} (h : lyS s M a n e P c far pd) (hb : b = 97 ∨ b = 98) : lyS (hs_wI s b i z) M a n e P c far pd := by
  obtain ⟨h1, h2, h3, h4, h5, h6, h7, h8⟩ := h
  have f : yF s (hs_wI s b i z) := yF.rf.w (by omega) (by omega)
  exact ⟨h1.w (ly_o (s := 0) (b := false) (by omega) (by omega)), h2, h3.yf f h4 h5, h4, h5, fun j hj => by rw [hs_I_w, if_neg (by omega)]; exact h6 j hj, by rw [hs_I_w, if_neg (by omega)]; exact h7, fun j hj => by rw [hs_I_w, if_neg (by omega)]; exact h8 j hj⟩
/-- what is known of the code -/
def lyC (n l N : Nat) (e P c : Nat → Nat) : Prop := n ≤ 2000 ∧ s_chain c l N n ∧ (∀ i, i < n → e i % 256 = c i ∧ (eB (e i) = true ↔ s_B c i)) ∧ ∀ k, k < 256 → P k ≤ 1000
theorem lyC.b {n l N : Nat} {e P c : Nat → Nat} (h : lyC n l N e P c) {i : Nat} (hi : i < n) : c i < 256 := by rw [← (h.2.2.1 i hi).1]; omega
theorem x_sumB {s : hs_S} {M a n l N k : Nat} {e P c : Nat → Nat} {far : Nat → Bool} {pd : Bool} (h : lyS s M a n e P c far pd) (hc : lyC n l N e P c) (hk : k < n) : fX5_sumBytes 95 (nI k) s = some (nI (s_pay P c n (fun i => eK (e i)) pd k), s) := by
  obtain ⟨w, hL, v, -, -, h6, -, -⟩ := h
  have r0 : hs_R s 95 0 - 1 = 96 := by rw [hL.1]
  have r0n : ¬ hs_R s 95 0 = 0 := by rw [hL.1]; decide
  have hle : s_sum P c n (fun i => eK (e i)) k ≤ 1000 * n := s_su_le (fun j hj => hc.2.2.2 _ (hc.b hj)) n k hk
  have hn := hc.1
  unfold fX5_sumBytes s_pay
  rw [if_pos (w.k gk_95.1), if_pos r0n, r0, yf_at w gk_95.2.1 (by rw [gk_95.2.2.1]; omega), hs_bd_s, h6 k hk]
  unfold sm
  by_cases c1 : pd = true ∧ eK (e k) = true
  · rw [if_pos c1]
    by_cases c2 : 0 < s_sum P c n (fun i => eK (e i)) k
    · have x : ¬ nI (s_sum P c n (fun i => eK (e i)) k) ≤ 0 := fun q => absurd ((lei (b := 0) (by omega) (by decide)).mp q) (by omega)
      rw [if_neg x, if_pos ⟨c1.1, c1.2, c2⟩]; rfl
    · have x : nI (s_sum P c n (fun i => eK (e i)) k) ≤ 0 := (lei (b := 0) (by omega) (by decide)).mpr (by omega)
      rw [if_pos x, if_neg (fun q => c2 q.2.2)]; rfl
  · have x : nI 0 ≤ 0 := by decide
    rw [if_neg c1, if_pos x, if_neg (fun q => c1 ⟨q.1, q.2.1⟩)]; rfl
theorem x_paysTop {s : hs_S} {M a n l N k : Nat} {e P c : Nat → Nat} {far : Nat → Bool} {pd : Bool} (h : lyS s M a n e P c far pd) (hc : lyC n l N e P c) (hk : k < n) : fX5_paysTop 95 M (nI k) s = some (if pd = true ∧ c k = 188 then 1 else 0, s) := by
  obtain ⟨w, hL, v, -, -, -, h7, -⟩ := h
  have hb := hc.b hk
  unfold fX5_paysTop
  rw [if_pos (w.k gk_95.1), h7]
  cases pd
  · rw [if_pos (by decide), if_neg (fun q => absurd q.1 (by decide))]
  · rw [if_neg (by decide), if_pos (w.k v.1), x_val_in w v hk, hs_bd_s, (hc.2.2.1 k hk).1]
    by_cases c1 : c k = 188
    · have x : nI (c k) = (188 : Int32) := by rw [c1]; rfl
      rw [if_pos x, if_pos ⟨rfl, c1⟩]
    · have x : ¬ nI (c k) = (188 : Int32) := fun q => c1 ((eqi (b := 188) (by omega) (by decide)).mp q)
      rw [if_neg x, if_neg (fun q => c1 q.2)]
theorem x_ahead {s : hs_S} {M a n l N k : Nat} {e P c : Nat → Nat} {far : Nat → Bool} {pd : Bool} (h : lyS s M a n e P c far pd) (hc : lyC n l N e P c) (hk : k < n) : fX5_bytesAhead 95 M (nI k) s = some (nI (s_pl P c n (fun i => eK (e i)) pd k), s) := by
  have w := h.1
  unfold fX5_bytesAhead s_pl
  rw [if_pos (w.k gk_95.1), x_sumB h hc hk, hs_bd_s, if_pos (w.k gk_95.1), x_paysTop h hc hk, hs_bd_s]
  by_cases c1 : pd = true ∧ c k = 188
  · rw [if_pos c1, if_pos c1, if_neg (by decide), nI_1]
  · rw [if_neg c1, if_neg c1, if_pos rfl, Int32.add_zero, Nat.add_zero]
theorem x_isLong {s : hs_S} {M a n k : Nat} {e P c : Nat → Nat} {far : Nat → Bool} {pd : Bool} (h : lyS s M a n e P c far pd) (hn : n ≤ 2000) (hk : k < n) : fX5_isLong 95 (nI k) s = some (s_bI (far k), s) := by
  obtain ⟨w, hL, v, -, -, -, -, h8⟩ := h
  have r0 : hs_R s 95 3 - 1 = 99 := by rw [hL.2.2.2]
  have r0n : ¬ hs_R s 95 3 = 0 := by rw [hL.2.2.2]; decide
  unfold fX5_isLong
  rw [if_pos (w.k gk_95.1), if_pos r0n, r0, yf_at w gk_95.2.2.2.2.2.2.2.1 (by rw [gk_95.2.2.2.2.2.2.2.2]; omega), hs_bd_s, h8 k hk]
  cases far k
  · rw [if_neg (by decide)]; rfl
  · rw [if_pos (by decide)]; rfl
theorem x_bytesOf {s : hs_S} {M a n l N k : Nat} {e P c : Nat → Nat} {far : Nat → Bool} {pd : Bool} (h : lyS s M a n e P c far pd) (hc : lyC n l N e P c) (hk : k < n) (hB : s_B c k) : fX5_bytesOf 95 M (nI k) s = some (nI (s_ln c far k), s) := by
  have w := h.1
  have v := h.2.2.1
  have hb := hc.b hk
  have hok := hc.2.1 k hB hk
  obtain ⟨K1, K2, -, -, -, -⟩ := x_kinds hb s
  have e168 : (168 : Int32) = nI 168 := rfl
  unfold fX5_bytesOf
  rw [if_pos (w.k v.1), x_val_in w v hk, hs_bd_s, (hc.2.2.1 k hk).1, K1, hs_bd_s]
  cases cJ : s_isJ (c k)
  · have nJ : ¬ s_isJ (c k) = true := by rw [cJ]; decide
    rw [if_pos (by decide), x_size hb, hs_bd_s, s_ln_n nJ]
    unfold cz
    rw [if_pos hok.1]
  · rw [if_neg (by decide), if_pos (w.k gk_95.1), x_isLong h hc.1 hk, hs_bd_s, s_ln_j cJ]
    cases cf : far k
    · rw [if_pos (by decide), if_neg (by decide)]; rfl
    · rw [if_neg (by decide), if_pos rfl, K2, hs_bd_s]
      rcases s_isJ_c cJ with ⟨h0, h1, h2⟩ | ⟨h0, h1⟩
      · have t : (decide (153 ≤ c k) && decide (c k ≤ 158)) = true := by simp [h1, h2]
        rw [t, if_neg (by decide), if_pos h0]; rfl
      · have t : (decide (153 ≤ c k) && decide (c k ≤ 158)) = false := by
          simp only [Bool.and_eq_false_iff, decide_eq_false_iff_not]
          omega
        rw [t, if_pos (by decide), if_neg h0, e168, x_size (by decide), hs_bd_s]
        rfl
/-- the places, one behind another -/
def s_Sf (B : Nat → Bool) (w : Nat → Nat) : Nat → Nat
  | 0 => 0
  | p + 1 => s_Sf B w p + if B p = true then w p else 0
theorem s_Sf_skip {B : Nat → Bool} {w : Nat → Nat} : ∀ (m p : Nat), (∀ i, p ≤ i → i < p + m → B i = false) → s_Sf B w (p + m) = s_Sf B w p
  | 0, p, _ => rfl
  | m + 1, p, h => by
    show s_Sf B w (p + m) + (if B (p + m) = true then w (p + m) else 0) = _
    rw [h (p + m) (by omega) (by omega), if_neg (by decide), Nat.add_zero, s_Sf_skip m p (fun i i1 i2 => h i i1 (by omega))]
theorem s_Sf_next {B : Nat → Bool} {w c : Nat → Nat} {n l N p : Nat} (hch : s_chain c l N n) (hB : ∀ i, i < n → (B i = true ↔ s_B c i)) (hp : s_B c p) (hn : p < n) : s_Sf B w (p + s_sz (c p)) = s_Sf B w p + w p := by
  have hok := hch p hp hn
  have hs := s_isK_sz hok.1
  have hle := hok.2.1
  have h1 : s_Sf B w (p + 1 + (s_sz (c p) - 1)) = s_Sf B w (p + 1) := s_Sf_skip _ _ fun i i1 i2 => by
    have ng := s_B_gap hp (show p < i by omega) (by omega)
    cases q : B i
    · rfl
    · exact absurd ((hB i (by omega)).mp q) ng
  rw [show p + 1 + (s_sz (c p) - 1) = p + s_sz (c p) by omega] at h1
  rw [h1]
  show s_Sf B w p + (if B p = true then w p else 0) = _
  rw [if_pos ((hB p hn).mpr hp)]
/-- only the places are written -/
def zF (s q : hs_S) (a : Nat) : Prop := hs_R q = hs_R s ∧ ∀ b, b ≠ a → hs_I q b = hs_I s b
theorem zF.rf {s : hs_S} {a : Nat} : zF s s a := ⟨rfl, fun _ _ => rfl⟩
theorem zF.tr {s q r : hs_S} {a : Nat} (h : zF s q a) (h' : zF q r a) : zF s r a := ⟨h'.1.trans h.1, fun b hb => (h'.2 b hb).trans (h.2 b hb)⟩
theorem zF.w {s q : hs_S} {a i : Nat} {z : Int32} (h : zF s q a) : zF s (hs_wI q a i z) a := ⟨h.1, fun b hb => (funext fun i => by rw [hs_I_w, if_neg hb]).trans (h.2 b hb)⟩
theorem x_pa4 {M a n l N : Nat} {e P c : Nat → Nat} {far : Nat → Bool} {pd : Bool} (hc : lyC n l N e P c) : ∀ (d p f : Nat) (s : hs_S), p + d = n → d < f → lyS s M a n e P c far pd →
    Tq (lX5_placeAll_4 f 95 M (nI (s_Sf (fun i => eB (e i)) (fun i => s_pl P c n (fun i => eK (e i)) pd i + s_ln c far i) p)) (nI p) s) (fun q => q.1 = nI (s_Sf (fun i => eB (e i)) (fun i => s_pl P c n (fun i => eK (e i)) pd i + s_ln c far i) n) ∧ lyS q.2 M a n e P c far pd ∧ zF s q.2 97 ∧ (∀ i, p ≤ i → i < n → s_B c i → hs_I q.2 97 i = nI (s_Sf (fun i => eB (e i)) (fun i => s_pl P c n (fun i => eK (e i)) pd i + s_ln c far i) i)) ∧ ∀ i, i < p → hs_I q.2 97 i = hs_I s 97 i)
  | d, p, 0, s, _, hf, _ => absurd hf (Nat.not_lt_zero _)
  | 0, p, f + 1, s, hp, _, h => by
    have lt := (h.2.2.1.lt h.1).1
    rw [lX5_placeAll_4, if_pos (h.1.k h.2.2.1.1), h.2.2.1.2.2.1, if_pos ((lei (by omega) (by omega)).mpr (by omega))]
    have ep : p = n := by omega
    exact Tq.some ⟨by rw [ep], h, zF.rf, fun i i1 i2 => absurd i2 (by omega), fun _ _ => rfl⟩
  | d + 1, p, f + 1, s, hp, hf, h => by
    have w := h.1
    have v := h.2.2.1
    have hL := h.2.1
    have lt := (v.lt w).1
    have hn := hc.1
    have h0 : p < n := by omega
    have r1 : hs_R s 95 1 - 1 = 97 := by rw [hL.2.1]
    have r1n : ¬ hs_R s 95 1 = 0 := by rw [hL.2.1]; decide
    have hS : s_Sf (fun i => eB (e i)) (fun i => s_pl P c n (fun i => eK (e i)) pd i + s_ln c far i) (p + 1) = s_Sf (fun i => eB (e i)) (fun i => s_pl P c n (fun i => eK (e i)) pd i + s_ln c far i) p + if eB (e p) = true then s_pl P c n (fun i => eK (e i)) pd p + s_ln c far p else 0 := rfl
    rw [lX5_placeAll_4, if_pos (w.k v.1), v.2.2.1, if_neg (fun q => absurd ((lei (by omega) (by omega)).mp q) (by omega)), x_beg_in w v h0, hs_bd_s]
    unfold jX5_placeAll_45
    cases cB : eB (e p)
    · rw [if_pos (by decide), nI_1]
      have hS' : s_Sf (fun i => eB (e i)) (fun i => s_pl P c n (fun i => eK (e i)) pd i + s_ln c far i) p = s_Sf (fun i => eB (e i)) (fun i => s_pl P c n (fun i => eK (e i)) pd i + s_ln c far i) (p + 1) := by rw [hS, cB]; rfl
      rw [hS']
      refine (x_pa4 hc d (p + 1) f s (by omega) (by omega) h).mono fun q hq => ?_
      obtain ⟨q1, q2, q3, q4, q5⟩ := hq
      refine ⟨q1, q2, q3, fun i i1 i2 i3 => ?_, fun i hi => q5 i (by omega)⟩
      by_cases z : i = p
      · rw [z] at i3
        have := (hc.2.2.1 p h0).2.mpr i3
        rw [cB] at this
        exact absurd this (by decide)
      · exact q4 i (by omega) i2 i3
    · have hB : s_B c p := (hc.2.2.1 p h0).2.mp cB
      rw [cB, if_pos rfl] at hS
      rw [if_neg (by decide), if_pos (w.k gk_95.1), if_pos r1n, r1, yf_put w gk_95.2.2.2.1 (by rw [gk_95.2.2.2.2.1]; omega)]
      have h1 := h.w (b := 97) (i := p) (z := nI (s_Sf (fun i => eB (e i)) (fun i => s_pl P c n (fun i => eK (e i)) pd i + s_ln c far i) p)) (Or.inl rfl)
      have z1 : zF s (hs_wI s 97 p (nI (s_Sf (fun i => eB (e i)) (fun i => s_pl P c n (fun i => eK (e i)) pd i + s_ln c far i) p))) 97 := zF.rf.w
      have u1 : ∀ i, hs_I (hs_wI s 97 p (nI (s_Sf (fun i => eB (e i)) (fun i => s_pl P c n (fun i => eK (e i)) pd i + s_ln c far i) p))) 97 i = if i = p then nI (s_Sf (fun i => eB (e i)) (fun i => s_pl P c n (fun i => eK (e i)) pd i + s_ln c far i) p) else hs_I s 97 i := fun i => by rw [hs_I_w, if_pos rfl]
      generalize hs_wI s 97 p (nI (s_Sf (fun i => eB (e i)) (fun i => s_pl P c n (fun i => eK (e i)) pd i + s_ln c far i) p)) = s1 at h1 z1 u1
      show Tq (if hs_kd s1 95 = 4 then _ else none) _
      rw [if_pos (h1.1.k gk_95.1), x_ahead h1 hc h0, hs_bd_s, if_pos (h1.1.k gk_95.1), x_bytesOf h1 hc h0 hB, hs_bd_s, nI_1, nI_add, nI_add, ← hS]
      refine (x_pa4 hc d (p + 1) f s1 (by omega) (by omega) h1).mono fun q hq => ?_
      obtain ⟨q1, q2, q3, q4, q5⟩ := hq
      refine ⟨q1, q2, z1.tr q3, fun i i1 i2 i3 => ?_, fun i hi => by rw [q5 i (by omega), u1, if_neg (by omega)]⟩
      by_cases z : i = p
      · rw [q5 i (by omega), u1, if_pos z, z]
      · exact q4 i (by omega) i2 i3
/-- the places stand in the row -/
def plS (s : hs_S) (n : Nat) (c S : Nat → Nat) : Prop := (∀ i, i < n → s_B c i → hs_I s 97 i = nI (S i)) ∧ hs_I s 97 n = nI (S n)
theorem x_placeAll {s : hs_S} {M a n l N : Nat} {e P c : Nat → Nat} {far : Nat → Bool} {pd : Bool} (hc : lyC n l N e P c) (h : lyS s M a n e P c far pd) : Tq (fX5_placeAll 95 M s) (fun q => ∃ S : Nat → Nat, S 0 = 0 ∧ (∀ j, s_B c j → j < n → S (j + s_sz (c j)) = S j + s_pl P c n (fun i => eK (e i)) pd j + s_ln c far j) ∧ q.1 = nI (S n) ∧ lyS q.2 M a n e P c far pd ∧ zF s q.2 97 ∧ plS q.2 n c S) := by
  have hn := hc.1
  have e0 : (0 : Int32) = nI 0 := rfl
  obtain ⟨⟨r, q⟩, E, q1, q2, q3, q4, -⟩ := x_pa4 hc n 0 hs_N s (by omega) (by unfold hs_N; omega) h
  have q2 : lyS q M a n e P c far pd := q2
  have q3 : zF s q 97 := q3
  have q1' : r = nI (s_Sf (fun i => eB (e i)) (fun i => s_pl P c n (fun i => eK (e i)) pd i + s_ln c far i) n) := q1
  have E' : lX5_placeAll_4 hs_N 95 M (0 : Int32) (0 : Int32) s = some (r, q) := E
  have r1 : hs_R q 95 1 - 1 = 97 := by rw [q2.2.1.2.1]
  have r1n : ¬ hs_R q 95 1 = 0 := by rw [q2.2.1.2.1]; decide
  unfold fX5_placeAll
  rw [E', hs_bd_s, if_pos (q2.1.k gk_95.1), if_pos r1n, r1, if_pos (q2.1.k q2.2.2.1.1), q2.2.2.1.2.2.1, yf_put q2.1 gk_95.2.2.2.1 (by rw [gk_95.2.2.2.2.1]; omega), q1']
  refine Tq.some ⟨s_Sf (fun i => eB (e i)) (fun i => s_pl P c n (fun i => eK (e i)) pd i + s_ln c far i), rfl, fun j j1 j2 => ?_, rfl, q2.w (Or.inl rfl), q3.tr zF.rf.w, fun i i1 i2 => ?_, ?_⟩
  · rw [s_Sf_next hc.2.1 (fun i hi => (hc.2.2.1 i hi).2) j1 j2, Nat.add_assoc]
  · show hs_I (hs_wI q 97 n _) 97 i = _
    rw [hs_I_ne (by omega)]
    exact q4 i (Nat.zero_le i) i1 i2
  · exact hs_I_eq _ _ _ _
