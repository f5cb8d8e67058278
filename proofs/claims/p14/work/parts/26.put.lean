/-- the bytes that are put for the instruction at k -/
def s_em (P c : Nat → Nat) (n : Nat) (b : Nat → Bool) (pd : Bool) (far : Nat → Bool) (S : Nat → Nat) (k o : Nat) : Nat :=
  if o < s_pay P c n b pd k then (if o = 0 then 202 else s_b4 (s_sum P c n b k) (o - 1)) else if o < s_pl P c n b pd k then 203
  else if s_isJ (c k) = true then s_ej c far S (S k + s_pl P c n b pd k) k (o - s_pl P c n b pd k) else c (k + (o - s_pl P c n b pd k))
theorem s_ln_n {c : Nat → Nat} {far : Nat → Bool} {k : Nat} (hj : ¬ s_isJ (c k) = true) : s_ln c far k = s_sz (c k) := by
  unfold s_ln
  rw [if_neg, if_neg (fun q => hj q.1)]
  rintro (q | q)
  · exact hj (by rw [q]; decide)
  · exact hj (by rw [q]; decide)
theorem q_p128 (rec : Int32 → hm → Option hm) {g : hm} {m n h k l N p : Nat} {c R S : Nat → Nat} {far : Nat → Bool} (v2 : Int32) (x : s_G g m n h c R) (hM : s_Mt n l N h c R) (hk : k < n) (hB : s_B c k) (hfar : g 310 k = s_bI (far k)) (hS : s_isJ (c k) = true → g 308 (s_tgt c k).toNat = nI (S (s_tgt c k).toNat) ∧ S (s_tgt c k).toNat ≤ 12000) (h309 : g 309 k = nI p) (hp : p + s_ln c far k ≤ 12008) :
    ∃ g', njX12_put_128 rec (nI m) v2 (nI k) (nI (c k)) g = rec (nI (k + s_sz (c k))) g' ∧ s_O g g' p (p + s_ln c far k) ∧ ∀ o, o < s_ln c far k → g' 311 (p + o) = nI (if s_isJ (c k) = true then s_ej c far S p k o else c (k + o)) := by
  have hn := x.2.1
  obtain ⟨k1, k2⟩ := q_kindAt x hk
  have hok := hM.2.2.2.2.1 k hB hk
  have hsz := hok.2.1
  unfold njX12_put_128 njX12_put_199
  rw [if_pos (hin (show k < 2001 by omega) (by decide)), q_isJump k2, hm_bd_s, cl (by omega), h309]
  by_cases hj : s_isJ (c k) = true
  · have u : ¬ s_bI (s_isJ (c k)) = 0 := by rw [hj]; decide
    obtain ⟨s1, s2⟩ := hS hj
    obtain ⟨g', e, h1, h2⟩ := q_putJump x hM hk hB hj hfar s1 s2 hp
    rw [if_neg u, e, hm_bv_s, q_size k2, hm_bd_s, nI_add]
    refine ⟨g', rfl, h1, fun o ho => ?_⟩
    rw [if_pos hj]; exact h2 o ho
  · have u : s_bI (s_isJ (c k)) = 0 := (s_bI_0 _).mpr (by simpa using hj)
    rw [s_ln_n hj] at hp ⊢
    obtain ⟨g', e, h1, h2⟩ := q_p158 (m := m) (h := h) (R := R) hk hsz k2 hp v2 (s_sz (c k)) 0 hs_N g (by omega) (by have := s_sz_le (c k); unfold hs_N; omega) x
    have e' : nlX12_put_158 hs_N (nI m) v2 (nI k) (nI (c k)) (nI p) (0 : Int32) g = some g' := e
    rw [if_pos u, e', hm_bv_s, q_size k2, hm_bd_s, nI_add]
    refine ⟨g', rfl, h1, fun o ho => ?_⟩
    rw [if_neg hj]; exact h2 o (Nat.zero_le o) ho
theorem q_p106 (rec : Int32 → hm → Option hm) {g : hm} {m n h k l N a : Nat} {c R S : Nat → Nat} {far : Nat → Bool} (pd : Bool) (x : s_G g m n h c R) (hM : s_Mt n l N h c R) (hk : k < n) (hB : s_B c k) (hfar : g 310 k = s_bI (far k)) (hS : s_isJ (c k) = true → g 308 (s_tgt c k).toNat = nI (S (s_tgt c k).toNat) ∧ S (s_tgt c k).toNat ≤ 12000) {z : Nat} (hz : z = if pd = true ∧ c k = 188 then 1 else 0) (h309 : g 309 k = nI (a + z)) (hp : a + z + s_ln c far k ≤ 12008) (ha : a < 12008) :
    ∃ g', njX12_put_106 rec (nI m) (s_bI pd) (nI k) (nI (c k)) (nI a) g = rec (nI (k + s_sz (c k))) g' ∧ s_O g g' a (a + z + s_ln c far k) ∧ (z = 1 → g' 311 a = nI 203) ∧ ∀ o, o < s_ln c far k → g' 311 (a + z + o) = nI (if s_isJ (c k) = true then s_ej c far S (a + z) k o else c (k + o)) := by
  obtain ⟨k1, k2⟩ := q_kindAt x hk
  have none_ : z = 0 → ∃ g', njX12_put_128 rec (nI m) (s_bI pd) (nI k) (nI (c k)) g = rec (nI (k + s_sz (c k))) g' ∧ s_O g g' a (a + z + s_ln c far k) ∧ (z = 1 → g' 311 a = nI 203) ∧ ∀ o, o < s_ln c far k → g' 311 (a + z + o) = nI (if s_isJ (c k) = true then s_ej c far S (a + z) k o else c (k + o)) := by
    intro z0
    obtain ⟨g', e, h1, h2⟩ := q_p128 rec (s_bI pd) x hM hk hB hfar hS h309 hp
    exact ⟨g', e, s_O.rf.tr (a := a) (e := a) h1 (Nat.le_refl _) (by omega) (by omega) (Nat.le_refl _), fun q => absurd q (by omega), h2⟩
  unfold njX12_put_106
  by_cases c1 : pd = true
  rotate_left
  · rw [if_pos ((s_bI_0 _).mpr (by simpa using c1))]
    exact none_ (by rw [hz, if_neg (fun q => c1 q.1)])
  have u : ¬ s_bI pd = 0 := by rw [c1]; decide
  rw [if_neg u]
  by_cases c2 : c k = 188
  rotate_left
  · have u2 : ¬ nI (c k) = (188 : Int32) := fun q => c2 ((eqi (b := 188) (by omega) (by decide)).mp q)
    rw [if_neg u2]
    exact none_ (by rw [hz, if_neg (fun q => c2 q.2)])
  have u2 : nI (c k) = (188 : Int32) := by rw [c2]; rfl
  have z1 : z = 1 := by rw [hz, if_pos ⟨c1, c2⟩]
  rw [if_pos u2, if_pos (hin ha (by decide)), cl (by omega)]
  have O1 : s_O g (hm_w g 311 a (203 : Int32)) a (a + 1) := s_O.w (Nat.le_refl _) (by omega)
  obtain ⟨g', e, h1, h2⟩ := q_p128 (S := S) rec (s_bI pd) (x.fr O1.1 (by decide) (by decide) (by decide) (by decide)) hM hk hB (by rw [O1.1 310 (by decide)]; exact hfar) (by rw [O1.1 308 (by decide)]; exact hS) (by rw [O1.1 309 (by decide)]; exact h309) hp
  refine ⟨g', e, O1.tr h1 (Nat.le_refl _) (by omega) (by omega) (Nat.le_refl _), fun _ => ?_, h2⟩
  rw [h1.2.2 a (by omega), hm_w_eq]
  rfl
theorem s_chain_n {c : Nat → Nat} {l N n : Nat} (hc : s_chain c l N n) : ∀ (d k : Nat), n ≤ k + d → k ≤ n → s_B c k → s_B c n
  | 0, k, h1, h2, hB => by rw [show n = k by omega]; exact hB
  | d + 1, k, h1, h2, hB => by
    by_cases e : k = n
    · rw [← e]; exact hB
    · have hok := hc k hB (by omega)
      have := s_isK_sz hok.1
      exact s_chain_n hc d (k + s_sz (c k)) (by omega) hok.2.1 (s_B_next hB)
theorem s_S_le {c S w : Nat → Nat} {l N n : Nat} (hc : s_chain c l N n) (hS : ∀ j, s_B c j → j < n → S (j + s_sz (c j)) = S j + w j) : ∀ (d k : Nat), n ≤ k + d → k ≤ n → s_B c k → S k ≤ S n
  | 0, k, h1, h2, hB => by rw [show n = k by omega]; exact Nat.le_refl _
  | d + 1, k, h1, h2, hB => by
    by_cases e : k = n
    · rw [← e]; exact Nat.le_refl _
    · have hok := hc k hB (by omega)
      have := s_isK_sz hok.1
      have ih := s_S_le hc hS d (k + s_sz (c k)) (by omega) hok.2.1 (s_B_next hB)
      rw [hS k hB (by omega)] at ih
      omega
theorem q_p7 {m n h l N : Nat} {c R P S : Nat → Nat} {b far : Nat → Bool} (hM : s_Mt n l N h c R) (pd : Bool) (hSb : ∀ j, s_B c j → j ≤ n → S j ≤ 6 * j) : ∀ (d k f : Nat) (g : hm), n ≤ k + d → d < f → k ≤ n → s_B c k → s_G g m n h c R → s_Pr g P → s_Bb g n b → s_Far g n far → s_Lr g c n (s_pl P c n b pd) (s_ln c far) S 0 →
    Tq (nlX12_put_7 f (nI m) (s_bI pd) (nI k) g) (fun q => s_O g q (S k) (S n) ∧ ∀ j, s_B c j → k ≤ j → j < n → ∀ o, o < s_pl P c n b pd j + s_ln c far j → q 311 (S j + o) = nI (s_em P c n b pd far S j o))
  | d, k, 0, g, _, hf => absurd hf (Nat.not_lt_zero _)
  | d, k, f + 1, g, hd, hf => by
    intro hkn hB x hP hb hfar hL
    have x' := x
    obtain ⟨hm8, hn, hh, gn, gh, hC, hR⟩ := x
    rw [nlX12_put_7_s, if_pos (hin hm8 (by decide)), cl (show m < 2147483648 by omega), gn]
    by_cases e : k = n
    · rw [if_pos ((lei (by omega) (by omega)).mpr (by omega))]
      exact Tq.some ⟨s_O.rf, fun j j1 j2 j3 => absurd j3 (by omega)⟩
    have hk : k < n := by omega
    have hok := hM.2.2.2.2.1 k hB hk
    have hs := s_isK_sz hok.1
    have hsz := hok.2.1
    obtain ⟨k1, k2⟩ := q_kindAt x' hk
    obtain ⟨l1, l2, l3⟩ := hL k hB (Nat.zero_le k) hk
    have hSn := s_S_le (S := S) (w := fun j => s_pl P c n b pd j + s_ln c far j) hM.2.2.2.2.1 (fun j j1 j2 => by rw [(hL j j1 (Nat.zero_le j) j2).2.2, Nat.add_assoc]) n (k + s_sz (c k)) (by omega) hsz (s_B_next hB)
    have hS6 := hSb (k + s_sz (c k)) (s_B_next hB) hsz
    have hSk := hSb k hB hkn
    have epl : s_pl P c n b pd k = s_pay P c n b pd k + if pd = true ∧ c k = 188 then 1 else 0 := rfl
    rw [if_neg (fun q => absurd ((lei (by omega) (by omega)).mp q) (by omega)), k1, hm_bd_s, if_pos (hin (show k < 2001 by omega) (by decide)), q_paidAt hM x' hP hb hk hB pd, hm_bd_s, cl (show k < 2147483648 by omega), l1]
    generalize hz : (if pd = true ∧ c k = 188 then 1 else 0) = z at epl
    have hS' : s_isJ (c k) = true → g 308 (s_tgt c k).toNat = nI (S (s_tgt c k).toNat) ∧ S (s_tgt c k).toNat ≤ 12000 := by
      intro hj
      obtain ⟨t1, t2, t3⟩ := q_leads x' hM hk hB hj
      refine ⟨(hL _ t3 (Nat.zero_le _) t2).1, ?_⟩
      have := hSb _ t3 (by omega)
      omega
    have go : ∀ g1 : hm, s_O g g1 (S k) (S k + s_pay P c n b pd k) → (∀ o, o < s_pay P c n b pd k → g1 311 (S k + o) = nI (s_em P c n b pd far S k o)) →
        Tq (njX12_put_106 (fun y0 g => nlX12_put_7 f (nI m) (s_bI pd) y0 g) (nI m) (s_bI pd) (nI k) (nI (c k)) (nI (S k + s_pay P c n b pd k)) g1) (fun q => s_O g q (S k) (S n) ∧ ∀ j, s_B c j → k ≤ j → j < n → ∀ o, o < s_pl P c n b pd j + s_ln c far j → q 311 (S j + o) = nI (s_em P c n b pd far S j o)) := by
      intro g1 O1 B1
      have F1 := O1.1
      obtain ⟨g2, e2, O2, Z2, B2⟩ := q_p106 (S := S) (far := far) (a := S k + s_pay P c n b pd k) (fun y0 g => nlX12_put_7 f (nI m) (s_bI pd) y0 g) pd (x'.fr F1 (by decide) (by decide) (by decide) (by decide)) hM hk hB (by rw [F1 310 (by decide)]; exact hfar k hk) (by rw [F1 308 (by decide)]; exact hS') hz.symm (by rw [F1 309 (by decide), l2, epl, Nat.add_assoc]) (by omega) (by omega)
      rw [e2]
      obtain ⟨d', rfl⟩ : ∃ d', d = d' + 1 := ⟨d - 1, by omega⟩
      have O12 : s_O g g2 (S k) (S (k + s_sz (c k))) := O1.tr O2 (Nat.le_refl _) (by omega) (by omega) (by omega)
      have F2 := O12.1
      refine (q_p7 (b := b) (far := far) (P := P) hM pd hSb d' (k + s_sz (c k)) f g2 (by omega) (by omega) hsz (s_B_next hB) (x'.fr F2 (by decide) (by decide) (by decide) (by decide)) (hP.fr F2 (by decide)) (hb.fr F2 (by decide)) (fun i hi => by rw [F2 310 (by decide)]; exact hfar i hi) (fun j j1 j2 j3 => by rw [F2 308 (by decide), F2 309 (by decide)]; exact hL j j1 j2 j3)).mono fun q hq => ⟨O12.tr hq.1 (Nat.le_refl _) (by omega) hSn (Nat.le_refl _), fun j j1 j2 j3 o ho => ?_⟩
      by_cases ej : j = k
      rotate_left
      · exact hq.2 j j1 (s_B_ge hB j1 (by omega)) j3 o ho
      subst ej
      rw [hq.1.2.2 (S j + o) (by omega)]
      by_cases c1 : o < s_pay P c n b pd j
      · rw [O2.2.2 (S j + o) (by omega)]
        exact B1 o c1
      · unfold s_em
        rw [if_neg c1]
        by_cases c2 : o < s_pl P c n b pd j
        · rw [if_pos c2]
          have z1 : z = 1 := by
            have : z ≤ 1 := by rw [← hz]; split <;> omega
            omega
          rw [show S j + o = S j + s_pay P c n b pd j by omega]
          exact Z2 z1
        · rw [if_neg c2]
          have := B2 (o - s_pl P c n b pd j) (by omega)
          rw [show S j + s_pay P c n b pd j + z + (o - s_pl P c n b pd j) = S j + o by omega] at this
          rw [this, Nat.add_assoc, ← epl]
    by_cases cp : s_pay P c n b pd k = 0
    · have u : nI (s_pay P c n b pd k) ≤ 0 := by rw [cp]; decide
      rw [if_pos u]
      have := go g s_O.rf (fun o ho => absurd ho (by omega))
      rw [cp, Nat.add_zero] at this
      exact this
    have cp5 : s_pay P c n b pd k = 5 := by
      unfold s_pay at cp ⊢
      split at cp
      · rename_i q; rw [if_pos q]
      · omega
    have u : ¬ nI (s_pay P c n b pd k) ≤ 0 := nI_nle (by omega) (by omega)
    obtain ⟨s1, s2⟩ := q_sum hM x' hP hb hk hB
    rw [if_neg u, s1, hm_bd_s, if_pos (hin (show S k < 12008 by omega) (by decide)), cl (show S k < 2147483648 by omega)]
    have O1 : s_O g (hm_w g 311 (S k) (202 : Int32)) (S k) (S k + 5) := s_O.w (Nat.le_refl _) (by omega)
    have e0 : (0 : Int32) = nI 0 := rfl
    have e5 : nI (S k) + (5 : Int32) = nI (S k + 5) := nI_add _ 5
    rw [e0, e5]
    refine Tq.bv ((q_p64 (p := S k) (v := s_sum P c n b k) (by omega) (by omega) (nI m) (s_bI pd) (nI k) (nI (c k)) 4 0 hs_N (hm_w g 311 (S k) (202 : Int32)) rfl (by unfold hs_N; omega)).mono fun q1 h1 => ?_)
    have := go q1 (by rw [cp5]; exact O1.tr h1.1 (Nat.le_refl _) (by omega) (by omega) (by omega)) (fun o ho => ?_)
    · rw [cp5] at this
      exact this
    · unfold s_em
      rw [if_pos ho]
      by_cases eo : o = 0
      · rw [if_pos eo, eo, h1.1.2.2 (S k + 0) (by omega), Nat.add_zero, hm_w_eq]; rfl
      · rw [if_neg eo]
        have := h1.2 (o - 1) (Nat.zero_le _) (by omega)
        rw [show S k + 1 + (o - 1) = S k + o by omega] at this
        exact this
/-- put() -/
theorem q_put {g : hm} {m n h l N : Nat} {c R P S : Nat → Nat} {b far : Nat → Bool} (hM : s_Mt n l N h c R) (pd : Bool) (hS0 : S 0 = 0) (hSb : ∀ j, s_B c j → j ≤ n → S j ≤ 6 * j) (x : s_G g m n h c R) (hP : s_Pr g P) (hb : s_Bb g n b) (hfar : s_Far g n far) (hL : s_Lr g c n (s_pl P c n b pd) (s_ln c far) S 0) :
    Tq (nX12_put (nI m) (s_bI pd) g) (fun q => Fr [285, 311] g q ∧ Fo [31] g q ∧ ∀ j, s_B c j → j < n → ∀ o, o < s_pl P c n b pd j + s_ln c far j → q 311 (S j + o) = nI (s_em P c n b pd far S j o)) := by
  have hn := x.2.1
  have e0 : (0 : Int32) = nI 0 := rfl
  unfold nX12_put
  have O1 : s_O g (hm_w g 285 31 (0 : Int32)) 0 (S n) := s_O.w31
  have F1 := O1.1
  refine Tq.bv ((q_p7 (b := b) (far := far) (P := P) hM pd hSb n 0 hs_N (hm_w g 285 31 (0 : Int32)) (by omega) (by unfold hs_N; omega) (by omega) (s_B_0 c) (x.fr F1 (by decide) (by decide) (by decide) (by decide)) (hP.fr F1 (by decide)) (hb.fr F1 (by decide)) (fun i hi => by rw [F1 310 (by decide)]; exact hfar i hi) (fun j j1 j2 j3 => by rw [F1 308 (by decide), F1 309 (by decide)]; exact hL j j1 j2 j3)).mono fun q hq => ?_)
  exact Tq.some ⟨F1.trans hq.1.1, O1.2.1.trans hq.1.2.1, fun j j1 j2 o ho => hq.2 j j1 (Nat.zero_le j) j2 o ho⟩
