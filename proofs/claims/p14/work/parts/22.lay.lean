/-- the rows of the laying -/
def s_Lr (g : hm) (c : Nat → Nat) (n : Nat) (pl ln S : Nat → Nat) (k : Nat) : Prop := ∀ j, s_B c j → k ≤ j → j < n → g 308 j = nI (S j) ∧ g 309 j = nI (S j + pl j) ∧ S (j + s_sz (c j)) = S j + pl j + ln j
theorem s_B_ge {c : Nat → Nat} {k j : Nat} (h : s_B c k) (hj : s_B c j) (h1 : k < j) : k + s_sz (c k) ≤ j := Classical.byContradiction fun q => s_B_gap h h1 (by omega) hj
theorem q_l42 {m n h l N : Nat} {c R P : Nat → Nat} {b far : Nat → Bool} (hM : s_Mt n l N h c R) (pd : Bool) : ∀ (d k f to : Nat) (g : hm), n ≤ k + d → d < f → k ≤ n → s_B c k → to ≤ 6 * k → s_G g m n h c R → s_Pr g P → s_Bb g n b → s_Far g n far →
    Tq (nlX12_lay_42 f (nI m) (s_bI pd) (nI to) (nI k) g) (fun q => Fr [308, 309] g q.2 ∧ (∀ i, i < k → q.2 308 i = g 308 i ∧ q.2 309 i = g 309 i) ∧ ∃ S : Nat → Nat, S k = to ∧ q.1 = nI (S n) ∧ s_Lr q.2 c n (s_pl P c n b pd) (s_ln c far) S k ∧ ∀ j, s_B c j → k ≤ j → j ≤ n → S j ≤ 6 * j)
  | d, k, 0, to, g, _, hf => absurd hf (Nat.not_lt_zero _)
  | d, k, f + 1, to, g, hd, hf => by
    intro hkn hB hto x hP hb hfar
    have x' := x
    obtain ⟨hm8, hn, hh, gn, gh, hC, hR⟩ := x
    rw [nlX12_lay_42_s, if_pos (hin hm8 (by decide)), cl (show m < 2147483648 by omega), gn]
    by_cases e : k = n
    · rw [if_pos ((lei (by omega) (by omega)).mpr (by omega))]
      refine Tq.some ⟨Fr.rf, fun i _ => ⟨rfl, rfl⟩, fun _ => to, rfl, rfl, fun j h1 h2 h3 => absurd h3 (by omega), fun j h1 h2 h3 => ?_⟩
      show to ≤ 6 * j
      omega
    have hk : k < n := by omega
    have hok := hM.2.2.2.2.1 k hB hk
    have hs := s_isK_sz hok.1
    have hsz := hok.2.1
    obtain ⟨k1, k2⟩ := q_kindAt x' hk
    rw [if_neg (fun q => absurd ((lei (by omega) (by omega)).mp q) (by omega)), k1, hm_bd_s, if_pos (hin (show k < 2001 by omega) (by decide)), cl (show k < 2147483648 by omega)]
    generalize hg1 : hm_w g 308 k (nI to) = g1
    have F1 : Fr [308, 309] g g1 := by rw [← hg1]; exact Fr.rf.w (by decide)
    have A1 : ∀ i, g1 308 i = if i = k then nI to else g 308 i := fun i => by rw [← hg1, hm_w_at]
    have A2 : ∀ i, g1 309 i = g 309 i := fun i => by rw [← hg1, hm_w_ne (by decide)]
    have x1 := x'.fr F1 (by decide) (by decide) (by decide) (by decide)
    rw [q_paidAt hM x1 (hP.fr F1 (by decide)) (hb.fr F1 (by decide)) hk hB pd, hm_bd_s]
    have hfar1 : g1 310 k = s_bI (far k) := by rw [F1 310 (by decide)]; exact hfar k hk
    have go : ∀ z : Nat, z = (if pd = true ∧ c k = 188 then 1 else 0) → Tq (njX12_lay_98 (fun y0 y1 g => nlX12_lay_42 f (nI m) (s_bI pd) y0 y1 g) (nI m) (s_bI pd) (nI k) (nI (c k)) (nI z) (nI (s_pay P c n b pd k)) (nI to) g1) (fun q => Fr [308, 309] g q.2 ∧ (∀ i, i < k → q.2 308 i = g 308 i ∧ q.2 309 i = g 309 i) ∧ ∃ S : Nat → Nat, S k = to ∧ q.1 = nI (S n) ∧ s_Lr q.2 c n (s_pl P c n b pd) (s_ln c far) S k ∧ ∀ j, s_B c j → k ≤ j → j ≤ n → S j ≤ 6 * j) := by
      intro z hz
      have epl : s_pay P c n b pd k + z = s_pl P c n b pd k := by rw [hz]; rfl
      rw [q_l98 _ _ _ (show k < 2001 by omega) k2 hfar1, epl]
      generalize hg2 : hm_w g1 309 k (nI (to + s_pl P c n b pd k)) = g2
      have F2 : Fr [308, 309] g g2 := by rw [← hg2]; exact F1.w (by decide)
      have C1 : ∀ i, g2 308 i = if i = k then nI to else g 308 i := fun i => by rw [← hg2, hm_w_ne (by decide)]; exact A1 i
      have C2 : ∀ i, g2 309 i = if i = k then nI (to + s_pl P c n b pd k) else g 309 i := fun i => by rw [← hg2, hm_w_at, A2]
      have wl := s_w_le P c n b far pd (k := k) hs
      obtain ⟨d', rfl⟩ : ∃ d', d = d' + 1 := ⟨d - 1, by omega⟩
      refine (q_l42 hM pd d' (k + s_sz (c k)) f (to + s_pl P c n b pd k + s_ln c far k) g2 (by omega) (by omega) hsz (s_B_next hB) (by omega) (x'.fr F2 (by decide) (by decide) (by decide) (by decide)) (hP.fr F2 (by decide)) (hb.fr F2 (by decide)) (fun i hi => by rw [F2 310 (by decide)]; exact hfar i hi)).mono fun q hq => ?_
      obtain ⟨F3, D, S, S1, S2, S3, S4⟩ := hq
      refine ⟨F2.trans F3, fun i hi => ?_, fun j => if j = k then to else S j, ?_, ?_, fun j j1 j2 j3 => ?_, fun j j1 j2 j3 => ?_⟩
      · obtain ⟨d1, d2⟩ := D i (by omega)
        rw [d1, d2, C1, C2, if_neg (by omega), if_neg (by omega)]
        exact ⟨rfl, rfl⟩
      · show (if k = k then to else S k) = to
        rw [if_pos rfl]
      · show q.1 = nI (if n = k then to else S n)
        rw [if_neg (by omega)]; exact S2
      · show q.2 308 j = nI (if j = k then to else S j) ∧ q.2 309 j = nI ((if j = k then to else S j) + s_pl P c n b pd j) ∧ (if j + s_sz (c j) = k then to else S (j + s_sz (c j))) = (if j = k then to else S j) + s_pl P c n b pd j + s_ln c far j
        by_cases ej : j = k
        · subst ej
          obtain ⟨d1, d2⟩ := D j (by omega)
          rw [d1, d2, C1, C2, if_pos rfl, if_pos rfl, if_pos rfl, if_neg (by omega), S1]
          exact ⟨rfl, rfl, rfl⟩
        · have := s_B_ge hB j1 (by omega)
          rw [if_neg ej, if_neg (by omega)]
          exact S3 j j1 this j3
      · show (if j = k then to else S j) ≤ 6 * j
        by_cases ej : j = k
        · rw [if_pos ej]; omega
        · rw [if_neg ej]
          exact S4 j j1 (s_B_ge hB j1 (by omega)) j3
    have e0 : (0 : Int32) = nI 0 := rfl
    have e1 : (1 : Int32) = nI 1 := rfl
    unfold njX12_lay_97
    by_cases c1 : pd = true
    rotate_left
    · have u : s_bI pd = 0 := (s_bI_0 _).mpr (by simpa using c1)
      rw [if_pos u]
      exact go 0 (by rw [if_neg (fun q => c1 q.1)])
    have u : ¬ s_bI pd = 0 := by rw [c1]; decide
    rw [if_neg u]
    by_cases c2 : c k = 188
    · have u2 : nI (c k) = (188 : Int32) := by rw [c2]; rfl
      rw [if_pos u2]
      exact go 1 (by rw [if_pos ⟨c1, c2⟩])
    · have u2 : ¬ nI (c k) = (188 : Int32) := fun q => c2 ((eqi (b := 188) (by omega) (by decide)).mp q)
      rw [if_neg u2]
      exact go 0 (by rw [if_neg (fun q => c2 q.2)])
/-- a jump that does not fit -/
def s_uf (c pl S : Nat → Nat) (j : Nat) : Prop := s_B c j ∧ s_isJ (c j) = true ∧ s_ft (S (s_tgt c j).toNat) (S j + pl j) = false
theorem q_l208 {m n h l N : Nat} {c R pl ln S : Nat → Nat} (hM : s_Mt n l N h c R) (hS : ∀ j, s_B c j → j ≤ n → S j ≤ 12000) (hpl : ∀ j, pl j ≤ 6) (v2 : Int32) : ∀ (d k f : Nat) (mo : Bool) (far : Nat → Bool) (g : hm), n ≤ k + d → d < f → k ≤ n → s_B c k → s_G g m n h c R → s_Far g n far → s_Lr g c n pl ln S 0 →
    Tq (nlX12_lay_208 f (nI m) v2 (s_bI mo) (nI k) g) (fun q => Fr [310] g q.2 ∧ ∃ (far' : Nat → Bool) (mo' : Bool), s_Far q.2 n far' ∧ q.1 = s_bI mo' ∧ (∀ j, j < n → (far' j = true ↔ far j = true ∨ (k ≤ j ∧ s_uf c pl S j))) ∧ (mo' = true ↔ mo = true ∨ ∃ j, k ≤ j ∧ j < n ∧ s_uf c pl S j ∧ far j = false))
  | d, k, 0, mo, far, g, _, hf => absurd hf (Nat.not_lt_zero _)
  | d, k, f + 1, mo, far, g, hd, hf => by
    intro hkn hB x hfar hL
    have x' := x
    obtain ⟨hm8, hn, hh, gn, gh, hC, hR⟩ := x
    rw [nlX12_lay_208_s, if_pos (hin hm8 (by decide)), cl (show m < 2147483648 by omega), gn]
    by_cases e : k = n
    · rw [if_pos ((lei (by omega) (by omega)).mpr (by omega))]
      refine Tq.some ⟨Fr.rf, far, mo, hfar, rfl, fun j hj => ⟨Or.inl, fun q => q.elim id (fun q => absurd q.1 (by omega))⟩, ⟨Or.inl, fun q => q.elim id ?_⟩⟩
      rintro ⟨j, j1, j2, _⟩
      omega
    have hk : k < n := by omega
    have hok := hM.2.2.2.2.1 k hB hk
    have hs := s_isK_sz hok.1
    have hsz := hok.2.1
    obtain ⟨k1, k2⟩ := q_kindAt x' hk
    rw [if_neg (fun q => absurd ((lei (by omega) (by omega)).mp q) (by omega)), k1, hm_bd_s, q_isJump k2, hm_bd_s]
    have go : ∀ (far1 : Nat → Bool) (mo1 : Bool) (g1 : hm), Fr [310] g g1 → s_Far g1 n far1 → (∀ j, j < n → (far1 j = true ↔ far j = true ∨ (j = k ∧ s_uf c pl S j))) → (mo1 = true ↔ mo = true ∨ (s_uf c pl S k ∧ far k = false)) →
        Tq (njX12_lay_282 (fun y0 y1 g => nlX12_lay_208 f (nI m) v2 y0 y1 g) (nI m) v2 (s_bI mo1) (nI k) (nI (c k)) g1) (fun q => Fr [310] g q.2 ∧ ∃ (far' : Nat → Bool) (mo' : Bool), s_Far q.2 n far' ∧ q.1 = s_bI mo' ∧ (∀ j, j < n → (far' j = true ↔ far j = true ∨ (k ≤ j ∧ s_uf c pl S j))) ∧ (mo' = true ↔ mo = true ∨ ∃ j, k ≤ j ∧ j < n ∧ s_uf c pl S j ∧ far j = false)) := by
      intro far1 mo1 g1 F1 hfar1 E1 E2
      unfold njX12_lay_282
      rw [q_size k2, hm_bd_s, nI_add]
      obtain ⟨d', rfl⟩ : ∃ d', d = d' + 1 := ⟨d - 1, by omega⟩
      have hL1 : s_Lr g1 c n pl ln S 0 := fun j j1 j2 j3 => by rw [F1 308 (by decide), F1 309 (by decide)]; exact hL j j1 j2 j3
      refine (q_l208 hM hS hpl v2 d' (k + s_sz (c k)) f mo1 far1 g1 (by omega) (by omega) hsz (s_B_next hB) (x'.fr F1 (by decide) (by decide) (by decide) (by decide)) hfar1 hL1).mono fun q hq => ?_
      obtain ⟨F2, far', mo', h1, h2, h3, h4⟩ := hq
      refine ⟨F1.trans F2, far', mo', h1, h2, fun j hj => ?_, ?_⟩
      · rw [h3 j hj, E1 j hj]
        constructor
        · rintro ((q | q) | q)
          · exact Or.inl q
          · exact Or.inr ⟨by omega, q.2⟩
          · exact Or.inr ⟨by omega, q.2⟩
        · rintro (q | q)
          · exact Or.inl (Or.inl q)
          · by_cases ej : j = k
            · exact Or.inl (Or.inr ⟨ej, q.2⟩)
            · exact Or.inr ⟨s_B_ge hB q.2.1 (by omega), q.2⟩
      · rw [h4, E2]
        have far1k : ∀ j, j < n → k + s_sz (c k) ≤ j → (far1 j = false ↔ far j = false) := by
          intro j hj hkj
          have := E1 j hj
          constructor
          · intro q
            cases v : far j
            · rfl
            · rw [this.mpr (Or.inl v)] at q; exact absurd q (by decide)
          · intro q
            cases v : far1 j
            · rfl
            · rcases this.mp v with w | w
              · rw [w] at q; exact absurd q (by decide)
              · omega
        constructor
        · rintro ((q | q) | ⟨j, j1, j2, j3, j4⟩)
          · exact Or.inl q
          · exact Or.inr ⟨k, Nat.le_refl k, hk, q⟩
          · exact Or.inr ⟨j, by omega, j2, j3, (far1k j j2 j1).mp j4⟩
        · rintro (q | ⟨j, j1, j2, j3, j4⟩)
          · exact Or.inl (Or.inl q)
          · by_cases ej : j = k
            · rw [ej] at j3 j4; exact Or.inl (Or.inr ⟨j3, j4⟩)
            · have := s_B_ge hB j3.1 (by omega)
              exact Or.inr ⟨j, this, j2, j3, (far1k j j2 this).mpr j4⟩
    have same : ¬ (s_uf c pl S k ∧ far k = false) → Tq (njX12_lay_282 (fun y0 y1 g => nlX12_lay_208 f (nI m) v2 y0 y1 g) (nI m) v2 (s_bI mo) (nI k) (nI (c k)) g) (fun q => Fr [310] g q.2 ∧ ∃ (far' : Nat → Bool) (mo' : Bool), s_Far q.2 n far' ∧ q.1 = s_bI mo' ∧ (∀ j, j < n → (far' j = true ↔ far j = true ∨ (k ≤ j ∧ s_uf c pl S j))) ∧ (mo' = true ↔ mo = true ∨ ∃ j, k ≤ j ∧ j < n ∧ s_uf c pl S j ∧ far j = false)) := by
      intro no
      refine go far mo g Fr.rf hfar (fun j hj => ⟨Or.inl, fun q => q.elim id (fun q => ?_)⟩) ⟨Or.inl, fun q => q.elim id (fun q => absurd q no)⟩
      obtain ⟨q1, q2⟩ := q
      rw [q1] at q2 ⊢
      cases v : far k
      · exact absurd ⟨q2, v⟩ no
      · rfl
    by_cases hj : s_isJ (c k) = true
    rotate_left
    · have u : s_bI (s_isJ (c k)) = 0 := (s_bI_0 _).mpr (by simpa using hj)
      rw [if_pos u]
      exact same (fun q => hj q.1.2.1)
    have u : ¬ s_bI (s_isJ (c k)) = 0 := by rw [hj]; decide
    have hi : hs_in (nI k) 2001 = true := hin (by omega) (by decide)
    rw [if_neg u, if_pos hi, cl (show k < 2147483648 by omega), hfar k hk]
    by_cases c3 : far k = true
    · have u3 : ¬ s_bI (far k) = 0 := by rw [c3]; decide
      rw [if_neg u3]
      exact same (fun q => by rw [c3] at q; exact absurd q.2 (by decide))
    have c3' : far k = false := by simpa using c3
    have u3 : s_bI (far k) = 0 := (s_bI_0 _).mpr c3'
    obtain ⟨l1, l2, l3⟩ := q_leads x' hM hk hB hj
    have a1 := (hL _ l3 (Nat.zero_le _) l2).1
    have a2 := (hL k hB (Nat.zero_le _) hk).2.1
    have b1 := hS _ l3 (by omega)
    have b2 := hS k hB (by omega)
    have b3 := hpl k
    rw [if_pos u3, l1, hm_bd_s, if_pos (hin (show (s_tgt c k).toNat < 2001 by omega) (by decide)), if_pos hi, cl (show (s_tgt c k).toNat < 2147483648 by omega), a1, a2, q_fits (by omega) (by omega), hm_bd_s]
    by_cases c4 : s_ft (S (s_tgt c k).toNat) (S k + pl k) = true
    · have u4 : ¬ s_bI (s_ft (S (s_tgt c k).toNat) (S k + pl k)) = 0 := by rw [c4]; decide
      rw [if_neg u4]
      exact same (fun q => by rw [q.1.2.2] at c4; exact absurd c4 (by decide))
    have c4' : s_ft (S (s_tgt c k).toNat) (S k + pl k) = false := by simpa using c4
    have u4 : s_bI (s_ft (S (s_tgt c k).toNat) (S k + pl k)) = 0 := (s_bI_0 _).mpr c4'
    rw [if_pos u4, if_pos hi]
    have huf : s_uf c pl S k := ⟨hB, hj, c4'⟩
    refine go (fun i => if i = k then true else far i) true _ (Fr.rf.w (by decide)) (fun i hi => ?_) (fun j hj => ?_) ⟨fun _ => Or.inr ⟨huf, c3'⟩, fun _ => rfl⟩
    · rw [hm_w_at]
      show _ = s_bI (if i = k then true else far i)
      by_cases ei : i = k
      · rw [if_pos ei, if_pos ei]; rfl
      · rw [if_neg ei, if_neg ei]; exact hfar i hi
    · show (if j = k then true else far j) = true ↔ _
      by_cases ej : j = k
      · rw [if_pos ej, ej]
        exact ⟨fun _ => Or.inr ⟨rfl, huf⟩, fun _ => rfl⟩
      · rw [if_neg ej]
        exact ⟨Or.inl, fun q => q.elim id (fun q => absurd q.1 ej)⟩
