/-! THE STACK'S DEPTHS -/
def s_tq (c par : Nat → Nat) (k : Nat) : Nat := if c k = 184 then par (c (k + 1)) else s_tk (c k)
def s_fl (k : Nat) : Bool := !(decide (k = 172)) && !(decide (k = 191)) && !(decide (k = 167)) && !(decide (k = 168))
/-- the depth behind the instruction at k -/
def s_d2 (c par : Nat → Nat) (k d : Nat) : Nat := d - s_tq c par k + s_gv (c k)
/-- one goes on from k to k' -/
def s_go (c : Nat → Nat) (k k' : Nat) : Prop := (s_fl (c k) = true ∧ k' = k + s_sz (c k)) ∨ (s_isJ (c k) = true ∧ k' = (s_tgt c k).toNat)
/-- the places that one comes to in t goings on, with their depths -/
def s_Rc (c par : Nat → Nat) (h : Nat) (R : Nat → Nat) : Nat → Nat → Nat → Prop
  | 0, k, d => (k = 0 ∧ d = 0) ∨ ∃ q, q < h ∧ k = R (4 * q + 2) ∧ d = 1
  | t + 1, k, d => s_Rc c par h R t k d ∨ ∃ k' d', s_Rc c par h R t k' d' ∧ s_go c k' k ∧ d = s_d2 c par k' d'
def s_o1 (c par : Nat → Nat) (n k d : Nat) : Prop := s_tq c par k ≤ d ∧ s_d2 c par k d ≤ 20 ∧ (s_fl (c k) = true → k + s_sz (c k) < n)
def s_DOK (c par : Nat → Nat) (n h : Nat) (R : Nat → Nat) : Prop := (∀ q, q < h → R (4 * q + 2) ≠ 0) ∧ (∀ t k d, s_Rc c par h R t k d → s_o1 c par n k d) ∧ ∀ t k d t' d', s_Rc c par h R t k d → s_Rc c par h R t' k d' → d = d'
theorem s_Rc_up {c par : Nat → Nat} {h : Nat} {R : Nat → Nat} {t k d : Nat} (x : s_Rc c par h R t k d) : ∀ t', t ≤ t' → s_Rc c par h R t' k d := by
  intro t' ht
  induction ht with
  | refl => exact x
  | step _ ih => exact Or.inl ih
/-- a row of depths: unknown, or a depth -/
def s_dv (x : Int32) : Prop := x = -1 ∨ ∃ d, d ≤ 20 ∧ x = nI d
theorem q_comes {m n p d : Nat} {g : hm} (hm8 : m < 8) (hn : n ≤ 2000) (hp : p < n) (hd : d ≤ 1000) (hv : s_dv (g 295 (2001 * m + p))) :
    ((g 295 (2001 * m + p) = -1 ∨ g 295 (2001 * m + p) = nI d) → nX12_comes (nI m) (nI p) (nI d) g = some (1, hm_w g 295 (2001 * m + p) (nI d))) ∧
    (¬ (g 295 (2001 * m + p) = -1 ∨ g 295 (2001 * m + p) = nI d) → nX12_comes (nI m) (nI p) (nI d) g = some (0, g)) := by
  have c1 : (2001 : Int32) * nI m + nI p = nI (2001 * m + p) := ix 2001 m p
  have i0 : hs_in (nI (2001 * m + p)) 16008 = true := hin (by omega) (by decide)
  have l0 : (nI (2001 * m + p)).toNatClampNeg = 2001 * m + p := cl (by omega)
  unfold nX12_comes njX12_comes_32
  rw [c1, if_pos i0, l0, if_pos i0]
  rcases hv with e | ⟨e0, he, e⟩
  · rw [e, if_pos (by decide)]
    exact ⟨fun _ => rfl, fun q => absurd (Or.inl rfl) q⟩
  · rw [e, if_neg (nI_pos (by omega))]
    by_cases x : nI e0 = nI d
    · rw [if_pos x]
      exact ⟨fun _ => rfl, fun q => absurd (Or.inr x) q⟩
    · rw [if_neg x]
      refine ⟨fun q => q.elim (fun y => ?_) (fun y => absurd y x), fun _ => rfl⟩
      exact absurd (show nI e0 < 0 by rw [y]; decide) (nI_pos (by omega))
theorem s_isJ_fl {k : Nat} (h : s_fl k = false) : k = 172 ∨ k = 191 ∨ k = 167 ∨ k = 168 := by
  simp only [s_fl, Bool.and_eq_false_iff, Bool.not_eq_false', decide_eq_true_eq] at h
  omega
theorem s_gv_le (k : Nat) : s_gv k ≤ 2 := by
  unfold s_gv
  repeat' split
  all_goals omega
theorem s_tk_le (k : Nat) : s_tk k ≤ 2 := by
  unfold s_tk
  repeat' split
  all_goals omega
theorem s_184_sz : s_sz 184 = 2 := by decide
set_option maxHeartbeats 1000000 in
theorem q_goesOn {m n k d l N t b : Nat} {c par : Nat → Nat} {g : hm} (hm8 : m < 8) (hn : n ≤ 2000) (hk : k < n) (hd : d ≤ 20) (gt : g 285 2 = nI t) (ht : t ≤ 6000) (gn : g 299 m = nI n) (gb : g 300 m = nI b) (hb : b ≤ 20000) (hC : s_C g 303 (2001 * m) n c) (hok : s_okI c l N n k) (hN : N ≤ 8) (hjk : s_isJ (c k) = true → s_is c n (s_tgt c k)) (hpar : ∀ o, o < N → g 297 o = nI (par o) ∧ par o ≤ 4) (hv : ∀ i, i < n → s_dv (g 295 (2001 * m + i))) (hD : g 295 (2001 * m + k) = nI d) :
    Tq (nX12_goesOn (nI m) (nI k) g) (fun q => Fr [295] g q.2 ∧ (∀ i, (i < 2001 * m ∨ 2001 * m + n ≤ i) → q.2 295 i = g 295 i) ∧
      ((q.1 = 0 ∧ s_o1 c par n k d ∧ (∀ i, i < n → s_go c k i → (g 295 (2001 * m + i) = -1 ∨ g 295 (2001 * m + i) = nI (s_d2 c par k d))) ∧ (∀ i, i < n → s_go c k i → q.2 295 (2001 * m + i) = nI (s_d2 c par k d)) ∧ ∀ i, i < n → ¬ s_go c k i → q.2 295 (2001 * m + i) = g 295 (2001 * m + i)) ∨
       (q.1 < 0 ∧ (¬ s_o1 c par n k d ∨ ∃ i, i < n ∧ s_go c k i ∧ ¬ (g 295 (2001 * m + i) = -1 ∨ g 295 (2001 * m + i) = nI (s_d2 c par k d)))))) := by
  obtain ⟨g0, b0⟩ := hC k hk
  have hsz := hok.2.1
  have hs0 := s_isK_sz hok.1
  have c1 : (2001 : Int32) * nI m + nI k = nI (2001 * m + k) := ix 2001 m k
  have c2 : nI (2001 * m + k) + (1 : Int32) = nI (2001 * m + (k + 1)) := nI_add _ 1
  have c3 : nI (2001 * m + k) + (2 : Int32) = nI (2001 * m + (k + 2)) := nI_add _ 2
  have i0 : hs_in (nI (2001 * m + k)) 16008 = true := hin (by omega) (by decide)
  have i1 : hs_in (nI (2001 * m + (k + 1))) 16008 = true := hin (by omega) (by decide)
  have l0 : (nI (2001 * m + k)).toNatClampNeg = 2001 * m + k := cl (by omega)
  have l1 : (nI (2001 * m + (k + 1))).toNatClampNeg = 2001 * m + (k + 1) := cl (by omega)
  have h8 : hs_in (nI m) 8 = true := hin hm8 (by decide)
  have cm : (nI m).toNatClampNeg = m := cl (by omega)
  have htq : s_tq c par k ≤ 4 ∧ nX12_takes (nI (c k)) (g 303 (2001 * m + (k + 1))) g = some (nI (s_tq c par k), g) := by
    unfold s_tq
    by_cases e : c k = 184
    · rw [if_pos e]
      have hc1 := hok.2.2.2.1 e
      obtain ⟨g1, -⟩ := hC (k + 1) (by rw [e, s_184_sz] at hsz; omega)
      rw [e, g1, q_takesC (by omega), (hpar _ hc1).1]
      exact ⟨(hpar _ hc1).2, rfl⟩
    · rw [if_neg e]
      exact ⟨by have := s_tk_le (c k); omega, q_takes b0 e _ g⟩
  have hgv := s_gv_le (c k)
  unfold nX12_goesOn
  rw [c1, c2, if_pos i0, if_pos i0, if_pos i1, l0, l1, g0, htq.2, hm_bd_s, q_gives b0, hm_bd_s, q_size b0, hm_bd_s, hD, nI_add]
  -- all ways come to 95
  have e172 : (nI (c k) = (172 : Int32)) = (c k = 172) := keq b0 172 (by decide)
  have e191 : (nI (c k) = (191 : Int32)) = (c k = 191) := keq b0 191 (by decide)
  have e167 : (nI (c k) = (167 : Int32)) = (c k = 167) := keq b0 167 (by decide)
  have e168 : (nI (c k) = (168 : Int32)) = (c k = 168) := keq b0 168 (by decide)
  have to95 : ∀ (a3 a5 a6 a7 : Int32), (if nI (c k) = (172 : Int32) then njX12_goesOn_94 (nI m) (nI k) a3 (nI (c k)) a5 a6 a7 g else if nI (c k) = (191 : Int32) then njX12_goesOn_94 (nI m) (nI k) a3 (nI (c k)) a5 a6 a7 g else if nI (c k) = (167 : Int32) then njX12_goesOn_94 (nI m) (nI k) a3 (nI (c k)) a5 a6 a7 g else if nI (c k) = (168 : Int32) then njX12_goesOn_94 (nI m) (nI k) a3 (nI (c k)) a5 a6 a7 g else njX12_goesOn_95 (nI m) (nI k) a3 (nI (c k)) a5 a6 a7 1 g) = njX12_goesOn_95 (nI m) (nI k) a3 (nI (c k)) a5 a6 a7 (s_bI (s_fl (c k))) g := by
    intro a3 a5 a6 a7
    unfold njX12_goesOn_94
    simp only [e172, e191, e167, e168]
    by_cases x1 : c k = 172
    · simp [x1, s_fl, s_bI]
    by_cases x2 : c k = 191
    · simp [x2, s_fl, s_bI]
    by_cases x3 : c k = 167
    · simp [x3, s_fl, s_bI]
    by_cases x4 : c k = 168
    · simp [x4, s_fl, s_bI]
    simp [x1, x2, x3, x4, s_fl, s_bI]
  rw [to95]
  have stop : ∀ (g' : hm) (p : Nat), Fr [295] g g' → p < 1000000 → ∃ r : Int32, nX12_wrong (nI p) g' = some (r, g') ∧ r < 0 := fun g' p hF hp => q_wrong (t := t) (by rw [hF 285 (by decide)]; exact gt) hp (by omega)
  have j125 : ¬ s_o1 c par n k d → Tq (njX12_goesOn_125 (nI m) (nI k) g) (fun q => Fr [295] g q.2 ∧ (∀ i, (i < 2001 * m ∨ 2001 * m + n ≤ i) → q.2 295 i = g 295 i) ∧
      ((q.1 = 0 ∧ s_o1 c par n k d ∧ (∀ i, i < n → s_go c k i → (g 295 (2001 * m + i) = -1 ∨ g 295 (2001 * m + i) = nI (s_d2 c par k d))) ∧ (∀ i, i < n → s_go c k i → q.2 295 (2001 * m + i) = nI (s_d2 c par k d)) ∧ ∀ i, i < n → ¬ s_go c k i → q.2 295 (2001 * m + i) = g 295 (2001 * m + i)) ∨
       (q.1 < 0 ∧ (¬ s_o1 c par n k d ∨ ∃ i, i < n ∧ s_go c k i ∧ ¬ (g 295 (2001 * m + i) = -1 ∨ g 295 (2001 * m + i) = nI (s_d2 c par k d)))))) := by
    intro hno
    unfold njX12_goesOn_125
    rw [if_pos h8, cm, gb, nI_add]
    obtain ⟨r, w1, w2⟩ := stop g (b + k) Fr.rf (by omega)
    rw [w1, hm_bd_s]
    exact Tq.some ⟨Fr.rf, fun _ _ => rfl, Or.inr ⟨w2, Or.inl hno⟩⟩
  unfold njX12_goesOn_95
  by_cases p1 : s_tq c par k ≤ d
  rotate_left
  · rw [if_pos (pk_sneg (by omega) (by omega))]
    exact j125 (fun q => p1 q.1)
  have ed2 : d - s_tq c par k + s_gv (c k) = s_d2 c par k d := rfl
  rw [pk_sub p1, nI_add, ed2, if_neg (nI_pos (by omega))]
  have hd2 : s_d2 c par k d ≤ 1000 := by unfold s_d2; omega
  by_cases p2 : s_d2 c par k d ≤ 20
  rotate_left
  · have u : (20 : Int32) < nI (s_d2 c par k d) := (lti (a := 20) (by decide) (by omega)).mpr (by omega)
    rw [if_pos u]
    exact j125 (fun q => p2 q.2.1)
  have u2 : ¬ (20 : Int32) < nI (s_d2 c par k d) := fun q => absurd ((lti (a := 20) (by decide) (by omega)).mp q) (by omega)
  rw [if_neg u2]
  -- the jump's way, over any state whose depths differ from g's at most at the next place
  have jump : ∀ g1 : hm, Fr [295] g g1 → (∀ i, (i < 2001 * m ∨ 2001 * m + n ≤ i) → g1 295 i = g 295 i) → s_o1 c par n k d → (∀ i, i < n → (s_fl (c k) = true ∧ i = k + s_sz (c k)) → (g 295 (2001 * m + i) = -1 ∨ g 295 (2001 * m + i) = nI (s_d2 c par k d)) ∧ g1 295 (2001 * m + i) = nI (s_d2 c par k d)) → (∀ i, i < n → ¬ (s_fl (c k) = true ∧ i = k + s_sz (c k)) → g1 295 (2001 * m + i) = g 295 (2001 * m + i)) →
      Tq (njX12_goesOn_169 (nI m) (nI k) (nI (2001 * m + k)) (nI (c k)) (nI (s_d2 c par k d)) g1) (fun q => Fr [295] g q.2 ∧ (∀ i, (i < 2001 * m ∨ 2001 * m + n ≤ i) → q.2 295 i = g 295 i) ∧
      ((q.1 = 0 ∧ s_o1 c par n k d ∧ (∀ i, i < n → s_go c k i → (g 295 (2001 * m + i) = -1 ∨ g 295 (2001 * m + i) = nI (s_d2 c par k d))) ∧ (∀ i, i < n → s_go c k i → q.2 295 (2001 * m + i) = nI (s_d2 c par k d)) ∧ ∀ i, i < n → ¬ s_go c k i → q.2 295 (2001 * m + i) = g 295 (2001 * m + i)) ∨
       (q.1 < 0 ∧ (¬ s_o1 c par n k d ∨ ∃ i, i < n ∧ s_go c k i ∧ ¬ (g 295 (2001 * m + i) = -1 ∨ g 295 (2001 * m + i) = nI (s_d2 c par k d)))))) := by
    intro g1 f1 o1 ho1 hy hno
    unfold njX12_goesOn_169
    rw [q_isJump b0, hm_bd_s]
    by_cases hj : s_isJ (c k) = true
    rotate_left
    · have hj' : s_isJ (c k) = false := by simpa using hj
      rw [if_pos (by rw [hj']; rfl)]
      refine Tq.some ⟨f1, o1, Or.inl ⟨rfl, ho1, ?_, ?_, ?_⟩⟩
      · intro i hi hg
        exact hg.elim (fun x => (hy i hi x).1) (fun x => absurd x.1 hj)
      · intro i hi hg
        exact hg.elim (fun x => (hy i hi x).2) (fun x => absurd x.1 hj)
      · intro i hi hg
        exact hno i hi (fun x => hg (Or.inl x))
    have hs2 := (s_isJ_sz hj).1
    rw [if_neg (by rw [hj]; decide), c2, c3, if_pos i1, if_pos (hin (by omega) (by decide)), l1, cl (by omega)]
    have hC1 : s_C g1 303 (2001 * m) n c := fun i hi => by rw [f1 303 (by decide)]; exact hC i hi
    obtain ⟨x, -, -⟩ := q_tgt hC1 hk hn hok hj
    have g01 : g1 303 (2001 * m + k) = nI (c k) := by rw [f1 303 (by decide)]; exact g0
    rw [g01] at x
    rw [x, hm_bd_s]
    obtain ⟨z1, z2, -⟩ := hjk hj
    obtain ⟨p, hp⟩ : ∃ p : Nat, s_tgt c k = (p : Int) := ⟨(s_tgt c k).toNat, by omega⟩
    have hpn : p < n := by omega
    have hgo : s_go c k p := Or.inr ⟨hj, by rw [hp]; rfl⟩
    have hgo' : ∀ i, (s_isJ (c k) = true ∧ i = (s_tgt c k).toNat) → i = p := fun i q => by rw [q.2, hp]; rfl
    rw [hp, zI_n]
    have hv1 : s_dv (g1 295 (2001 * m + p)) := by
      by_cases e : s_fl (c k) = true ∧ p = k + s_sz (c k)
      · rw [(hy p hpn e).2]; exact Or.inr ⟨_, p2, rfl⟩
      · rw [hno p hpn e]; exact hv p hpn
    obtain ⟨y1, y2⟩ := q_comes hm8 hn hpn hd2 hv1
    by_cases cc : g1 295 (2001 * m + p) = -1 ∨ g1 295 (2001 * m + p) = nI (s_d2 c par k d)
    · rw [y1 cc, hm_bd_s, if_neg (by decide)]
      refine Tq.some ⟨f1.w (by decide), fun i hi => (hm_w_o (g := g1) (a := 295) (j := 2001 * m + p) (by omega)).trans (o1 i hi), Or.inl ⟨rfl, ho1, ?_, ?_, ?_⟩⟩
      · intro i hi hg
        rcases hg with e | e
        · exact (hy i hi e).1
        · have e := hgo' i e
          subst e
          by_cases e2 : s_fl (c k) = true ∧ i = k + s_sz (c k)
          · exact (hy i hi e2).1
          · rw [← hno i hi e2]; exact cc
      · intro i hi hg
        show hm_w g1 295 (2001 * m + p) _ 295 (2001 * m + i) = _
        rw [hm_w_at]
        by_cases e : i = p
        · rw [if_pos (by rw [e])]
        · rw [if_neg (by omega)]
          exact hg.elim (fun x => (hy i hi x).2) (fun x => absurd (hgo' i x) e)
      · intro i hi hg
        show hm_w g1 295 (2001 * m + p) _ 295 (2001 * m + i) = _
        rw [hm_w_o (fun q => hg (by rw [show i = p by omega]; exact hgo))]
        exact hno i hi (fun x => hg (Or.inl x))
    · rw [y2 cc, hm_bd_s, if_pos rfl, if_pos h8, cm, f1 300 (by decide), gb, nI_add]
      obtain ⟨r, w1, w2⟩ := stop g1 (b + p) f1 (by omega)
      rw [w1, hm_bd_s]
      refine Tq.some ⟨f1, o1, Or.inr ⟨w2, Or.inr ⟨p, hpn, hgo, ?_⟩⟩⟩
      by_cases e : s_fl (c k) = true ∧ p = k + s_sz (c k)
      · exact absurd (Or.inr (hy p hpn e).2) cc
      · rw [← hno p hpn e]; exact cc
  by_cases hf : s_fl (c k) = true
  · rw [hf, if_neg (show ¬ s_bI true = 0 by decide), if_pos h8, cm, gn]
    by_cases p3 : k + s_sz (c k) < n
    rotate_left
    · rw [if_pos (by rw [show k + s_sz (c k) = n by omega])]
      exact j125 (fun q => p3 (q.2.2 hf))
    have ho1 : s_o1 c par n k d := ⟨p1, p2, fun _ => p3⟩
    rw [if_neg (fun q => absurd ((eqi (by omega) (by omega)).mp q) (by omega))]
    unfold njX12_goesOn_138
    rw [if_neg (show ¬ s_bI true = 0 by decide)]
    obtain ⟨y1, y2⟩ := q_comes hm8 hn p3 hd2 (hv _ p3)
    have hgo : s_go c k (k + s_sz (c k)) := Or.inl ⟨hf, rfl⟩
    by_cases cc : g 295 (2001 * m + (k + s_sz (c k))) = -1 ∨ g 295 (2001 * m + (k + s_sz (c k))) = nI (s_d2 c par k d)
    · rw [y1 cc, hm_bd_s, if_neg (by decide)]
      refine jump _ (Fr.rf.w (by decide)) (fun i hi => by rw [hm_w_o (by omega)]) ho1 (fun i hi e => ?_) (fun i hi e => ?_)
      · rw [e.2]
        exact ⟨cc, by rw [hm_w_eq]⟩
      · rw [hm_w_o (fun q => e ⟨hf, by omega⟩)]
    · rw [y2 cc, hm_bd_s, if_pos rfl, if_pos h8, cm, gb, nI_add]
      obtain ⟨r, w1, w2⟩ := stop g (b + (k + s_sz (c k))) Fr.rf (by omega)
      rw [w1, hm_bd_s]
      exact Tq.some ⟨Fr.rf, fun _ _ => rfl, Or.inr ⟨w2, Or.inr ⟨_, p3, hgo, cc⟩⟩⟩
  · have hf' : s_fl (c k) = false := by simpa using hf
    rw [hf', if_pos (show s_bI false = 0 by rfl)]
    unfold njX12_goesOn_138
    rw [if_pos (show s_bI false = 0 by rfl)]
    have ho1 : s_o1 c par n k d := ⟨p1, p2, fun q => absurd q hf⟩
    exact jump g Fr.rf (fun _ _ => rfl) ho1 (fun i hi e => absurd e.1 hf) (fun i hi e => rfl)
