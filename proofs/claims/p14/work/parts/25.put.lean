theorem hm_bv_s {σ β : Type} (s : σ) (f : σ → Option β) : hm_bv (some s) f = f s := rfl
def s_op (k : Nat) : Nat := if k % 2 = 1 then k + 1 else k - 1
/-- the bytes of a jump that is put at p -/
def s_ej (c : Nat → Nat) (far : Nat → Bool) (S : Nat → Nat) (p k o : Nat) : Nat :=
  if far k = true then (if c k < 167 then (if o = 0 then s_op (c k) else if o = 1 then 5 else if o = 2 then 168 else if o = 3 then s_hi ((S (s_tgt c k).toNat : Int) - p - 2) else s_lo ((S (s_tgt c k).toNat : Int) - p - 2))
    else (if o = 0 then 168 else if o = 1 then s_hi ((S (s_tgt c k).toNat : Int) - p) else s_lo ((S (s_tgt c k).toNat : Int) - p)))
  else (if o = 0 then (if c k < 167 then c k else 167) else s_lo ((S (s_tgt c k).toNat : Int) - p))
theorem s_isJ_c {k : Nat} (h : s_isJ k = true) : (k < 167 ∧ 153 ≤ k ∧ k ≤ 158) ∨ (¬ k < 167 ∧ (k = 167 ∨ k = 168)) := by
  simp only [s_isJ, Bool.or_eq_true, Bool.and_eq_true, decide_eq_true_eq] at h
  omega
theorem s_sz_t {k : Nat} (h1 : 153 ≤ k) (h2 : k ≤ 158) : s_sz k = 2 := by
  obtain e | e | e | e | e | e : k = 153 ∨ k = 154 ∨ k = 155 ∨ k = 156 ∨ k = 157 ∨ k = 158 := by omega
  all_goals
    rw [e]
    decide
theorem s_ln_j {c : Nat → Nat} {far : Nat → Bool} {k : Nat} (hj : s_isJ (c k) = true) : s_ln c far k = if far k = true then (if c k < 167 then 5 else 3) else 2 := by
  unfold s_ln
  rcases s_isJ_c hj with ⟨h0, h1, h2⟩ | ⟨h0, h1⟩
  · rw [if_neg (by omega), s_sz_t h1 h2, if_pos h0]
    by_cases e : far k = true
    · rw [if_pos ⟨hj, e⟩, if_pos e]
    · rw [if_neg (fun q => e q.2), if_neg e]
  · rw [if_pos h1, if_neg h0]
theorem q_pj144 {p : Nat} {z : Int} (hp : p + 3 ≤ 12008) (h1 : -1000000 < z) (h2 : z < 1000000) (g : hm) : njX12_putJump_144 (nI p) (zI z) g = some (hm_w (hm_w (hm_w g 311 p (nI 168)) 311 (p + 1) (nI (s_hi z))) 311 (p + 2) (nI (s_lo z))) := by
  have e1 : nI p + (1 : Int32) = nI (p + 1) := nI_add _ 1
  have e2 : nI p + (2 : Int32) = nI (p + 2) := nI_add _ 2
  unfold njX12_putJump_144
  rw [e1, e2, if_pos (hin (show p < 12008 by omega) (by decide)), if_pos (hin (show p + 1 < 12008 by omega) (by decide)), hm_bv_s, if_pos (hin (show p + 2 < 12008 by omega) (by decide)), cl (by omega), cl (by omega), cl (by omega), nz_hi h1 h2, nz_lo]
  rfl
theorem s_O.w3 {g : hm} {p : Nat} {a b d : Int32} : s_O g (hm_w (hm_w (hm_w g 311 p a) 311 (p + 1) b) 311 (p + 2) d) p (p + 3) :=
  ((s_O.w (a := p) (e := p + 3) (by omega) (by omega)).tr (s_O.w (a := p) (e := p + 3) (by omega) (by omega)) (Nat.le_refl _) (Nat.le_refl _) (Nat.le_refl _) (Nat.le_refl _)).tr (s_O.w (a := p) (e := p + 3) (by omega) (by omega)) (Nat.le_refl _) (Nat.le_refl _) (Nat.le_refl _) (Nat.le_refl _)
theorem s_O.w2 {g : hm} {p : Nat} {a b : Int32} : s_O g (hm_w (hm_w g 311 p a) 311 (p + 1) b) p (p + 2) :=
  (s_O.w (a := p) (e := p + 2) (by omega) (by omega)).tr (s_O.w (a := p) (e := p + 2) (by omega) (by omega)) (Nat.le_refl _) (Nat.le_refl _) (Nat.le_refl _) (Nat.le_refl _)
/-- putJump() -/
theorem q_putJump {g : hm} {m n h k l N p : Nat} {c R S : Nat → Nat} {far : Nat → Bool} (x : s_G g m n h c R) (hM : s_Mt n l N h c R) (hk : k < n) (hB : s_B c k) (hj : s_isJ (c k) = true) (hfar : g 310 k = s_bI (far k)) (hS : g 308 (s_tgt c k).toNat = nI (S (s_tgt c k).toNat)) (hSb : S (s_tgt c k).toNat ≤ 12000) (hp : p + s_ln c far k ≤ 12008) :
    Tq (nX12_putJump (nI m) (nI k) (nI p) g) (fun q => s_O g q p (p + s_ln c far k) ∧ ∀ o, o < s_ln c far k → q 311 (p + o) = nI (s_ej c far S p k o)) := by
  have hn := x.2.1
  obtain ⟨k1, k2⟩ := q_kindAt x hk
  obtain ⟨l1, l2, l3⟩ := q_leads x hM hk hB hj
  have e1 : nI p + (1 : Int32) = nI (p + 1) := nI_add _ 1
  have e2 : nI p + (2 : Int32) = nI (p + 2) := nI_add _ 2
  have eln := s_ln_j (far := far) hj
  have hi : hs_in (nI k) 2001 = true := hin (by omega) (by decide)
  have hpp : p < 12008 ∧ p + 2 ≤ 12008 := by
    rw [eln] at hp
    split at hp
    · split at hp <;> omega
    · omega
  unfold nX12_putJump
  rw [k1, hm_bd_s, l1, hm_bd_s, if_pos (hin (show (s_tgt c k).toNat < 2001 by omega) (by decide)), cl (by omega), hS, nz_sub]
  have b0 : hs_in (nI p) 12008 = true := hin hpp.1 (by decide)
  have b1 : hs_in (nI (p + 1)) 12008 = true := hin (by omega) (by decide)
  have near : ∀ kd : Nat, far k = false → kd = (if c k < 167 then c k else 167) → Tq (njX12_putJump_70 (nI p) (zI ((S (s_tgt c k).toNat : Int) - p)) (nI kd) (nI p) g) (fun q => s_O g q p (p + s_ln c far k) ∧ ∀ o, o < s_ln c far k → q 311 (p + o) = nI (s_ej c far S p k o)) := by
    intro kd hf hkd
    unfold njX12_putJump_70
    rw [e1, if_pos b0, if_pos b1, cl (by omega), cl (by omega), nz_lo, eln, if_neg (by rw [hf]; decide)]
    refine Tq.some ⟨s_O.w2, fun o ho => ?_⟩
    unfold s_ej
    rw [if_neg (by rw [hf]; decide)]
    obtain e | e : o = 0 ∨ o = 1 := by omega
    · rw [e, if_pos rfl, ← hkd]; simp [hm_w]
    · rw [e, if_neg (by decide)]; simp [hm_w]
  have g168 : far k = true → ¬ c k < 167 → Tq (njX12_putJump_144 (nI p) (zI ((S (s_tgt c k).toNat : Int) - p)) g) (fun q => s_O g q p (p + s_ln c far k) ∧ ∀ o, o < s_ln c far k → q 311 (p + o) = nI (s_ej c far S p k o)) := by
    intro hf hc
    rw [eln, if_pos hf, if_neg hc] at hp ⊢
    rw [q_pj144 hp (by omega) (by omega)]
    refine Tq.some ⟨s_O.w3, fun o ho => ?_⟩
    unfold s_ej
    rw [if_pos hf, if_neg hc]
    obtain e | e | e : o = 0 ∨ o = 1 ∨ o = 2 := by omega
    · rw [e, if_pos rfl]; simp [hm_w]
    · rw [e, if_neg (by decide), if_pos rfl]; simp [hm_w]
    · rw [e, if_neg (by decide), if_neg (by decide)]; simp [hm_w]
  have g117 : far k = true → c k < 167 → Tq (njX12_putJump_117 (nI p) (zI ((S (s_tgt c k).toNat : Int) - p)) (nI (s_op (c k))) (nI p) g) (fun q => s_O g q p (p + s_ln c far k) ∧ ∀ o, o < s_ln c far k → q 311 (p + o) = nI (s_ej c far S p k o)) := by
    intro hf hc
    rw [eln, if_pos hf, if_pos hc] at hp ⊢
    have ez : zI ((S (s_tgt c k).toNat : Int) - p) + (-2 : Int32) = zI ((S (s_tgt c k).toNat : Int) - p - 2) := by
      rw [show (-2 : Int32) = zI (-2) by decide, zI_add]; congr 1
    unfold njX12_putJump_117
    rw [e1, e2, ez, if_pos b0, if_pos b1, cl (by omega), cl (by omega)]
    generalize hg2 : hm_w (hm_w g 311 p (nI (s_op (c k)))) 311 (p + 1) (5 : Int32) = g2
    have O2 : s_O g g2 p (p + 2) := by rw [← hg2]; exact s_O.w2
    have v0 : g2 311 p = nI (s_op (c k)) := by rw [← hg2]; simp [hm_w]
    have v1 : g2 311 (p + 1) = nI 5 := by rw [← hg2, hm_w_eq]; rfl
    generalize hg3 : hm_w g2 285 31 (g2 285 31 + (1 : Int32)) = g3
    have O3 : s_O g g3 p (p + 2) := by rw [← hg3]; exact O2.tr (s_O.w31 (a := p) (e := p + 2)) (Nat.le_refl _) (Nat.le_refl _) (Nat.le_refl _) (Nat.le_refl _)
    have v0' : g3 311 p = nI (s_op (c k)) := by rw [← hg3, hm_w_ne (by decide)]; exact v0
    have v1' : g3 311 (p + 1) = nI 5 := by rw [← hg3, hm_w_ne (by decide)]; exact v1
    rw [q_pj144 (p := p + 2) (by omega) (by omega) (by omega)]
    have O4 : s_O g3 (hm_w (hm_w (hm_w g3 311 (p + 2) (nI 168)) 311 (p + 2 + 1) (nI (s_hi ((S (s_tgt c k).toNat : Int) - p - 2)))) 311 (p + 2 + 2) (nI (s_lo ((S (s_tgt c k).toNat : Int) - p - 2)))) (p + 2) (p + 2 + 3) := s_O.w3
    refine Tq.some ⟨O3.tr O4 (by omega) (by omega) (by omega) (by omega), fun o ho => ?_⟩
    unfold s_ej
    rw [if_pos hf, if_pos hc]
    obtain e | e | e | e | e : o = 0 ∨ o = 1 ∨ o = 2 ∨ o = 3 ∨ o = 4 := by omega
    · rw [O4.2.2 (p + o) (by omega), e, if_pos rfl]; exact v0'
    · rw [O4.2.2 (p + o) (by omega), e, if_neg (by decide), if_pos rfl]; exact v1'
    · rw [e, if_neg (by decide), if_neg (by decide), if_pos rfl]; simp [hm_w]
    · rw [e, if_neg (by decide), if_neg (by decide), if_neg (by decide), if_pos rfl]; simp [hm_w]
    · rw [e, if_neg (by decide), if_neg (by decide), if_neg (by decide), if_neg (by decide)]; simp [hm_w]
  unfold njX12_putJump_40
  rw [if_pos hi, if_pos hi, cl (show k < 2147483648 by omega), hfar]
  by_cases hf : far k = true
  · have uf : ¬ s_bI (far k) = 0 := by rw [hf]; decide
    rw [if_neg uf, if_neg uf]
    by_cases hc : c k < 167
    rotate_left
    · have u : (167 : Int32) ≤ nI (c k) := (lei (a := 167) (by decide) (by omega)).mpr (by omega)
      rw [if_pos u, if_pos rfl]
      exact g168 hf hc
    have u : ¬ (167 : Int32) ≤ nI (c k) := fun q => absurd ((lei (a := 167) (by decide) (by omega)).mp q) (by omega)
    have er : nI (c k) - nI (c k) / (2 : Int32) * (2 : Int32) = nI (c k % 2) := pk_rem (d := 2) (by omega) (by decide) (by decide)
    rw [if_neg u, if_neg (by decide), if_pos (by decide), er]
    have hop := g117 hf hc
    unfold s_op at hop
    by_cases ho : c k % 2 = 1
    · have uo : nI (c k % 2) = (1 : Int32) := by rw [ho]; rfl
      rw [if_pos uo, nI_1]
      rw [if_pos ho] at hop
      exact hop
    · have uo : ¬ nI (c k % 2) = (1 : Int32) := fun q => ho ((eqi (b := 1) (by omega) (by decide)).mp q)
      have hc1 : 1 ≤ c k := by
        rcases s_isJ_c hj with q | q <;> omega
      have es : nI (c k) - (1 : Int32) = nI (c k - 1) := pk_sub (b := 1) hc1
      rw [if_neg uo, es]
      rw [if_neg ho] at hop
      exact hop
  · have hf' : far k = false := by simpa using hf
    have uf : s_bI (far k) = 0 := (s_bI_0 _).mpr hf'
    rw [if_pos uf, if_pos uf]
    by_cases hc : c k < 167
    · have u : ¬ (167 : Int32) ≤ nI (c k) := fun q => absurd ((lei (a := 167) (by decide) (by omega)).mp q) (by omega)
      rw [if_neg u, if_neg (by decide)]
      exact near (c k) hf' (by rw [if_pos hc])
    · have u : (167 : Int32) ≤ nI (c k) := (lei (a := 167) (by decide) (by omega)).mpr (by omega)
      rw [if_pos u, if_pos rfl]
      exact near 167 hf' (by rw [if_neg hc])
