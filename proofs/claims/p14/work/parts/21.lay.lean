/-! THE LAYING OUT -/
def s_ft (a b : Nat) : Bool := decide (b ≤ a + 128) && decide (a ≤ b + 127)
theorem nz_sub (a b : Nat) : nI a - nI b = zI ((a : Int) - b) := by rw [← zI_sub, zI_n, zI_n]
theorem q_fits {a b : Nat} (ha : a < 1000000) (hb : b < 1000000) (g : hm) : nX12_fits (nI a - nI b) g = some (s_bI (s_ft a b), g) := by
  have z1 : ((-128 : Int32)) = zI (-128) := by decide
  have z2 : ((127 : Int32)) = zI 127 := by decide
  unfold nX12_fits
  rw [nz_sub, z1, z2]
  by_cases c1 : b ≤ a + 128
  rotate_left
  · rw [if_pos ((zI_lt (by omega) (by omega) (by omega) (by omega)).mpr (by omega))]
    simp [s_ft, c1, s_bI]
  rw [if_neg (fun q => absurd ((zI_lt (by omega) (by omega) (by omega) (by omega)).mp q) (by omega))]
  by_cases c2 : a ≤ b + 127
  · rw [if_neg (fun q => absurd ((zI_lt (by omega) (by omega) (by omega) (by omega)).mp q) (by omega))]
    simp [s_ft, c1, c2, s_bI]
  · rw [if_pos ((zI_lt (by omega) (by omega) (by omega) (by omega)).mpr (by omega))]
    simp [s_ft, c2, s_bI]
/-- what lies ahead of an instruction, and its own length when laid -/
def s_pl (P c : Nat → Nat) (n : Nat) (b : Nat → Bool) (pd : Bool) (k : Nat) : Nat := s_pay P c n b pd k + if pd = true ∧ c k = 188 then 1 else 0
def s_ln (c : Nat → Nat) (far : Nat → Bool) (k : Nat) : Nat := if c k = 167 ∨ c k = 168 then (if far k = true then 3 else 2) else if s_isJ (c k) = true ∧ far k = true then 5 else s_sz (c k)
def s_Far (g : hm) (n : Nat) (far : Nat → Bool) : Prop := ∀ k, k < n → g 310 k = s_bI (far k)
theorem s_sz_1 {k : Nat} (h : s_sz k ≤ 1) : ¬ s_isJ k = true ∧ k ≠ 188 := by
  constructor
  · intro q
    have := (s_isJ_sz q).1
    omega
  · intro q
    rw [q] at h
    exact absurd h (by decide)
theorem s_pay_le (P c : Nat → Nat) (n : Nat) (b : Nat → Bool) (pd : Bool) (k : Nat) : s_pay P c n b pd k ≤ 5 := by
  unfold s_pay
  split <;> omega
theorem s_w_le (P c : Nat → Nat) (n : Nat) (b far : Nat → Bool) (pd : Bool) {k : Nat} (hs : 0 < s_sz (c k)) : s_pl P c n b pd k + s_ln c far k ≤ 6 * s_sz (c k) := by
  have h1 := s_pay_le P c n b pd k
  by_cases e : s_sz (c k) ≤ 1
  · obtain ⟨j1, j2⟩ := s_sz_1 e
    have j3 : ¬ (c k = 167 ∨ c k = 168) := by
      rintro (q | q)
      · exact j1 (by rw [q]; decide)
      · exact j1 (by rw [q]; decide)
    unfold s_pl s_ln
    rw [if_neg (fun q => j2 q.2), if_neg j3, if_neg (fun q => j1 q.1)]
    omega
  · have h2 := s_sz_le (c k)
    have h3 : s_ln c far k ≤ 5 := by
      unfold s_ln
      split
      · split <;> omega
      · split <;> omega
    have h4 : s_pl P c n b pd k ≤ 6 := by
      unfold s_pl
      split <;> omega
    omega
theorem q_l7 {m n : Nat} (hm8 : m < 8) (hn : n ≤ 2000) (v2 : Int32) : ∀ (d k f : Nat) (g : hm), k + d = n → d < f → g 289 m = nI n →
    Tq (nlX12_lay_7 f (nI m) v2 (nI k) g) (fun q => Fr [310] g q ∧ (∀ i, k ≤ i → i < n → q 310 i = 0) ∧ ∀ i, i < k → q 310 i = g 310 i)
  | d, k, 0, g, _, hf => absurd hf (Nat.not_lt_zero _)
  | 0, k, f + 1, g, hk, _ => by
    intro gn
    rw [nlX12_lay_7_s, if_pos (hin hm8 (by decide)), cl (by omega), gn, if_pos ((lei (by omega) (by omega)).mpr (by omega))]
    exact Tq.some ⟨Fr.rf, fun i h1 h2 => absurd h2 (by omega), fun i _ => rfl⟩
  | d + 1, k, f + 1, g, hk, hf => by
    intro gn
    rw [nlX12_lay_7_s, if_pos (hin hm8 (by decide)), cl (by omega), gn, if_neg (fun q => absurd ((lei (by omega) (by omega)).mp q) (by omega)), if_pos (hin (show k < 2001 by omega) (by decide)), cl (by omega), nI_1]
    refine (q_l7 hm8 hn v2 d (k + 1) f _ (by omega) (by omega) (by rw [hm_w_ne (by decide)]; exact gn)).mono fun q hq => ?_
    obtain ⟨h1, h2, h3⟩ := hq
    refine ⟨fun a ha => (h1 a ha).trans (hm_w_ne (by simpa using ha)), fun i i1 i2 => ?_, fun i i1 => ?_⟩
    · by_cases e : i = k
      · rw [h3 i (by omega), e, hm_w_eq]
      · exact h2 i (by omega) i2
    · rw [h3 i (by omega), hm_w_o (by omega)]
/-- one instruction is laid -/
theorem q_l98 (rec : Int32 → Int32 → hm → Option (Int32 × hm)) (v1 v2 : Int32) {k to y z : Nat} {c : Nat → Nat} {far : Nat → Bool} {g : hm} (hk : k < 2001) (hc : c k < 256) (hf : g 310 k = s_bI (far k)) :
    njX12_lay_98 rec v1 v2 (nI k) (nI (c k)) (nI z) (nI y) (nI to) g = rec (nI (to + (y + z) + s_ln c far k)) (nI (k + s_sz (c k))) (hm_w g 309 k (nI (to + (y + z)))) := by
  have hi : hs_in (nI k) 2001 = true := hin hk (by decide)
  unfold njX12_lay_98 njX12_lay_129 njX12_lay_169 njX12_lay_174
  have hf' : ∀ v, hm_w g 309 k v 310 k = s_bI (far k) := fun v => by rw [hm_w_ne (by decide)]; exact hf
  have e2 : (2 : Int32) = nI 2 := rfl
  have e3 : (3 : Int32) = nI 3 := rfl
  have e5 : (5 : Int32) = nI 5 := rfl
  rw [if_pos hi, cl (by omega), nI_add, nI_add]
  simp only [q_size hc, q_isJump hc, hm_bd_s, hf']
  rw [e2, e3, e5]
  unfold s_ln
  by_cases c1 : c k = 167
  · have u : nI (c k) = (167 : Int32) := by rw [c1]; rfl
    rw [if_pos u, if_pos hi, if_pos (Or.inl c1)]
    by_cases c3 : far k = true
    · have u3 : ¬ s_bI (far k) = 0 := by rw [c3]; decide
      rw [if_neg u3, if_pos c3, nI_add, nI_add]
    · have u3 : s_bI (far k) = 0 := (s_bI_0 _).mpr (by simpa using c3)
      rw [if_pos u3, if_neg c3, nI_add, nI_add]
  have u1 : ¬ nI (c k) = (167 : Int32) := fun q => c1 ((eqi (b := 167) (by omega) (by decide)).mp q)
  rw [if_neg u1]
  by_cases c2 : c k = 168
  · have u : nI (c k) = (168 : Int32) := by rw [c2]; rfl
    rw [if_pos u, if_pos hi, if_pos (Or.inr c2)]
    by_cases c3 : far k = true
    · have u3 : ¬ s_bI (far k) = 0 := by rw [c3]; decide
      rw [if_neg u3, if_pos c3, nI_add, nI_add]
    · have u3 : s_bI (far k) = 0 := (s_bI_0 _).mpr (by simpa using c3)
      rw [if_pos u3, if_neg c3, nI_add, nI_add]
  have u2 : ¬ nI (c k) = (168 : Int32) := fun q => c2 ((eqi (b := 168) (by omega) (by decide)).mp q)
  have c12 : ¬ (c k = 167 ∨ c k = 168) := by rintro (q | q); exact c1 q; exact c2 q
  rw [if_neg u2, if_neg c12]
  by_cases c4 : s_isJ (c k) = true
  rotate_left
  · have u4 : s_bI (s_isJ (c k)) = 0 := (s_bI_0 _).mpr (by simpa using c4)
    rw [if_pos u4, if_neg (fun q => c4 q.1), nI_add, nI_add]
  have u4 : ¬ s_bI (s_isJ (c k)) = 0 := by rw [c4]; decide
  rw [if_neg u4, if_pos hi]
  by_cases c3 : far k = true
  · have u3 : ¬ s_bI (far k) = 0 := by rw [c3]; decide
    rw [if_neg u3, if_pos ⟨c4, c3⟩, nI_add, nI_add]
  · have u3 : s_bI (far k) = 0 := (s_bI_0 _).mpr (by simpa using c3)
    rw [if_pos u3, if_neg (fun q => c3 q.2), nI_add, nI_add]
