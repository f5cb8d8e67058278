/-! A LAYOUT IS ONE -/
theorem s_su_cg {P c : Nat → Nat} {n : Nat} {b b' : Nat → Bool} (h : ∀ i, i < n → b i = b' i) : ∀ (f k : Nat), s_su P c n b f k = s_su P c n b' f k
  | 0, _ => rfl
  | f + 1, k => by
    show P (c k) + (if k + s_sz (c k) < n then (if b (k + s_sz (c k)) = true then 0 else s_su P c n b f (k + s_sz (c k))) else 0) = P (c k) + (if k + s_sz (c k) < n then (if b' (k + s_sz (c k)) = true then 0 else s_su P c n b' f (k + s_sz (c k))) else 0)
    by_cases q : k + s_sz (c k) < n
    · rw [if_pos q, if_pos q, h _ q, s_su_cg h f]
    · rw [if_neg q, if_neg q]
theorem s_sum_cg {P c : Nat → Nat} {n : Nat} {b b' : Nat → Bool} (h : ∀ i, i < n → b i = b' i) (k : Nat) : s_sum P c n b k = s_sum P c n b' k := s_su_cg h n k
theorem s_pay_cg {P c : Nat → Nat} {n : Nat} {b b' : Nat → Bool} (h : ∀ i, i < n → b i = b' i) (pd : Bool) {k : Nat} (hk : k < n) : s_pay P c n b pd k = s_pay P c n b' pd k := by
  unfold s_pay
  rw [h k hk, s_sum_cg h]
theorem s_pl_cg {P c : Nat → Nat} {n : Nat} {b b' : Nat → Bool} (h : ∀ i, i < n → b i = b' i) (pd : Bool) {k : Nat} (hk : k < n) : s_pl P c n b pd k = s_pl P c n b' pd k := by
  unfold s_pl
  rw [s_pay_cg h pd hk]
theorem s_ln_cg {c : Nat → Nat} {far far' : Nat → Bool} {k : Nat} (h : far k = far' k) : s_ln c far k = s_ln c far' k := by
  unfold s_ln
  rw [h]
theorem S_uq {c pl pl' S S' : Nat → Nat} {far far' : Nat → Bool} {n : Nat} (hpl : ∀ j, s_B c j → j < n → pl j = pl' j) (hf : ∀ j, j < n → far j = far' j) (h0 : S 0 = 0) (h0' : S' 0 = 0) (hS : ∀ j, s_B c j → j < n → S (j + s_sz (c j)) = S j + pl j + s_ln c far j) (hS' : ∀ j, s_B c j → j < n → S' (j + s_sz (c j)) = S' j + pl' j + s_ln c far' j) : ∀ i, s_it c i ≤ n → S (s_it c i) = S' (s_it c i)
  | 0, _ => h0.trans h0'.symm
  | i + 1, h => by
    have h' : s_it c i + s_sz (c (s_it c i)) ≤ n := h
    show S (s_it c i + s_sz (c (s_it c i))) = S' (s_it c i + s_sz (c (s_it c i)))
    by_cases q : s_it c i < n
    · rw [hS _ ⟨i, rfl⟩ q, hS' _ ⟨i, rfl⟩ q, S_uq hpl hf h0 h0' hS hS' i (by omega), hpl _ ⟨i, rfl⟩ q, s_ln_cg (hf _ q)]
    · rw [show s_it c i + s_sz (c (s_it c i)) = s_it c i by omega]
      exact S_uq hpl hf h0 h0' hS hS' i (by omega)
theorem uf_cg {c pl pl' S S' : Nat → Nat} {n : Nat} (hpl : ∀ j, s_B c j → j < n → pl j = pl' j) (hS : ∀ j, s_B c j → j ≤ n → S j = S' j) (hjk : ∀ k, k < n → s_jk c n k) {j : Nat} (hj : j < n) (h : s_uf c pl S j) : s_uf c pl' S' j := by
  obtain ⟨h1, h2, h3⟩ := h
  obtain ⟨t1, t2, t3⟩ := hjk j hj h1 h2
  exact ⟨h1, h2, by rw [← hS _ t3 (by omega), ← hS j h1 (by omega), ← hpl j h1 hj]; exact h3⟩
theorem bool_iff {a b : Bool} (h : a = true ↔ b = true) : a = b := by
  cases a <;> cases b
  · rfl
  · exact absurd (h.mpr rfl) (by decide)
  · exact absurd (h.mp rfl) (by decide)
  · rfl
theorem Fa_uq {c pl pl' : Nat → Nat} {n : Nat} (hpl : ∀ j, s_B c j → j < n → pl j = pl' j) (hjk : ∀ k, k < n → s_jk c n k) : ∀ (r : Nat) (far far' : Nat → Bool), s_Fa c pl n r far → s_Fa c pl' n r far' → ∀ j, j < n → far j = far' j
  | 0, far, far', h, h', j, hj => (h j hj).trans (h' j hj).symm
  | r + 1, far, far', h, h', j, hj => by
    obtain ⟨f0, S, a1, a2, a3, -, a5⟩ := h
    obtain ⟨f0', S', b1, b2, b3, -, b5⟩ := h'
    have ih := Fa_uq hpl hjk r f0 f0' a1 b1
    have hS : ∀ j, s_B c j → j ≤ n → S j = S' j := fun j j1 j2 => by
      obtain ⟨i, rfl⟩ := j1
      exact S_uq hpl ih a2 b2 a3 b3 i j2
    refine bool_iff ((a5 j hj).trans (Iff.trans ?_ (b5 j hj).symm))
    rw [ih j hj]
    exact ⟨fun x => x.imp id (uf_cg hpl hS hjk hj), fun x => x.imp id (uf_cg (fun j j1 j2 => (hpl j j1 j2).symm) (fun j j1 j2 => (hS j j1 j2).symm) hjk hj)⟩
theorem Fa_dn {c pl : Nat → Nat} {n r : Nat} : ∀ (d : Nat) (far : Nat → Bool), s_Fa c pl n (r + d + 1) far → ∃ (far0 : Nat → Bool) (S : Nat → Nat), s_Fa c pl n r far0 ∧ S 0 = 0 ∧ (∀ j, s_B c j → j < n → S (j + s_sz (c j)) = S j + pl j + s_ln c far0 j) ∧ ∃ j, j < n ∧ s_uf c pl S j ∧ far0 j = false
  | 0, far, h => by
    obtain ⟨f0, S, a1, a2, a3, a4, -⟩ := h
    exact ⟨f0, S, a1, a2, a3, a4⟩
  | d + 1, far, h => by
    obtain ⟨f0, S, a1, -⟩ := h
    exact Fa_dn d f0 a1
theorem Lo_le {c pl pl' S : Nat → Nat} {far far' : Nat → Bool} {n r d : Nat} (hpl : ∀ j, s_B c j → j < n → pl j = pl' j) (hjk : ∀ k, k < n → s_jk c n k) (h0 : S 0 = 0) (hS : ∀ j, s_B c j → j < n → S (j + s_sz (c j)) = S j + pl j + s_ln c far j) (hu : ∀ j, j < n → s_uf c pl S j → far j = true) (hr : s_Fa c pl n r far) (hr' : s_Fa c pl' n (r + d + 1) far') : False := by
  obtain ⟨f0, S0, b1, b2, b3, j, j1, j2, j3⟩ := Fa_dn d far' hr'
  have ih := Fa_uq hpl hjk r far f0 hr b1
  have e : ∀ j, s_B c j → j ≤ n → S0 j = S j := fun j j1 j2 => by
    obtain ⟨i, rfl⟩ := j1
    exact (S_uq hpl ih h0 b2 hS b3 i j2).symm
  have := hu j j1 (uf_cg (fun j j1 j2 => (hpl j j1 j2).symm) e hjk j1 j2)
  rw [ih j j1, j3] at this
  exact absurd this (by decide)
theorem Lo_uq {c pl pl' S S' : Nat → Nat} {far far' : Nat → Bool} {n : Nat} (hpl : ∀ j, s_B c j → j < n → pl j = pl' j) (hjk : ∀ k, k < n → s_jk c n k) (h : s_Lo c pl n far S) (h' : s_Lo c pl' n far' S') : (∀ j, j < n → far j = far' j) ∧ ∀ j, s_B c j → j ≤ n → S j = S' j := by
  obtain ⟨a1, a2, a3, r, a4⟩ := h
  obtain ⟨b1, b2, b3, r', b4⟩ := h'
  have hf : ∀ j, j < n → far j = far' j := by
    obtain q | q | q := Nat.lt_trichotomy r r'
    · obtain ⟨d, rfl⟩ : ∃ d, r' = r + d + 1 := ⟨r' - r - 1, by omega⟩
      exact absurd (Lo_le hpl hjk a1 a2 a3 a4 b4) id
    · subst q
      exact Fa_uq hpl hjk r far far' a4 b4
    · obtain ⟨d, rfl⟩ : ∃ d, r = r' + d + 1 := ⟨r - r' - 1, by omega⟩
      exact absurd (Lo_le (fun j j1 j2 => (hpl j j1 j2).symm) hjk b1 b2 b3 b4 a4) id
  refine ⟨hf, fun j j1 j2 => ?_⟩
  obtain ⟨i, rfl⟩ := j1
  exact S_uq hpl hf a1 b1 a2 b2 i j2
/-- the bytes are the same -/
theorem s_em_cg {P c S S' : Nat → Nat} {n : Nat} {b b' far far' : Nat → Bool} {pd : Bool} (hb : ∀ i, i < n → b i = b' i) (hf : ∀ j, j < n → far j = far' j) (hS : ∀ j, s_B c j → j ≤ n → S j = S' j) (hjk : ∀ k, k < n → s_jk c n k) {j : Nat} (hj : j < n) (hB : s_B c j) (o : Nat) : s_em P c n b pd far S j o = s_em P c n b' pd far' S' j o := by
  unfold s_em
  rw [s_pay_cg hb pd hj, s_pl_cg hb pd hj, s_sum_cg hb, hS j hB (by omega)]
  cases hJ : s_isJ (c j)
  · rfl
  · obtain ⟨t1, t2, t3⟩ := hjk j hj hB hJ
    unfold s_ej
    rw [hf j hj, hS _ t3 (by omega)]
/-! what a FILE of bytes tells -/
def s_Fu (g : hm) (u : Nat → Nat) : Prop := s_F g (u 0) (s_par u) (fun m => u (s_off u m + 1)) (fun m => s_n u (s_off u m)) (fun m => s_h u (s_off u m)) (fun m => s_c u (s_off u m)) (fun m => s_R u (s_off u m))
def s_Vu (u : Nat → Nat) : Prop := s_VF (u 0) (s_par u) (fun m => u (s_off u m + 1)) (fun m => s_n u (s_off u m)) (fun m => s_h u (s_off u m)) (fun m => s_c u (s_off u m)) (fun m => s_R u (s_off u m))
theorem s_AC.v {u : Nat → Nat} {t : Nat} (h : s_AC u t) : s_Vu u := by
  obtain ⟨h1, h2, h3, h4, h5, h6⟩ := h
  refine ⟨h2, h3, fun m hm8 => ?_⟩
  obtain ⟨a1, a2, a3, a4, a5, a6, a7, a8, a9, a10, a11, a12, a13, a14⟩ := h4 m hm8
  exact ⟨a2, a4, a5, ⟨a7, a8, h3, a10, a12, a13, a14⟩, h6 m hm8⟩
/-- method z of u has k bytes when it is laid out -/
def LoN (P u : Nat → Nat) (pd : Bool) (z k : Nat) : Prop := ∃ (b far : Nat → Bool) (S : Nat → Nat), (∀ i, i < s_n u (s_off u z) → (b i = true ↔ s_bl (s_c u (s_off u z)) (s_n u (s_off u z)) (s_h u (s_off u z)) (s_R u (s_off u z)) i)) ∧ s_Lo (s_c u (s_off u z)) (s_pl P (s_c u (s_off u z)) (s_n u (s_off u z)) b pd) (s_n u (s_off u z)) far S ∧ S (s_n u (s_off u z)) = k
theorem b_uq {n : Nat} {b b' : Nat → Bool} {Q : Nat → Prop} (h : ∀ i, i < n → (b i = true ↔ Q i)) (h' : ∀ i, i < n → (b' i = true ↔ Q i)) : ∀ i, i < n → b i = b' i := fun i hi => bool_iff ((h i hi).trans (h' i hi).symm)
theorem LoN.uq {P u : Nat → Nat} {pd : Bool} {z k k' : Nat} (hM : s_Mt (s_n u (s_off u z)) (u (s_off u z + 1)) (u 0) (s_h u (s_off u z)) (s_c u (s_off u z)) (s_R u (s_off u z))) (h : LoN P u pd z k) (h' : LoN P u pd z k') : k = k' := by
  obtain ⟨b, far, S, a1, a2, a3⟩ := h
  obtain ⟨b', far', S', b1, b2, b3⟩ := h'
  have hb := b_uq a1 b1
  have hn := s_chain_n hM.2.2.2.2.1 (s_n u (s_off u z)) 0 (by omega) (by omega) (s_B_0 _)
  have := (Lo_uq (fun j _ j2 => s_pl_cg hb pd j2) hM.2.2.2.2.2.2 a2 b2).2 _ hn (Nat.le_refl _)
  rw [← a3, ← b3, this]
def s_to (k : Nat → Nat) : Nat → Nat
  | 0 => 0
  | m + 1 => s_to k m + k m
theorem s_to_cg {k k' : Nat → Nat} : ∀ m, (∀ z, z < m → k z = k' z) → s_to k m = s_to k' m
  | 0, _ => rfl
  | m + 1, h => by
    show s_to k m + k m = s_to k' m + k' m
    rw [s_to_cg m (fun z hz => h z (by omega)), h m (by omega)]
/-- what rewrite() answers -/
def RA (P u : Nat → Nat) (r : Int32) : Prop := (∃ k : Nat → Nat, (∀ z, z < u 0 → LoN P u true z (k z) ∧ k z ≤ 4000) ∧ r = nI (s_to k (u 0))) ∨ ∃ m, m < u 0 ∧ (∀ z, z < m → ∃ k, LoN P u true z k ∧ k ≤ 4000) ∧ (∃ k, LoN P u true m k ∧ 4000 < k) ∧ r = -10 - nI m
theorem RA.uq {P u : Nat → Nat} {r r' : Int32} (hV : s_Vu u) (h : RA P u r) (h' : RA P u r') : r = r' := by
  have M : ∀ z, z < u 0 → s_Mt (s_n u (s_off u z)) (u (s_off u z + 1)) (u 0) (s_h u (s_off u z)) (s_c u (s_off u z)) (s_R u (s_off u z)) := fun z hz => (hV.2.2 z hz).2.2.2.1
  rcases h with ⟨k, a1, a2⟩ | ⟨m, a1, a2, ⟨k, a3, a4⟩, a5⟩ <;> rcases h' with ⟨k', b1, b2⟩ | ⟨m', b1, b2, ⟨k', b3, b4⟩, b5⟩
  · rw [a2, b2, s_to_cg (u 0) fun z hz => (a1 z hz).1.uq (M z hz) (b1 z hz).1]
  · have := (a1 m' b1).1.uq (M m' b1) b3
    have := (a1 m' b1).2
    omega
  · have := (b1 m a1).1.uq (M m a1) a3
    have := (b1 m a1).2
    omega
  · obtain q | q | q := Nat.lt_trichotomy m m'
    · obtain ⟨k2, c1, c2⟩ := b2 m q
      have := c1.uq (M m a1) a3
      omega
    · rw [a5, b5, q]
    · obtain ⟨k2, c1, c2⟩ := a2 m' q
      have := c1.uq (M m' b1) b3
      omega
