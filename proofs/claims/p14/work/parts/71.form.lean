theorem hs_I_eq (g : hs_S) (a j : Nat) (v : Int32) : hs_I (hs_wI g a j v) a j = v := by rw [hs_I_w, if_pos rfl, if_pos rfl]
theorem hs_I_ne {g : hs_S} {a j i : Nat} {v : Int32} (h : i ≠ j) : hs_I (hs_wI g a j v) a i = hs_I g a i := by rw [hs_I_w, if_pos rfl, if_neg h]
/-! THE SETS, EXACTLY -/
theorem or_add {a b : Nat} (hb : b < 256) : a * 2 ^ 8 ||| b = 256 * a + b := by
  have h := Nat.shiftLeft_add_eq_or_of_lt (i := 8) (b := b) (by omega) a
  rw [Nat.shiftLeft_eq] at h
  omega
theorem x_pair {a b : Nat} (ha : a < 256) (hb : b < 256) : nI a <<< ((8 : Int32) &&& 31) ||| nI b = nI (256 * a + b) := by
  rw [pk_shlN ((8 : Int32) &&& 31) 8 (by decide) (by omega), or_nI, or_add hb]
/-- how the sets lie -/
def SF (R : Nat → Nat → Nat) (A : Nat) : Prop := R A 0 = A + 6 ∧ R A 1 = A + 2 ∧ R A 2 = A + 3 ∧ R (A + 2) 0 = A + 4 ∧ ∀ j, j < 8 → R (A + 1) j = A + 7 + 2 * j ∧ R (A + 6 + 2 * j) 0 = A + 6 ∧ R (A + 6 + 2 * j) 1 = A + 8 + 2 * j
def isS (A : Nat) : Prop := A = 1 ∨ A = 23 ∨ A = 45 ∨ A = 67
set_option maxRecDepth 100000 in
theorem sk_all : [1, 23, 45, 67].all (fun A => decide (gm_k A = 0) && (decide (gm_k (A + 1) = 102) && (decide (gm_k (A + 2) = 6) && (decide (gm_k (A + 5) = 100) && (decide (gm_n (A + 5) = if A = 67 then 32000 else 6000) && (List.range 8).all (fun j => decide (gm_k (A + 6 + 2 * j) = 6) && (decide (gm_k (A + 7 + 2 * j) = 100) && decide (gm_n (A + 7 + 2 * j) = 32)))))))) = true := by decide +kernel
theorem sk {A : Nat} (h : isS A) : gm_k A = 0 ∧ gm_k (A + 1) = 102 ∧ gm_k (A + 2) = 6 ∧ gm_k (A + 5) = 100 ∧ gm_n (A + 5) = (if A = 67 then 32000 else 6000) ∧ ∀ j, j < 8 → gm_k (A + 6 + 2 * j) = 6 ∧ gm_k (A + 7 + 2 * j) = 100 ∧ gm_n (A + 7 + 2 * j) = 32 := by
  have hm8 : A ∈ [1, 23, 45, 67] := by
    rcases h with e | e | e | e <;> rw [e] <;> decide
  have q := List.all_eq_true.mp sk_all A hm8
  simp only [Bool.and_eq_true, decide_eq_true_eq] at q
  obtain ⟨q1, q2, q3, q4, q5, q6⟩ := q
  refine ⟨q1, q2, q3, q4, q5, fun j hj => ?_⟩
  have z := List.all_eq_true.mp q6 j (List.mem_range.mpr hj)
  simp only [Bool.and_eq_true, decide_eq_true_eq] at z
  exact z
/-- the bytes of the set at A -/
def sv (s : hs_S) (A t : Nat) (u : Nat → Nat) : Prop := hs_I s A 3 = nI t ∧ t ≤ gm_n (A + 5) ∧ ∀ i, i < t → ∃ x, hs_I s (A + 5) i = nI x ∧ x < 1024 ∧ x % 256 = u i
def uE (u : Nat → Nat) (t i : Nat) : Nat := if i < t then u i else 0
theorem sv.lt {s : hs_S} {A t : Nat} {u : Nat → Nat} (hA : isS A) (v : sv s A t u) : t ≤ 32000 ∧ ∀ i, uE u t i < 256 := by
  refine ⟨Nat.le_trans v.2.1 (gm_n_le (by rcases hA with e | e | e | e <;> omega)), fun i => ?_⟩
  unfold uE
  by_cases c : i < t
  · obtain ⟨x, x1, x2, x3⟩ := v.2.2 i c
    rw [if_pos c, ← x3]; omega
  · rw [if_neg c]; decide
theorem x_sval {s : hs_S} {A t i : Nat} {u : Nat → Nat} (w : WT s) (hA : isS A) (hR : SF (hs_R s) A) (v : sv s A t u) (hi : i < 2147483648) : fX0_valueAt A (nI i) s = some (nI (uE u t i), s) := by
  have l1 := (v.lt hA).1
  obtain ⟨k1, k2, k3, k4, k5, k6⟩ := sk hA
  unfold fX0_valueAt uE
  rw [if_pos (w.k k1), v.1]
  by_cases c : i < t
  · obtain ⟨x, x1, x2, x3⟩ := v.2.2 i c
    have hr : hs_R s A 0 - 1 = A + 5 := by rw [hR.1]; rfl
    have hn : ¬ hs_R s A 0 = 0 := by rw [hR.1]; omega
    rw [if_neg (fun q => absurd ((lei (by omega) hi).mp q) (by omega)), if_pos hn, hr, yf_at w k4 (Nat.lt_of_lt_of_le c v.2.1), if_pos c, x1]
    rw [hs_bd_s]
    rw [pk_andN (Nat.lt_trans x2 (by decide)) 8 (by decide), ← x3]
  · rw [if_pos ((lei (by omega) hi).mpr (by omega)), if_neg c]; rfl
theorem x_spair {s : hs_S} {A t i : Nat} {u : Nat → Nat} (w : WT s) (hA : isS A) (hR : SF (hs_R s) A) (v : sv s A t u) (hi : i + 1 < 2147483648) : fX0_pairAt A (nI i) s = some (nI (256 * uE u t i + uE u t (i + 1)), s) := by
  have k1 := (sk hA).1
  unfold fX0_pairAt
  rw [if_pos (w.k k1), x_sval w hA hR v (by omega)]
  rw [hs_bd_s]
  rw [if_pos (w.k k1), nI_1, x_sval w hA hR v hi]
  rw [hs_bd_s]
  rw [x_pair ((v.lt hA).2 i) ((v.lt hA).2 (i + 1))]
theorem x_mth {s : hs_S} {A j : Nat} (w : WT s) (hA : isS A) (hR : SF (hs_R s) A) (hj : j < 8) : fX0_method A (nI j) s = some (A + 6 + 2 * j, s) := by
  obtain ⟨k1, k2, k3, k4, k5, k6⟩ := sk hA
  obtain ⟨r, e, -, h⟩ := xfX0_method (v1 := nI j) w k1
  have u : ¬ (8 : Int32) ≤ nI j := fun q => absurd ((lei (a := 8) (by decide) (by omega)).mp q) (by omega)
  rw [e, h]
  unfold mth
  rw [if_neg (nI_pos (by omega)), if_neg u, hR.2.1, cl (by omega)]
  have := (hR.2.2.2.2 j hj).1
  show some (hs_R s (A + 1) j - 1, s) = _
  rw [this]
  congr 2
  omega
theorem SF.cu {s : Nat} {b : Bool} {g q : hs_S} {A : Nat} (hA : isS A) (h : SF (hs_R g) A) (u : cU s b g q) : SF (hs_R q) A := by
  obtain ⟨k1, k2, k3, k4, k5, k6⟩ := sk hA
  obtain ⟨h1, h2, h3, h4, h5⟩ := h
  have e1 := u.2 A (by rw [k1]; decide)
  have e2 := u.2 (A + 1) (by rw [k2]; decide)
  have e3 := u.2 (A + 2) (by rw [k3]; decide)
  refine ⟨by rw [e1]; exact h1, by rw [e1]; exact h2, by rw [e1]; exact h3, by rw [e3]; exact h4, fun j hj => ?_⟩
  have e4 := u.2 (A + 6 + 2 * j) (by rw [(k6 j hj).1]; decide)
  rw [e2, e4]
  exact h5 j hj
