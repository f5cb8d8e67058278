/-! THE CLASS, EXACTLY: code in a row of cells (byte, 256 where an instruction begins, 512 where a block begins) -/
def eB (x : Nat) : Bool := decide (x / 256 % 2 = 1)
def eK (x : Nat) : Bool := decide (x / 512 % 2 = 1)
set_option maxRecDepth 100000 in
theorem ek_all : (List.range 1024).all (fun x => (decide ((nI x &&& (256 : Int32)) = 0) == !(eB x)) && ((decide ((nI x &&& (512 : Int32)) = 0) == !(eK x)) && (decide ((x ||| 256) % 256 = x % 256) && (decide ((x ||| 512) % 256 = x % 256) && (eB (x ||| 256) && ((eK (x ||| 256) == eK x) && ((eB (x ||| 512) == eB x) && (eK (x ||| 512) && (decide (x ||| 256 < 1024) && decide (x ||| 512 < 1024)))))))))) = true := by decide +kernel
theorem ek {x : Nat} (h : x < 1024) : ((nI x &&& (256 : Int32)) = 0 ↔ eB x = false) ∧ ((nI x &&& (512 : Int32)) = 0 ↔ eK x = false) ∧ (x ||| 256) % 256 = x % 256 ∧ (x ||| 512) % 256 = x % 256 ∧ eB (x ||| 256) = true ∧ eK (x ||| 256) = eK x ∧ eB (x ||| 512) = eB x ∧ eK (x ||| 512) = true ∧ x ||| 256 < 1024 ∧ x ||| 512 < 1024 := by
  have q := List.all_eq_true.mp ek_all x (List.mem_range.mpr h)
  simp only [Bool.and_eq_true, beq_iff_eq, decide_eq_true_eq] at q
  obtain ⟨q1, q2, q3⟩ := q
  refine ⟨?_, ?_, q3⟩
  · cases e : eB x
    · rw [e] at q1
      exact ⟨fun _ => rfl, fun _ => of_decide_eq_true q1⟩
    · rw [e] at q1
      exact ⟨fun z => absurd z (of_decide_eq_false q1), fun z => absurd z (by decide)⟩
  · cases e : eK x
    · rw [e] at q2
      exact ⟨fun _ => rfl, fun _ => of_decide_eq_true q2⟩
    · rw [e] at q2
      exact ⟨fun z => absurd z (of_decide_eq_false q2), fun z => absurd z (by decide)⟩
/-- the method at M lies at a, n bytes, its cells e -/
def mv (s : hs_S) (M a n : Nat) (e : Nat → Nat) : Prop := gm_k M = 6 ∧ hs_I s M 2 = nI a ∧ hs_I s M 3 = nI n ∧ a + n ≤ gm_n (hs_R s M 0 - 1) ∧ ∀ k, k < n → hs_I s (hs_R s M 0 - 1) (a + k) = nI (e k) ∧ e k < 1024
theorem mv.lt {s : hs_S} {M a n : Nat} {e : Nat → Nat} (w : WT s) (v : mv s M a n e) : a + n ≤ 32000 ∧ aG (hs_R s M 0 - 1) ∧ hs_R s M 0 - 1 ≠ M := by
  have h := (w.f6_0 v.1).2
  refine ⟨Nat.le_trans v.2.2.2.1 (gm_n_le h.2.1), h, fun q => ?_⟩
  have h1 := h.1
  rw [q, v.1] at h1
  exact absurd h1 (by decide)
theorem x_has_in {s : hs_S} {M a n k : Nat} {e : Nat → Nat} (w : WT s) (v : mv s M a n e) (hk : k < n) : fX7_hasPlace M (nI k) s = some (1, s) := by
  obtain ⟨l1, l2, l3⟩ := v.lt w
  have u1 : ¬ nI n ≤ nI k := fun q => absurd ((lei (by omega) (by omega)).mp q) (by omega)
  have h4 := v.2.2.2.1
  have u2 : ¬ Int32.ofNat (gm_n (hs_R s M 0 - 1)) ≤ nI (a + k) := fun q => absurd ((lei (a := gm_n (hs_R s M 0 - 1)) (Nat.lt_of_le_of_lt (gm_n_le l2.2.1) (by decide)) (by omega)).mp q) (by omega)
  unfold fX7_hasPlace
  rw [if_neg (nI_pos (by omega)), if_pos (w.k v.1), v.2.2.1, if_neg u1, v.2.1, if_neg (nI_pos (by omega)), if_pos (w.f6_0 v.1).1, if_pos (w.k l2.1), w.ln, nI_add, if_neg u2]
theorem x_has_out {s : hs_S} {M a n : Nat} {e : Nat → Nat} (w : WT s) (v : mv s M a n e) {z : Int32} (hz : z < 0 ∨ nI n ≤ z) : fX7_hasPlace M z s = some (0, s) := by
  unfold fX7_hasPlace
  by_cases c : z < 0
  · rw [if_pos c]
  · rw [if_neg c, if_pos (w.k v.1), v.2.2.1, if_pos (hz.resolve_left c)]
theorem x_in {s : hs_S} {M a n k : Nat} {e : Nat → Nat} (w : WT s) (v : mv s M a n e) (hk : k < n) : hs_in (nI (a + k)) (gm_n (hs_R s M 0 - 1)) = true ∧ (nI (a + k)).toNatClampNeg = a + k := by
  obtain ⟨l1, l2, l3⟩ := v.lt w
  have h4 := v.2.2.2.1
  exact ⟨hin (by omega) (Nat.le_trans (gm_n_le l2.2.1) (by decide)), cl (by omega)⟩
/-- the byte at k; 0 where there is none -/
theorem x_val_in {s : hs_S} {M a n k : Nat} {e : Nat → Nat} (w : WT s) (v : mv s M a n e) (hk : k < n) : fX7_valueAt M (nI k) s = some (nI (e k % 256), s) := by
  obtain ⟨i1, i2⟩ := x_in w v hk
  have u : ¬ (1 : Int32) = 0 := by decide
  unfold fX7_valueAt
  rw [if_pos (w.k v.1), x_has_in w v hk]
  rw [hs_bd_s]
  rw [if_neg u, if_pos (w.k v.1), if_pos (w.f6_0 v.1).1, if_pos (w.k (w.f6_0 v.1).2.1), v.2.1, nI_add, w.ln, if_pos i1, i2, (v.2.2.2.2 k hk).1, pk_andN (Nat.lt_trans (v.2.2.2.2 k hk).2 (by decide)) 8 (by decide)]
theorem x_val_out {s : hs_S} {M a n : Nat} {e : Nat → Nat} (w : WT s) (v : mv s M a n e) {z : Int32} (hz : z < 0 ∨ nI n ≤ z) : fX7_valueAt M z s = some (0, s) := by
  unfold fX7_valueAt
  rw [if_pos (w.k v.1), x_has_out w v hz]
  rfl
def vE (e : Nat → Nat) (n k : Nat) : Nat := if k < n then e k % 256 else 0
theorem vE_lt (e : Nat → Nat) (n k : Nat) : vE e n k < 256 := by
  unfold vE
  split <;> omega
theorem x_val {s : hs_S} {M a n k : Nat} {e : Nat → Nat} (w : WT s) (v : mv s M a n e) (hk : k < 2147483648) : fX7_valueAt M (nI k) s = some (nI (vE e n k), s) := by
  have l1 := (v.lt w).1
  unfold vE
  by_cases c : k < n
  · rw [if_pos c]; exact x_val_in w v c
  · rw [if_neg c]; exact x_val_out w v (Or.inr ((lei (by omega) hk).mpr (by omega)))
theorem x_beg_in {s : hs_S} {M a n k : Nat} {e : Nat → Nat} (w : WT s) (v : mv s M a n e) (hk : k < n) : fX7_begins M (nI k) s = some (s_bI (eB (e k)), s) := by
  obtain ⟨i1, i2⟩ := x_in w v hk
  obtain ⟨v1, v2⟩ := v.2.2.2.2 k hk
  have q := (ek v2).1
  have u : ¬ (1 : Int32) = 0 := by decide
  unfold fX7_begins
  rw [if_pos (w.k v.1), x_has_in w v hk]
  rw [hs_bd_s]
  rw [if_neg u, if_pos (w.k v.1), if_pos (w.f6_0 v.1).1, if_pos (w.k (w.f6_0 v.1).2.1), v.2.1, nI_add, w.ln, if_pos i1, i2, v1]
  cases c : eB (e k)
  · rw [if_pos (q.mpr c)]; rfl
  · rw [if_neg (fun z => by rw [q.mp z] at c; exact absurd c (by decide))]; rfl
theorem x_beg_out {s : hs_S} {M a n : Nat} {e : Nat → Nat} (w : WT s) (v : mv s M a n e) {z : Int32} (hz : z < 0 ∨ nI n ≤ z) : fX7_begins M z s = some (0, s) := by
  unfold fX7_begins
  rw [if_pos (w.k v.1), x_has_out w v hz]
  rfl
theorem x_blk_in {s : hs_S} {M a n k : Nat} {e : Nat → Nat} (w : WT s) (v : mv s M a n e) (hk : k < n) : fX7_beginsBlock M (nI k) s = some (s_bI (eK (e k)), s) := by
  obtain ⟨i1, i2⟩ := x_in w v hk
  obtain ⟨v1, v2⟩ := v.2.2.2.2 k hk
  have q := (ek v2).2.1
  have u : ¬ (1 : Int32) = 0 := by decide
  unfold fX7_beginsBlock
  rw [if_pos (w.k v.1), x_has_in w v hk]
  rw [hs_bd_s]
  rw [if_neg u, if_pos (w.k v.1), if_pos (w.f6_0 v.1).1, if_pos (w.k (w.f6_0 v.1).2.1), v.2.1, nI_add, w.ln, if_pos i1, i2, v1]
  cases c : eK (e k)
  · rw [if_pos (q.mpr c)]; rfl
  · rw [if_neg (fun z => by rw [q.mp z] at c; exact absurd c (by decide))]; rfl
theorem x_blk_out {s : hs_S} {M a n : Nat} {e : Nat → Nat} (w : WT s) (v : mv s M a n e) {z : Int32} (hz : z < 0 ∨ nI n ≤ z) : fX7_beginsBlock M z s = some (0, s) := by
  unfold fX7_beginsBlock
  rw [if_pos (w.k v.1), x_has_out w v hz]
  rfl
theorem x_mark_in {s : hs_S} {M a n k : Nat} {e : Nat → Nat} (w : WT s) (v : mv s M a n e) (hk : k < n) (b : Nat) : fX7_mark M (nI k) (nI b) s = some (hs_wI s (hs_R s M 0 - 1) (a + k) (nI (e k ||| b))) := by
  obtain ⟨i1, i2⟩ := x_in w v hk
  obtain ⟨v1, v2⟩ := v.2.2.2.2 k hk
  have u : ¬ (1 : Int32) = 0 := by decide
  unfold fX7_mark
  rw [if_pos (w.k v.1), x_has_in w v hk]
  rw [hs_bd_s]
  rw [if_neg u, if_pos (w.k v.1), if_pos (w.f6_0 v.1).1, if_pos (w.k (w.f6_0 v.1).2.1), v.2.1, nI_add, w.ln, if_pos i1, i2, v1, or_nI]
theorem x_mark_out {s : hs_S} {M a n : Nat} {e : Nat → Nat} (w : WT s) (v : mv s M a n e) {z : Int32} (hz : z < 0 ∨ nI n ≤ z) (b : Int32) : fX7_mark M z b s = some s := by
  unfold fX7_mark
  rw [if_pos (w.k v.1), x_has_out w v hz]
  rfl
/-- a cell of the code is written -/
theorem mv.set {s : hs_S} {M a n k y : Nat} {e : Nat → Nat} (w : WT s) (v : mv s M a n e) (hk : k < n) (hy : y < 1024) : mv (hs_wI s (hs_R s M 0 - 1) (a + k) (nI y)) M a n (fun i => if i = k then y else e i) := by
  have l3 := (v.lt w).2.2
  refine ⟨v.1, ?_, ?_, v.2.2.2.1, fun i hi => ?_⟩
  · rw [hs_I_w, if_neg (Ne.symm l3)]; exact v.2.1
  · rw [hs_I_w, if_neg (Ne.symm l3)]; exact v.2.2.1
  · show hs_I (hs_wI s (hs_R s M 0 - 1) (a + k) (nI y)) (hs_R s M 0 - 1) (a + i) = nI (if i = k then y else e i) ∧ (if i = k then y else e i) < 1024
    rw [hs_I_w, if_pos rfl]
    by_cases c : i = k
    · rw [if_pos (by omega), if_pos c]; exact ⟨rfl, hy⟩
    · rw [if_neg (by omega), if_neg c]; exact v.2.2.2.2 i hi
/-- nothing of it is changed -/
theorem mv.fr {s q : hs_S} {M a n : Nat} {e : Nat → Nat} (v : mv s M a n e) (h1 : hs_I q M 2 = hs_I s M 2) (h2 : hs_I q M 3 = hs_I s M 3) (hR : hs_R q M 0 = hs_R s M 0) (h3 : ∀ k, k < n → hs_I q (hs_R s M 0 - 1) (a + k) = hs_I s (hs_R s M 0 - 1) (a + k)) : mv q M a n e :=
  ⟨v.1, h1.trans v.2.1, h2.trans v.2.2.1, by rw [hR]; exact v.2.2.2.1, fun k hk => by rw [hR, h3 k hk]; exact v.2.2.2.2 k hk⟩
/-! kinds -/
def cz (k : Nat) : Nat := if s_isK k = true then s_sz k else 0
set_option maxRecDepth 100000 in
theorem ck_sz : (List.range 256).all (fun j => decide (pv_sz (nI j) = nI (cz j))) = true := by decide +kernel
theorem x_size {k : Nat} (h : k < 256) (s : hs_S) : fX4_sizeOf (nI k) s = some (nI (cz k), s) := by
  rw [pv_sz_eq, of_decide_eq_true (List.all_eq_true.mp ck_sz k (List.mem_range.mpr h))]
theorem pv_jmp (k : Int32) : ∃ z : Int32, ∀ g, fX4_isJump k g = some (z, g) := by
  obtain ⟨z1, e1⟩ := pv_brn k
  refine pi_ex fun g => ?_
  unfold fX4_isJump jX4_isJump_21
  simp only [e1, hs_bd_s]
  repeat' (first | apply pi_ite | rfl)
set_option maxRecDepth 100000 in
theorem ck_jmp : (List.range 256).all (fun j => decide (((fX4_isJump (nI j) hs_0).getD (0, hs_0)).1 = s_bI (s_isJ j)) && (decide (((fX4_isBranch (nI j) hs_0).getD (0, hs_0)).1 = s_bI (decide (153 ≤ j) && decide (j ≤ 158))) && (decide (((fX4_isOfArray (nI j) hs_0).getD (0, hs_0)).1 = s_bI (decide (j = 188) || decide (j = 190) || decide (j = 46) || decide (j = 79))) && (decide (((fX4_endsWay (nI j) hs_0).getD (0, hs_0)).1 = s_bI (!(s_fl j))) && (decide (((fX4_takes (nI j) hs_0).getD (0, hs_0)).1 = nI (s_tk j)) && (!(s_isK j) || decide (((fX4_gives (nI j) hs_0).getD (0, hs_0)).1 = nI (s_gv j)))))))) = true := by decide +kernel
theorem ex_of {f : hs_S → Option (Int32 × hs_S)} (h : ∃ z : Int32, ∀ g, f g = some (z, g)) {r : Int32} (e : ((f hs_0).getD (0, hs_0)).1 = r) (s : hs_S) : f s = some (r, s) := by
  obtain ⟨z, hz⟩ := h
  rw [hz hs_0] at e
  have e2 : z = r := e
  rw [hz s, e2]
theorem pv_end (k : Int32) : ∃ z : Int32, ∀ g, fX4_endsWay k g = some (z, g) := by
  refine pi_ex fun g => ?_
  unfold fX4_endsWay jX4_endsWay_28
  repeat' (first | apply pi_ite | rfl)
theorem pv_tak (k : Int32) : ∃ z : Int32, ∀ g, fX4_takes k g = some (z, g) := by
  obtain ⟨z1, e1⟩ := pv_brn k
  obtain ⟨z2, e2⟩ := pv_two k
  refine pi_ex fun g => ?_
  unfold fX4_takes
  simp only [e1, e2, hs_bd_s]
  repeat' (first | apply pi_ite | rfl)
theorem pv_giv (k : Int32) : ∃ z : Int32, ∀ g, fX4_gives k g = some (z, g) := by
  obtain ⟨z2, e2⟩ := pv_two k
  refine pi_ex fun g => ?_
  unfold fX4_gives
  simp only [e2, hs_bd_s]
  repeat' (first | apply pi_ite | rfl)
theorem x_kinds {k : Nat} (h : k < 256) (s : hs_S) : fX4_isJump (nI k) s = some (s_bI (s_isJ k), s) ∧ fX4_isBranch (nI k) s = some (s_bI (decide (153 ≤ k) && decide (k ≤ 158)), s) ∧ fX4_isOfArray (nI k) s = some (s_bI (decide (k = 188) || decide (k = 190) || decide (k = 46) || decide (k = 79)), s) ∧ fX4_endsWay (nI k) s = some (s_bI (!(s_fl k)), s) ∧ fX4_takes (nI k) s = some (nI (s_tk k), s) ∧ (s_isK k = true → fX4_gives (nI k) s = some (nI (s_gv k), s)) := by
  have q := List.all_eq_true.mp ck_jmp k (List.mem_range.mpr h)
  simp only [Bool.and_eq_true, decide_eq_true_eq] at q
  obtain ⟨q1, q2, q3, q4, q5, q6⟩ := q
  refine ⟨ex_of (pv_jmp _) q1 s, ex_of (pv_brn _) q2 s, ex_of (pv_arr _) q3 s, ex_of (pv_end _) q4 s, ex_of (pv_tak _) q5 s, fun hk => ex_of (pv_giv _) ?_ s⟩
  rw [hk] at q6
  exact of_decide_eq_true q6
