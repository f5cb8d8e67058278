/-! THE RUN: frames, and where they may stand -/
/-- what is written of method m, by b, far and S -/
def s_Wq (g : hm) (m n h : Nat) (c R P : Nat → Nat) (b far : Nat → Bool) (S : Nat → Nat) : Prop := s_Lo c (s_pl P c n b true) n far S ∧ (S n ≤ 4000 ∧ g 305 m = nI (S n)) ∧
  (∀ j, s_B c j → j < n → ∀ o, o < s_pl P c n b true j + s_ln c far j → g 304 (4001 * m + (S j + o)) = nI (s_em P c n b true far S j o)) ∧
  ∀ z, z < h → (∀ i, i < 3 → g 306 (32 * m + 4 * z + i) = nI (S (R (4 * z + i)))) ∧ g 306 (32 * m + 4 * z + 3) = nI (R (4 * z + 3))
theorem s_Wm.q {g : hm} {m n h : Nat} {c R P : Nat → Nat} (x : s_Wm g m n h c R P) : ∃ b far S, s_Wq g m n h c R P b far S := by
  obtain ⟨b, far, S, x1, x2, x3, x4, x5, x6⟩ := x
  exact ⟨b, far, S, x2, ⟨x3, x4⟩, x5, x6⟩
/-- the place x of the instruction at j, come to with d0; the depth there; how many turns until it counts -/
def s_Pd (P c : Nat → Nat) (n : Nat) (b far : Nat → Bool) (S par : Nat → Nat) (j d0 x d rk : Nat) : Prop :=
  (s_pay P c n b true j = 5 ∧ x = S j ∧ d = d0 ∧ rk = 2) ∨ (s_pl P c n b true j = s_pay P c n b true j + 1 ∧ x = S j + s_pay P c n b true j ∧ d = d0 ∧ rk = 1) ∨ (x = S j + s_pl P c n b true j ∧ d = d0 ∧ rk = 0) ∨ (s_isJ (c j) = true ∧ far j = true ∧ c j < 167 ∧ x = S j + s_pl P c n b true j + 2 ∧ d = s_d2 c par j d0 ∧ rk = 0)
/-- a frame may go on at x with depth d -/
def s_Gd (g : hm) (N : Nat) (p n h : Nat → Nat) (c R : Nat → Nat → Nat) (P : Nat → Nat) (rk m x d : Nat) : Prop := m < N ∧ ∃ (b far : Nat → Bool) (S : Nat → Nat) (j t d0 : Nat), s_Wq g m (n m) (h m) (c m) (R m) P b far S ∧ s_B (c m) j ∧ j < n m ∧ s_Rc (c m) p (h m) (R m) t j d0 ∧ s_Pd P (c m) (n m) b far S p j d0 x d rk
/-- a frame waits at a call -/
def s_Sd (g : hm) (N : Nat) (p n h : Nat → Nat) (c R : Nat → Nat → Nat) (P : Nat → Nat) (m x d : Nat) : Prop := m < N ∧ ∃ (b far : Nat → Bool) (S : Nat → Nat) (j t d0 : Nat), s_Wq g m (n m) (h m) (c m) (R m) P b far S ∧ s_B (c m) j ∧ j < n m ∧ s_Rc (c m) p (h m) (R m) t j d0 ∧ c m j = 184 ∧ x = S j + s_pl P (c m) (n m) b true j ∧ p (c m (j + 1)) ≤ d0 ∧ d = d0 - p (c m (j + 1))
/-- frame f: its method, place and depth -/
def s_fr (g : hm) (f : Nat) (Q : Nat → Nat → Nat → Prop) : Prop := ∃ m x d, g 315 f = nI m ∧ g 316 f = nI x ∧ g 317 f = nI d ∧ Q m x d
theorem s_fr.mono {g g' : hm} {f : Nat} {Q : Nat → Nat → Nat → Prop} (x : s_fr g f Q) (h1 : g' 315 f = g 315 f) (h2 : g' 316 f = g 316 f) (h3 : g' 317 f = g 317 f) : s_fr g' f Q := by
  obtain ⟨m, y, d, a1, a2, a3, a4⟩ := x
  exact ⟨m, y, d, by rw [h1]; exact a1, by rw [h2]; exact a2, by rw [h3]; exact a3, a4⟩
theorem s_fr.imp {g : hm} {f : Nat} {Q Q' : Nat → Nat → Nat → Prop} (x : s_fr g f Q) (h : ∀ m y d, Q m y d → Q' m y d) : s_fr g f Q' := by
  obtain ⟨m, y, d, a1, a2, a3, a4⟩ := x
  exact ⟨m, y, d, a1, a2, a3, h m y d a4⟩
/-- the arrays -/
def s_Az (g : hm) : Prop := ∀ a, a < 4 → ∃ z, z ≤ 1000 ∧ g 313 a = nI z
theorem s_Rc_20 {c par : Nat → Nat} {n h : Nat} {R : Nat → Nat} (hD : s_DOK c par n h R) : ∀ (t k d : Nat), s_Rc c par h R t k d → d ≤ 20
  | 0, k, d, x => by
    rcases x with ⟨x1, x2⟩ | ⟨q, q1, q2, q3⟩ <;> omega
  | t + 1, k, d, x => by
    rcases x with x | ⟨k0, d0, x1, x2, x3⟩
    · exact s_Rc_20 hD t k d x
    · rw [x3]; exact (hD.2.1 t k0 d0 x1).2.1
/-! the stack of the frame on top -/
theorem q_push {g : hm} {F d : Nat} (hF : F < 60) (h40 : g 285 40 = nI (F + 1)) (hd : g 317 F = nI d) (h24 : d < 24) (v : Int32) : nX12_push v g = some (hm_w (hm_w g 318 (24 * F + d) v) 317 F (nI (d + 1))) := by
  have e1 : nI (F + 1) - (1 : Int32) = nI F := nI_pred F
  have e2 : (24 : Int32) * nI F + nI d = nI (24 * F + d) := ix 24 F d
  unfold nX12_push
  rw [h40, e1, if_pos (hin hF (by decide)), cl (show F < 2147483648 by omega), hd, e2, if_pos (hin (show 24 * F + d < 1440 by omega) (by decide)), hm_bv_s, cl (show 24 * F + d < 2147483648 by omega), hm_w_ne (by decide), hd, nI_1]
theorem q_pop {g : hm} {F d : Nat} (hF : F < 60) (h40 : g 285 40 = nI (F + 1)) (hd : g 317 F = nI (d + 1)) (h24 : d < 24) : nX12_pop g = some (g 318 (24 * F + d), hm_w g 317 F (nI d)) := by
  have e1 : nI (F + 1) - (1 : Int32) = nI F := nI_pred F
  have e2 : (24 : Int32) * nI F + nI d = nI (24 * F + d) := ix 24 F d
  have e3 : nI (d + 1) - (1 : Int32) = nI d := nI_pred d
  unfold nX12_pop
  rw [h40, e1, if_pos (hin hF (by decide)), cl (show F < 2147483648 by omega), hd, e3, hm_bv_s, hm_w_eq, e2, if_pos (hin (show 24 * F + d < 1440 by omega) (by decide)), cl (show 24 * F + d < 2147483648 by omega), hm_w_ne (by decide)]
theorem q_top {g : hm} {F d : Nat} (hF : F < 60) (h40 : g 285 40 = nI (F + 1)) (hd : g 317 F = nI (d + 1)) (h24 : d < 24) : nX12_top g = some (g 318 (24 * F + d), g) := by
  have e1 : nI (F + 1) - (1 : Int32) = nI F := nI_pred F
  have e2 : (24 : Int32) * nI F + nI (d + 1) = nI (24 * F + d + 1) := ix 24 F (d + 1)
  have e3 : nI (24 * F + d + 1) - (1 : Int32) = nI (24 * F + d) := nI_pred _
  unfold nX12_top
  rw [h40, e1, if_pos (hin hF (by decide)), cl (show F < 2147483648 by omega), hd, e2, e3, if_pos (hin (show 24 * F + d < 1440 by omega) (by decide)), cl (show 24 * F + d < 2147483648 by omega)]
theorem q_codeAt {g : hm} {F m x i : Nat} (hF : F < 60) (h40 : g 285 40 = nI (F + 1)) (hm8 : m < 8) (h1 : g 315 F = nI m) (h2 : g 316 F = nI x) (hx : x + i < 4001) : nX12_codeAt (nI i) g = some (g 304 (4001 * m + (x + i)), g) := by
  have e1 : nI (F + 1) - (1 : Int32) = nI F := nI_pred F
  have e2 : (4001 : Int32) * nI m + nI x + nI i = nI (4001 * m + (x + i)) := by rw [show (4001 : Int32) * nI m + nI x = nI (4001 * m + x) from ix 4001 m x, nI_add, Nat.add_assoc]
  have hi : hs_in (nI F) 60 = true := hin hF (by decide)
  unfold nX12_codeAt
  rw [h40, e1, if_pos hi, if_pos hi, cl (show F < 2147483648 by omega), h1, h2, e2, if_pos (hin (show 4001 * m + (x + i) < 32008 by omega) (by decide)), cl (show 4001 * m + (x + i) < 2147483648 by omega)]
