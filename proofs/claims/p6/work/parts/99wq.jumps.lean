/-! TOLD, EXACTLY: the 168s that are counted -/
theorem q_lj60X (rec : Int32 → Int32 → hm → Option (Int32 × hm)) (v1 v2 v5 : Int32) {k kd v : Nat} (hk : kd < 256) (g : hm) : njX12_longJumps_60 rec v1 v2 (nI v) (nI k) v5 (nI kd) g = rec (nI (v + if kd = 168 then 1 else 0)) (nI (k + s_sz kd)) g := by
  unfold njX12_longJumps_60 njX12_longJumps_76
  rw [q_size hk, hm_bd_s, hm_bd_s, nI_add]
  by_cases c : kd = 168
  · have u : nI kd = (168 : Int32) := by rw [c]; rfl
    rw [if_pos u, if_pos c, nI_1]
  · have u : ¬ nI kd = (168 : Int32) := fun q => c ((eqi (b := 168) (by omega) (by decide)).mp q)
    have e0 : nI v + (0 : Int32) = nI (v + 0) := nI_add v 0
    rw [if_neg u, if_neg c, e0]
theorem q_lj0X {m n h l N : Nat} {c R : Nat → Nat} {g : hm} (hM : s_Mt n l N h c R) (x : s_G g m n h c R) : ∀ (d k f v : Nat), n ≤ k + d → d < f → k ≤ n → s_B c k → nlX12_longJumps_26 f (nI m) 0 (nI v) (nI k) (nI n) g = some (nI (v + s_lc c n d k), g)
  | d, k, 0, v, _, hf => absurd hf (Nat.not_lt_zero _)
  | 0, k, f + 1, v, hd, hf => by
    intro hkn hB
    have hn := x.2.1
    rw [nlX12_longJumps_26, if_pos ((lei (by omega) (by omega)).mpr (by omega))]
    rfl
  | d + 1, k, f + 1, v, hd, hf => by
    intro hkn hB
    have hn := x.2.1
    rw [nlX12_longJumps_26]
    by_cases e : k = n
    · rw [if_pos ((lei (by omega) (by omega)).mpr (by omega)), s_lc, if_neg (by omega), Nat.add_zero]
    have hk : k < n := by omega
    have hok := hM.2.2.2.2.1 k hB hk
    have hs := s_isK_sz hok.1
    obtain ⟨k1, k2⟩ := q_kindAt x hk
    rw [if_neg (fun q => absurd ((lei (by omega) (by omega)).mp q) (by omega)), if_pos rfl, k1, hm_bd_s, q_lj60X _ _ _ _ k2 g, q_lj0X hM x d (k + s_sz (c k)) f _ (by omega) (by omega) hok.2.1 (s_B_next hB), s_lc, if_pos hk, Nat.add_assoc]
/-- how many 168s there are from x on -/
def s_Cw (c : Nat → Nat) (n : Nat) (pay pl : Nat → Nat) (far : Nat → Bool) (S : Nat → Nat) (x w : Nat) : Prop := (x = S n ∧ w = 0) ∨ ∃ j, s_B c j ∧ j < n ∧ (((pay j = 5 ∧ x = S j) ∨ (pl j = pay j + 1 ∧ x = S j + pay j) ∨ x = S j + pl j) ∧ w = s_ws c n (fun i => lbk c far i + ljk c far i) n j ∨ (s_isJ (c j) = true ∧ far j = true ∧ c j < 167 ∧ x = S j + pl j + 2) ∧ w = 1 + s_ws c n (fun i => lbk c far i + ljk c far i) n (j + s_sz (c j)))
theorem s_Cw_S {P c : Nat → Nat} {n : Nat} {b : Nat → Bool} {far : Nat → Bool} {S : Nat → Nat} {j : Nat} (hB : s_B c j) (hj : j ≤ n) : s_Cw c n (s_pay P c n b true) (s_pl P c n b true) far S (S j) (s_ws c n (fun i => lbk c far i + ljk c far i) n j) := by
  by_cases e : j = n
  · rw [e]; exact Or.inl ⟨rfl, s_ws_n _ _ (Nat.le_refl _)⟩
  · refine Or.inr ⟨j, hB, by omega, Or.inl ⟨?_, rfl⟩⟩
    rcases s_pay_05 P c n b true j with p0 | p5
    · rcases s_pl_01 P c n b true j with q | q
      · exact Or.inr (Or.inr (by omega))
      · exact Or.inr (Or.inl ⟨q, by omega⟩)
    · exact Or.inl ⟨p5, rfl⟩
theorem s_kw_168 {c : Nat → Nat} {far : Nat → Bool} {j : Nat} : s_kw c far j = 168 ↔ s_isJ (c j) = true ∧ far j = true ∧ ¬ c j < 167 := by
  unfold s_kw
  by_cases hj : s_isJ (c j) = true
  · rw [if_pos hj]
    by_cases hf : far j = true
    · rw [if_pos hf]
      rcases s_isJ_c hj with ⟨h0, h1, h2⟩ | ⟨h0, h1⟩
      · rw [if_pos h0]
        have := (s_op_t h1 h2).1
        exact ⟨fun q => absurd q (by omega), fun q => absurd h0 q.2.2⟩
      · rw [if_neg h0]
        exact ⟨fun _ => ⟨hj, hf, h0⟩, fun _ => rfl⟩
    · rw [if_neg hf]
      refine ⟨fun q => ?_, fun q => absurd q.2.1 hf⟩
      split at q <;> omega
  · rw [if_neg hj]
    refine ⟨fun q => absurd (by rw [q]; decide) hj, fun q => absurd q.1 hj⟩
/-- the kind at such a place, and how many there are behind it -/
theorem s_Cw.nx {P c R S : Nat → Nat} {n l N h x w : Nat} {b far : Nat → Bool} (hM : s_Mt n l N h c R) (hL : s_Lo c (s_pl P c n b true) n far S) (hx : x ≠ S n) (q : s_Cw c n (s_pay P c n b true) (s_pl P c n b true) far S x w) :
    ∃ j kd w', s_B c j ∧ j < n ∧ s_Pt c (s_pay P c n b true) (s_pl P c n b true) far S j x kd ∧ s_Cw c n (s_pay P c n b true) (s_pl P c n b true) far S (x + s_sz kd) w' ∧ w = (if kd = 168 then 1 else 0) + w' := by
  rcases q with ⟨q1, -⟩ | ⟨j, hB, hj, q⟩
  · exact absurd q1 hx
  have hok := hM.2.2.2.2.1 j hB hj
  have h1 := hL.2.1 j hB hj
  have tt : s_ws c n (fun i => lbk c far i + ljk c far i) n j = (lbk c far j + ljk c far j) + s_ws c n (fun i => lbk c far i + ljk c far i) n (j + s_sz (c j)) := s_ws_t hM.2.2.2.2.1 hB hj
  have hp := s_pl_01 P c n b true j
  have nextS : s_Cw c n (s_pay P c n b true) (s_pl P c n b true) far S (S j + s_pl P c n b true j + s_ln c far j) (s_ws c n (fun i => lbk c far i + ljk c far i) n (j + s_sz (c j))) := by
    rw [← h1]; exact s_Cw_S (s_B_next hB) hok.2.1
  have mainS : s_Cw c n (s_pay P c n b true) (s_pl P c n b true) far S (S j + s_pl P c n b true j) (s_ws c n (fun i => lbk c far i + ljk c far i) n j) := Or.inr ⟨j, hB, hj, Or.inl ⟨Or.inr (Or.inr rfl), rfl⟩⟩
  rcases q with ⟨⟨q1, q2⟩ | ⟨q1, q2⟩ | q2, qw⟩ | ⟨⟨q0, q1, q4, q2⟩, qw⟩
  · refine ⟨j, 202, w, hB, hj, Or.inl ⟨q1, q2, rfl⟩, ?_, by rw [if_neg (by decide), Nat.zero_add]⟩
    have z : s_sz 202 = 5 := by decide
    rw [z, qw]
    rcases hp with hp | hp
    · rw [show x + 5 = S j + s_pl P c n b true j by omega]; exact mainS
    · exact Or.inr ⟨j, hB, hj, Or.inl ⟨Or.inr (Or.inl ⟨hp, by omega⟩), rfl⟩⟩
  · refine ⟨j, 203, w, hB, hj, Or.inr (Or.inl ⟨q1, q2, rfl⟩), ?_, by rw [if_neg (by decide), Nat.zero_add]⟩
    have z : s_sz 203 = 1 := by decide
    rw [z, qw, show x + 1 = S j + s_pl P c n b true j by omega]
    exact mainS
  · have z := s_kw_sz c far j
    by_cases c1 : s_isJ (c j) = true ∧ far j = true ∧ c j < 167
    · rw [if_pos c1] at z
      have nk : ¬ s_kw c far j = 168 := fun q => (s_kw_168.mp q).2.2 c1.2.2
      have lb : lbk c far j = 1 := by unfold lbk; rw [if_pos c1]
      have lj : ljk c far j = 0 := by unfold ljk; rw [if_neg (fun q => q.2.2 c1.2.2)]
      refine ⟨j, s_kw c far j, w, hB, hj, Or.inr (Or.inr (Or.inl ⟨q2, rfl⟩)), ?_, by rw [if_neg nk, Nat.zero_add]⟩
      rw [z]
      exact Or.inr ⟨j, hB, hj, Or.inr ⟨⟨c1.1, c1.2.1, c1.2.2, by omega⟩, by omega⟩⟩
    · rw [if_neg c1] at z
      have lb : lbk c far j = 0 := by unfold lbk; rw [if_neg c1]
      refine ⟨j, s_kw c far j, s_ws c n (fun i => lbk c far i + ljk c far i) n (j + s_sz (c j)), hB, hj, Or.inr (Or.inr (Or.inl ⟨q2, rfl⟩)), ?_, ?_⟩
      · rw [z, q2]; exact nextS
      · have lj : (if s_kw c far j = 168 then 1 else 0) = ljk c far j := by
          unfold ljk
          by_cases c2 : s_kw c far j = 168
          · rw [if_pos c2, if_pos (s_kw_168.mp c2)]
          · rw [if_neg c2, if_neg (fun q => c2 (s_kw_168.mpr q))]
        rw [lj]
        omega
  · have z : s_sz 168 = 3 := by decide
    have hl := s_ln_j (far := far) q0
    rw [if_pos q1, if_pos q4] at hl
    refine ⟨j, 168, s_ws c n (fun i => lbk c far i + ljk c far i) n (j + s_sz (c j)), hB, hj, Or.inr (Or.inr (Or.inr ⟨q0, q1, q4, q2, rfl⟩)), ?_, by rw [qw, if_pos rfl]⟩
    rw [z, show x + 3 = S j + s_pl P c n b true j + s_ln c far j by omega]
    exact nextS
theorem q_ljwX {m n h l N : Nat} {c R P S : Nat → Nat} {b far : Nat → Bool} {g : hm} {a2 : Int32} (hm8 : m < 8) (ha : ¬ a2 = 0) (hM : s_Mt n l N h c R) (hc : ∀ k, k < n → c k < 256) (hL : s_Lo c (s_pl P c n b true) n far S) (hS : S n ≤ 4000) (hw : ∀ j, s_B c j → j < n → ∀ o, o < s_pl P c n b true j + s_ln c far j → g 304 (4001 * m + (S j + o)) = nI (s_em P c n b true far S j o)) :
    ∀ (d x f v w : Nat), S n ≤ x + d → d < f → x ≤ S n → s_Cw c n (s_pay P c n b true) (s_pl P c n b true) far S x w → nlX12_longJumps_26 f (nI m) a2 (nI v) (nI x) (nI (S n)) g = some (nI (v + w), g)
  | d, x, 0, v, w, _, hf => absurd hf (Nat.not_lt_zero _)
  | d, x, f + 1, v, w, hd, hf => by
    intro hxn hx
    rw [nlX12_longJumps_26]
    by_cases e : x = S n
    · rw [if_pos ((lei (by omega) (by omega)).mpr (by omega))]
      have w0 : w = 0 := by
        rcases hx with ⟨-, q⟩ | ⟨j, hB, hj, q⟩
        · exact q
        · exfalso
          have hok := hM.2.2.2.2.1 j hB hj
          have hs := s_isK_sz hok.1
          have hln : 0 < s_ln c far j := by
            by_cases hJ : s_isJ (c j) = true
            · rw [s_ln_j hJ]
              split
              · split <;> decide
              · decide
            · rw [s_ln_n hJ]; exact hs
          have hp := s_pl_01 P c n b true j
          rcases q with ⟨⟨q1, q2⟩ | ⟨q1, q2⟩ | q2, -⟩ | ⟨⟨q0, q1, q4, q2⟩, -⟩
          · have := hL.lt hM.2.2.2.2.1 hB hj (o := 0) (by omega); omega
          · have := hL.lt hM.2.2.2.2.1 hB hj (o := s_pay P c n b true j) (by omega); omega
          · have := hL.lt hM.2.2.2.2.1 hB hj (o := s_pl P c n b true j) (by omega); omega
          · have hl := s_ln_j (far := far) q0
            rw [if_pos q1, if_pos q4] at hl
            have := hL.lt hM.2.2.2.2.1 hB hj (o := s_pl P c n b true j + 2) (by omega); omega
      rw [w0, Nat.add_zero]
    obtain ⟨j, kd, w', hB, hj, hq, hnx, hww⟩ := hx.nx hM hL e
    obtain ⟨o, o1, o2, o3, o4, o5, o6⟩ := hq.nx hM hL hB hj
    have e3 : (4001 : Int32) * nI m + nI x = nI (4001 * m + x) := ix 4001 m x
    have eb : g 304 (4001 * m + x) = nI kd := by rw [o1, hw j hB hj o o2, o3]
    rw [if_neg (fun q => absurd ((lei (by omega) (by omega)).mp q) (by omega)), if_neg ha, e3, if_pos (hin (show 4001 * m + x < 32008 by omega) (by decide)), cl (show 4001 * m + x < 2147483648 by omega), eb, q_lj60X _ _ _ _ (s_kd_b (hc j hj) hq) g]
    obtain ⟨d', rfl⟩ : ∃ d', d = d' + 1 := ⟨d - 1, by omega⟩
    rw [q_ljwX hm8 ha hM hc hL hS hw d' (x + s_sz kd) f _ w' (by omega) (by omega) o5 hnx, hww, Nat.add_assoc]
/-- longJumps() of the FILE, and of what is written -/
theorem q_longF {g : hm} {m n h l N : Nat} {c R : Nat → Nat} (hM : s_Mt n l N h c R) (x : s_G g m n h c R) : nX12_longJumps (nI m) 0 g = some (nI (s_lc c n n 0), g) := by
  have hn := x.2.1
  have hm8 := x.1
  have e := q_lj0X hM x n 0 hs_N 0 (by omega) (by unfold hs_N; omega) (by omega) (s_B_0 c)
  have e' : nlX12_longJumps_26 hs_N (nI m) 0 0 0 (nI n) g = some (nI (0 + s_lc c n n 0), g) := e
  unfold nX12_longJumps njX12_longJumps_24
  rw [if_pos rfl, if_pos (hin hm8 (by decide)), cl (show m < 2147483648 by omega), x.2.2.2.1, e', hm_bd_s, Nat.zero_add]
theorem q_longW {g : hm} {m n h l N : Nat} {c R P S : Nat → Nat} {b far : Nat → Bool} {a2 : Int32} (hm8 : m < 8) (ha : ¬ a2 = 0) (hM : s_Mt n l N h c R) (hc : ∀ k, k < n → c k < 256) (hL : s_Lo c (s_pl P c n b true) n far S) (hS : S n ≤ 4000) (h305 : g 305 m = nI (S n)) (hw : ∀ j, s_B c j → j < n → ∀ o, o < s_pl P c n b true j + s_ln c far j → g 304 (4001 * m + (S j + o)) = nI (s_em P c n b true far S j o)) : nX12_longJumps (nI m) a2 g = some (nI (s_ws c n (lbk c far) n 0 + s_ws c n (ljk c far) n 0), g) := by
  have s0 := s_Cw_S (P := P) (n := n) (b := b) (far := far) (S := S) (s_B_0 c) (Nat.zero_le n)
  rw [hL.1, s_ws_add] at s0
  have e := q_ljwX hm8 ha hM hc hL hS hw (S n) 0 hs_N 0 _ (by omega) (by unfold hs_N; omega) (by omega) s0
  have e' : nlX12_longJumps_26 hs_N (nI m) a2 0 0 (nI (S n)) g = some (nI (0 + (s_ws c n (lbk c far) n 0 + s_ws c n (ljk c far) n 0)), g) := e
  unfold nX12_longJumps njX12_longJumps_24
  rw [if_neg ha, if_pos (hin hm8 (by decide)), cl (show m < 2147483648 by omega), h305, e', hm_bd_s, Nat.zero_add]
