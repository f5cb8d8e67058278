/-! TOLD -/
theorem q_lj60 (rec : Int32 → Int32 → hm → Option (Int32 × hm)) (v1 v2 v3 v5 : Int32) {k kd : Nat} (hk : kd < 256) (g : hm) : ∃ r, njX12_longJumps_60 rec v1 v2 v3 (nI k) v5 (nI kd) g = rec r (nI (k + s_sz kd)) g := by
  unfold njX12_longJumps_60 njX12_longJumps_76
  rw [q_size hk, hm_bd_s, hm_bd_s, nI_add]
  split
  · exact ⟨_, rfl⟩
  · exact ⟨_, rfl⟩
theorem q_lj0 {m n h l N : Nat} {c R : Nat → Nat} {g : hm} (hM : s_Mt n l N h c R) (x : s_G g m n h c R) : ∀ (d k f : Nat) (v : Int32), n ≤ k + d → d < f → k ≤ n → s_B c k → ∃ r, nlX12_longJumps_26 f (nI m) 0 v (nI k) (nI n) g = some (r, g)
  | d, k, 0, v, _, hf => absurd hf (Nat.not_lt_zero _)
  | d, k, f + 1, v, hd, hf => by
    intro hkn hB
    have hn := x.2.1
    rw [nlX12_longJumps_26]
    by_cases e : k = n
    · rw [if_pos ((lei (by omega) (by omega)).mpr (by omega))]; exact ⟨_, rfl⟩
    have hk : k < n := by omega
    have hok := hM.2.2.2.2.1 k hB hk
    have hs := s_isK_sz hok.1
    obtain ⟨k1, k2⟩ := q_kindAt x hk
    rw [if_neg (fun q => absurd ((lei (by omega) (by omega)).mp q) (by omega)), if_pos rfl, k1, hm_bd_s]
    obtain ⟨r, er⟩ := q_lj60 (fun y0 y1 g => nlX12_longJumps_26 f (nI m) 0 y0 y1 (nI n) g) (nI m) 0 v (nI n) (k := k) k2 g
    rw [er]
    obtain ⟨d', rfl⟩ : ∃ d', d = d' + 1 := ⟨d - 1, by omega⟩
    exact q_lj0 hM x d' (k + s_sz (c k)) f r (by omega) (by omega) hok.2.1 (s_B_next hB)
theorem s_kd_b {c pay pl S : Nat → Nat} {far : Nat → Bool} {j x kd : Nat} (hc : c j < 256) (q : s_Pt c pay pl far S j x kd) : kd < 256 := by
  rcases q with ⟨q1, q2, q3⟩ | ⟨q1, q2, q3⟩ | ⟨q2, q3⟩ | ⟨q0, q1, q4, q2, q3⟩
  · omega
  · omega
  · rw [q3]
    unfold s_kw s_op
    repeat' split
    all_goals omega
  · omega
theorem q_ljw {m n h l N : Nat} {c R P S : Nat → Nat} {b far : Nat → Bool} {g : hm} {a2 : Int32} (hm8 : m < 8) (ha : ¬ a2 = 0) (hM : s_Mt n l N h c R) (hc : ∀ k, k < n → c k < 256) (hL : s_Lo c (s_pl P c n b true) n far S) (hS : S n ≤ 4000) (hw : ∀ j, s_B c j → j < n → ∀ o, o < s_pl P c n b true j + s_ln c far j → g 304 (4001 * m + (S j + o)) = nI (s_em P c n b true far S j o)) :
    ∀ (d x f : Nat) (v : Int32), S n ≤ x + d → d < f → x ≤ S n → s_St c n (s_pay P c n b true) (s_pl P c n b true) far S x → ∃ r, nlX12_longJumps_26 f (nI m) a2 v (nI x) (nI (S n)) g = some (r, g)
  | d, x, 0, v, _, hf => absurd hf (Nat.not_lt_zero _)
  | d, x, f + 1, v, hd, hf => by
    intro hxn hx
    rw [nlX12_longJumps_26]
    by_cases e : x = S n
    · rw [if_pos ((lei (by omega) (by omega)).mpr (by omega))]; exact ⟨_, rfl⟩
    rcases hx with hx | ⟨j, kd, hB, hj, hq⟩
    · exact absurd hx e
    obtain ⟨o, o1, o2, o3, o4, o5, o6⟩ := hq.nx hM hL hB hj
    have e3 : (4001 : Int32) * nI m + nI x = nI (4001 * m + x) := ix 4001 m x
    have eb : g 304 (4001 * m + x) = nI kd := by rw [o1, hw j hB hj o o2, o3]
    rw [if_neg (fun q => absurd ((lei (by omega) (by omega)).mp q) (by omega)), if_neg ha, e3, if_pos (hin (show 4001 * m + x < 32008 by omega) (by decide)), cl (show 4001 * m + x < 2147483648 by omega), eb]
    obtain ⟨r, er⟩ := q_lj60 (fun y0 y1 g => nlX12_longJumps_26 f (nI m) a2 y0 y1 (nI (S n)) g) (nI m) a2 v (nI (S n)) (k := x) (s_kd_b (hc j hj) hq) g
    rw [er]
    obtain ⟨d', rfl⟩ : ∃ d', d = d' + 1 := ⟨d - 1, by omega⟩
    exact q_ljw hm8 ha hM hc hL hS hw d' (x + s_sz kd) f r (by omega) (by omega) o5 o6
