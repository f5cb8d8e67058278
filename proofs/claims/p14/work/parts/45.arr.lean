/-! OF ARRAYS -/
theorem s_K.a241 {g0 g : hm} {Q : Nat → Nat → Nat → Prop} {F st m x d : Nat} (k : s_K g0 Q g F st m x d) (y : Nat) : ∃ g', njX12_ofArrays_241 (nI y) g = some g' ∧ s_K g0 Q g' F st m y d := by
  have hF := k.d20.1
  have e1 : nI (F + 1) - (1 : Int32) = nI F := nI_pred F
  unfold njX12_ofArrays_241
  rw [if_pos k.2.2.2.2.1, k.1.2.2.1, e1, if_pos (hin hF (by decide)), cl (show F < 2147483648 by omega)]
  exact ⟨_, rfl, k.at y⟩
theorem s_K.a170 {g0 g : hm} {N : Nat} {Q : Nat → Nat → Nat → Prop} {F st m x d kd a : Nat} (k : s_K g0 Q g F st m x (d + 1)) (hm8 : m < N) (hd : d < 23) (ha : a < 4) (hk : kd = 79 ∨ kd = 46) (y : Nat) (s0 : Int32) : Tq (njX12_ofArrays_170 (nI kd) (nI a) (nI y) s0 g) (s_Rp g0 N Q F st m y (if kd = 79 then d else d + 1)) := by
  unfold njX12_ofArrays_170
  obtain ⟨v, g1, e1, k1⟩ := k.pop (by omega)
  rw [e1, hm_bd_s]
  have th : s_Th g0 N Q (hm_w g1 285 47 (2 : Int32)) F st := k1.thr hm8 (e := 2) (by decide) (by decide)
  by_cases c1 : v < 0
  · rw [if_pos c1]; exact ⟨_, rfl, Or.inr th⟩
  obtain ⟨i, hi0, rfl⟩ := nI_of c1
  obtain ⟨z, hz, ez⟩ := k1.1.2.2.2.2.2.2.1 a ha
  rw [if_neg c1, if_pos (hin ha (by decide)), cl (show a < 2147483648 by omega), ez]
  by_cases c2 : i < z
  rotate_left
  · rw [if_neg (fun q => c2 ((lti (by omega) (by omega)).mp q))]; exact ⟨_, rfl, Or.inr th⟩
  have e2 : (1001 : Int32) * nI a + nI i = nI (1001 * a + i) := ix 1001 a i
  have hi : hs_in (nI (1001 * a + i)) 4004 = true := hin (by omega) (by decide)
  rw [if_pos ((lti (by omega) (by omega)).mpr c2), e2]
  rcases hk with e | e
  · subst e
    rw [if_pos (by decide), if_pos hi, if_pos rfl]
    obtain ⟨g', e, k'⟩ := (k1.w1 (a := 314) (j := (nI (1001 * a + i)).toNatClampNeg) (v := s0) (by decide)).a241 y
    exact ⟨g', e, Or.inl k'⟩
  · subst e
    rw [if_neg (by decide), if_pos hi, if_neg (by decide)]
    obtain ⟨g2, e3, k2⟩ := k1.push (by omega) (g1 314 (nI (1001 * a + i)).toNatClampNeg)
    rw [e3, hm_bv_s]
    obtain ⟨g', e, k'⟩ := k2.a241 y
    exact ⟨g', e, Or.inl k'⟩
theorem s_K.a106 {g0 : hm} {Q : Nat → Nat → Nat → Prop} {F st m x d a z : Nat} (ha : a < 4) (hz : z ≤ 1000) (v3 : Int32) : ∀ (r i f : Nat) (g : hm), i + r = z → r < f → s_K g0 Q g F st m x d → Tq (nlX12_ofArrays_106 f (nI a) v3 (nI z) (nI i) g) (fun q => s_K g0 Q q F st m x d)
  | r, i, 0, g, _, hf, _ => absurd hf (Nat.not_lt_zero _)
  | 0, i, f + 1, g, hi, _, k => by
    rw [nlX12_ofArrays_106, if_pos ((lei (by omega) (by omega)).mpr (by omega))]
    exact Tq.some k
  | r + 1, i, f + 1, g, hi, hf, k => by
    have e2 : (1001 : Int32) * nI a + nI i = nI (1001 * a + i) := ix 1001 a i
    have h1 : hs_in (nI (1001 * a + i)) 4004 = true := hin (by omega) (by decide)
    rw [nlX12_ofArrays_106, if_neg (fun q => absurd ((lei (by omega) (by omega)).mp q) (by omega)), e2, if_pos h1, nI_1]
    exact s_K.a106 ha hz v3 r (i + 1) f _ (by omega) (by omega) (k.w1 (by decide))
theorem s_K.a75 {g0 g : hm} {N : Nat} {Q : Nat → Nat → Nat → Prop} {F st m x d : Nat} (k : s_K g0 Q g F st m x d) (hm8 : m < N) (v : Int32) : Tq (njX12_ofArrays_75 v g) (fun q => s_Th g0 N Q q F st) := by
  unfold njX12_ofArrays_75
  refine Tq.br (fun _ => ?_) (fun _ => ?_)
  · exact ⟨_, rfl, k.thr hm8 (e := 4) (by decide) (by decide)⟩
  · exact ⟨_, rfl, k.thr hm8 (e := 3) (by decide) (by decide)⟩
theorem s_K.a16 {g0 g : hm} {N : Nat} {Q : Nat → Nat → Nat → Prop} {F st m x d kd a : Nat} (k : s_K g0 Q g F st m x d) (hm8 : m < N) (hd : d ≤ 20) (hk : kd = 188 ∨ kd = 190 ∨ kd = 46 ∨ kd = 79 ∨ kd = 191) (ha : a < 4) (ht : s_tk kd ≤ d) : Tq (njX12_ofArrays_16 (nI kd) (nI a) g) (s_Rp g0 N Q F st m (x + s_sz kd) (d - s_tk kd + s_gv kd)) := by
  have hF := k.d20.1
  have e1 : nI (F + 1) - (1 : Int32) = nI F := nI_pred F
  unfold njX12_ofArrays_16
  rw [k.1.2.2.1, e1, if_pos (hin hF (by decide)), cl (show F < 2147483648 by omega), k.2.2.1]
  rcases hk with e | e | e | e | e
  · subst e
    obtain ⟨d', rfl⟩ := d_1 ht (by decide)
    rw [q_size (by decide), hm_bd_s, nI_add, if_neg (by decide), if_pos (by decide)]
    obtain ⟨v, e0⟩ := k.top (by omega)
    rw [e0, hm_bd_s]
    by_cases c1 : v < 0
    · rw [if_pos c1]; exact (k.a75 hm8 v).mono fun q hq => Or.inr hq
    rw [if_neg c1]
    by_cases c2 : v ≤ (1000 : Int32)
    rotate_left
    · rw [if_neg c2]; exact (k.a75 hm8 v).mono fun q hq => Or.inr hq
    obtain ⟨z, hz0, rfl⟩ := nI_of c1
    have hz := (lei (b := 1000) (by omega) (by decide)).mp c2
    obtain ⟨w, g1, e2, k1⟩ := k.pop (by omega)
    rw [if_pos c2, e2, hm_bd_s, if_pos (hin ha (by decide)), cl (show a < 2147483648 by omega)]
    have e3 : (0 : Int32) = nI 0 := rfl
    rw [e3]
    refine Tq.bv ((s_K.a106 ha hz (nI (x + s_sz 188)) z 0 hs_N _ (by omega) (by unfold hs_N; omega) (k1.w313 hz)).mono fun q hq => ?_)
    obtain ⟨g', e, k'⟩ := hq.a241 (x + s_sz 188)
    exact ⟨g', e, Or.inl k'⟩
  · subst e
    rw [q_size (by decide), hm_bd_s, nI_add, if_neg (by decide), if_neg (by decide), if_pos (by decide), if_pos (hin ha (by decide))]
    obtain ⟨g1, e2, k1⟩ := k.push (by omega) (g 313 (nI a).toNatClampNeg)
    rw [e2, hm_bv_s]
    obtain ⟨g', e, k'⟩ := k1.a241 (x + s_sz 190)
    exact ⟨g', e, Or.inl k'⟩
  · subst e
    obtain ⟨d', rfl⟩ := d_1 ht (by decide)
    rw [q_size (by decide), hm_bd_s, nI_add, if_neg (by decide), if_neg (by decide), if_neg (by decide), if_neg (by decide)]
    exact k.a170 (kd := 46) hm8 (by omega) ha (by decide) (x + s_sz 46) 0
  · subst e
    obtain ⟨d', rfl⟩ := d_2 ht (by decide)
    rw [q_size (by decide), hm_bd_s, nI_add, if_neg (by decide), if_neg (by decide), if_neg (by decide), if_pos (by decide)]
    obtain ⟨w, g1, e2, k1⟩ := k.pop (by omega)
    rw [e2, hm_bd_s]
    exact k1.a170 (kd := 79) hm8 (by omega) ha (by decide) (x + s_sz 79) w
  · subst e
    rw [q_size (by decide), hm_bd_s, nI_add, if_pos (by decide)]
    unfold njX12_ofArrays_241
    have th : s_Th g0 N Q (hm_w g 285 47 (4 : Int32)) F st := k.thr hm8 (e := 4) (by decide) (by decide)
    rw [hm_w_eq, if_neg (by decide)]
    exact ⟨_, rfl, Or.inr th⟩
theorem s_K.arr {g0 g : hm} {N : Nat} {Q : Nat → Nat → Nat → Prop} {F st m x d kd a : Nat} (k : s_K g0 Q g F st m x d) (hm8 : m < N) (hN : N ≤ 8) (hd : d ≤ 20) (hk : kd = 188 ∨ kd = 190 ∨ kd = 46 ∨ kd = 79 ∨ kd = 191) (ha : kd ≠ 191 → a < 4 ∧ g0 304 (4001 * m + (x + 1)) = nI a ∧ x + 1 < 4001) (ht : s_tk kd ≤ d) : Tq (nX12_ofArrays (nI kd) g) (s_Rp g0 N Q F st m (x + s_sz kd) (d - s_tk kd + s_gv kd)) := by
  unfold nX12_ofArrays
  by_cases c : kd = 191
  · have u : nI kd = (191 : Int32) := by rw [c]; rfl
    rw [if_pos u]
    exact k.a16 (a := 0) hm8 hd hk (by decide) ht
  · have u : ¬ nI kd = (191 : Int32) := fun q => c ((eqi (b := 191) (by omega) (by decide)).mp q)
    obtain ⟨a1, a2, a3⟩ := ha c
    have hc : nX12_codeAt (1 : Int32) g = some (g0 304 (4001 * m + (x + 1)), g) := k.code (by omega) (i := 1) (by omega)
    rw [if_neg u, hc, hm_bd_s, a2]
    exact k.a16 hm8 hd hk a1 ht
