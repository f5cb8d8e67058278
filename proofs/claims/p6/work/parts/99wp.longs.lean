/-! TOLD, EXACTLY: how many jumps are long -/
theorem Pq.mv {σ β : Type} {x : Option σ} {f : σ → Option β} {Q : σ → Prop} {P : β → Prop} (h : Pq x Q) (k : ∀ s, Q s → Pq (f s) P) : Pq (hm_bv x f) P := by
  cases e : x with
  | none => exact Pq.n
  | some q => exact k q (h q e)
/-- the sum of f over the instructions from k on -/
def s_ws (c : Nat → Nat) (n : Nat) (f : Nat → Nat) : Nat → Nat → Nat
  | 0, _ => 0
  | d + 1, k => if k < n then f k + s_ws c n f d (k + s_sz (c k)) else 0
theorem s_ws_n {c f : Nat → Nat} {n : Nat} : ∀ (d k : Nat), n ≤ k → s_ws c n f d k = 0
  | 0, k, _ => rfl
  | d + 1, k, h => by
    rw [s_ws, if_neg (by omega)]
theorem s_ws_s {c f : Nat → Nat} {n d k : Nat} (h : k < n) : s_ws c n f (d + 1) k = f k + s_ws c n f d (k + s_sz (c k)) := by
  rw [s_ws, if_pos h]
theorem s_ws_u {c f : Nat → Nat} {l N n : Nat} (hc : s_chain c l N n) : ∀ (d k d' : Nat), n ≤ k + d → n ≤ k + d' → k ≤ n → s_B c k → s_ws c n f d k = s_ws c n f d' k
  | 0, k, d', h1, h2, hk, hB => by rw [s_ws_n 0 k (by omega), s_ws_n d' k (by omega)]
  | a + 1, k, d', h1, h2, hk, hB => by
    by_cases e : k = n
    · rw [s_ws_n (a + 1) k (by omega), s_ws_n d' k (by omega)]
    · obtain ⟨b, rfl⟩ : ∃ b, d' = b + 1 := ⟨d' - 1, by omega⟩
      have hok := hc k hB (by omega)
      have hs := s_isK_sz hok.1
      rw [s_ws_s (show k < n by omega), s_ws_s (show k < n by omega), s_ws_u hc a (k + s_sz (c k)) b (by omega) (by omega) hok.2.1 (s_B_next hB)]
theorem s_ws_t {c f : Nat → Nat} {l N n k : Nat} (hc : s_chain c l N n) (hB : s_B c k) (hk : k < n) : s_ws c n f n k = f k + s_ws c n f n (k + s_sz (c k)) := by
  have hok := hc k hB hk
  have hs := s_isK_sz hok.1
  obtain ⟨a, e⟩ : ∃ a, n = a + 1 := ⟨n - 1, by omega⟩
  have h1 : s_ws c n f (a + 1) k = f k + s_ws c n f a (k + s_sz (c k)) := s_ws_s hk
  rw [← e] at h1
  rw [h1, s_ws_u hc a (k + s_sz (c k)) n (by omega) (by omega) hok.2.1 (s_B_next hB)]
theorem s_ws_add {c f f' : Nat → Nat} {n : Nat} : ∀ (d k : Nat), s_ws c n (fun i => f i + f' i) d k = s_ws c n f d k + s_ws c n f' d k
  | 0, k => rfl
  | d + 1, k => by
    by_cases e : k < n
    · have ih := s_ws_add (c := c) (f := f) (f' := f') (n := n) d (k + s_sz (c k))
      have h1 : s_ws c n (fun i => f i + f' i) (d + 1) k = f k + f' k + s_ws c n (fun i => f i + f' i) d (k + s_sz (c k)) := s_ws_s e
      have h2 : s_ws c n f (d + 1) k = f k + s_ws c n f d (k + s_sz (c k)) := s_ws_s e
      have h3 : s_ws c n f' (d + 1) k = f' k + s_ws c n f' d (k + s_sz (c k)) := s_ws_s e
      omega
    · rw [s_ws_n _ _ (by omega), s_ws_n _ _ (by omega), s_ws_n _ _ (by omega)]
theorem s_ws_cg {c f f' : Nat → Nat} {n : Nat} (h : ∀ i, i < n → f i = f' i) : ∀ (d k : Nat), s_ws c n f d k = s_ws c n f' d k
  | 0, k => rfl
  | d + 1, k => by
    by_cases e : k < n
    · rw [s_ws_s e, s_ws_s e, h k e, s_ws_cg h d]
    · rw [s_ws_n _ _ (by omega), s_ws_n _ _ (by omega)]
theorem s_ws_le {c f : Nat → Nat} {n : Nat} (h : ∀ i, f i ≤ 1) : ∀ (d k : Nat), s_ws c n f d k ≤ d
  | 0, k => Nat.le_refl 0
  | d + 1, k => by
    by_cases e : k < n
    · have h1 := h k
      have ih := s_ws_le (c := c) (n := n) h d (k + s_sz (c k))
      rw [s_ws_s e]
      omega
    · rw [s_ws_n _ _ (by omega)]; omega
/-- the same sum, place by place -/
theorem lks_ws {c f : Nat → Nat} {B : Nat → Bool} {l N n : Nat} (hc : s_chain c l N n) (hB : ∀ i, i < n → (B i = true ↔ s_B c i)) : ∀ (d p nb F : Nat), p + d = n → p ≤ nb → nb ≤ n → s_B c nb → (∀ i, p ≤ i → i < nb → ¬ s_B c i) → n ≤ nb + F → lks B f d p = s_ws c n f F nb
  | 0, p, nb, F, h1, h2, h3, hb, hg, hF => by
    rw [s_ws_n F nb (by omega)]; rfl
  | d + 1, p, nb, F, h1, h2, h3, hb, hg, hF => by
    show (if B p = true then f p else 0) + lks B f d (p + 1) = _
    by_cases e : p = nb
    · subst e
      obtain ⟨F', rfl⟩ : ∃ F', F = F' + 1 := ⟨F - 1, by omega⟩
      have hok := hc p hb (by omega)
      have hs := s_isK_sz hok.1
      rw [if_pos ((hB p (by omega)).mpr hb), s_ws_s (show p < n by omega), lks_ws hc hB d (p + 1) (p + s_sz (c p)) F' (by omega) (by omega) hok.2.1 (s_B_next hb) (fun i i1 i2 => s_B_gap hb (by omega) i2) (by omega)]
    · have z : ¬ B p = true := fun z => hg p (Nat.le_refl _) (by omega) ((hB p (by omega)).mp z)
      rw [if_neg z, Nat.zero_add]
      exact lks_ws hc hB d (p + 1) nb F (by omega) (by omega) h3 hb (fun i i1 i2 => hg i (by omega) i2) hF
theorem lks_0 {c f : Nat → Nat} {B : Nat → Bool} {l N n : Nat} (hc : s_chain c l N n) (hB : ∀ i, i < n → (B i = true ↔ s_B c i)) : lks B f n 0 = s_ws c n f n 0 :=
  lks_ws hc hB n 0 0 n (by omega) (Nat.le_refl _) (Nat.zero_le _) (s_B_0 c) (fun i _ i2 => absurd i2 (Nat.not_lt_zero _)) (by omega)
/-! what put() counts -/
theorem p_144 {v5 v6 : Int32} {g : hm} : Pq (njX12_putJump_144 v5 v6 g) (fun q => Fr [311] g q) := by
  unfold njX12_putJump_144
  refine Pq.ck (Pq.ck (Pq.mv (Q := fun s => Fr [311] g s) (Pq.s ((Fr.rf.w (by decide)).w (by decide))) fun s hs => Pq.ck (Pq.s (hs.w (by decide)))))
theorem p_70 {v5 v6 s0 s1 : Int32} {g : hm} : Pq (njX12_putJump_70 v5 v6 s0 s1 g) (fun q => Fr [311] g q) := by
  unfold njX12_putJump_70
  exact Pq.ck (Pq.ck (Pq.s ((Fr.rf.w (by decide)).w (by decide))))
theorem p_117 {v5 v6 s0 s1 : Int32} {g : hm} : Pq (njX12_putJump_117 v5 v6 s0 s1 g) (fun q => Fr [285, 311] g q ∧ q 285 31 = g 285 31 + nI 1) := by
  unfold njX12_putJump_117
  refine Pq.ck (Pq.ck fun q e => ?_)
  have F := p_144 q e
  have F2 : Fr [285, 311] g (hm_w (hm_w (hm_w g 311 s1.toNatClampNeg s0) 311 (v5 + (1 : Int32)).toNatClampNeg (5 : Int32)) 285 31 (((hm_w (hm_w g 311 s1.toNatClampNeg s0) 311 (v5 + (1 : Int32)).toNatClampNeg (5 : Int32)) 285 31) + (1 : Int32))) := ((Fr.rf.w (by decide)).w (by decide)).w (by decide)
  refine ⟨F2.trans (F.mono (by decide)), ?_⟩
  have e285 := congrFun (F 285 (by decide)) 31
  rw [e285, hm_w_eq, hm_w_ne (by decide), hm_w_ne (by decide)]
  rfl
theorem lbk_le (c : Nat → Nat) (far : Nat → Bool) (k : Nat) : lbk c far k ≤ 1 := by
  unfold lbk
  split <;> omega
theorem ljk_le (c : Nat → Nat) (far : Nat → Bool) (k : Nat) : ljk c far k ≤ 1 := by
  unfold ljk
  split <;> omega
theorem p_none {g q : hm} {k : Nat} (F : Fr [311] g q) (z : k = 0) : Fr [285, 311] g q ∧ q 285 31 = g 285 31 + nI k := by
  refine ⟨F.mono (by decide), ?_⟩
  rw [z, F 285 (by decide)]
  exact (Int32.add_zero _).symm
theorem p_putJump {g : hm} {m n h k l N : Nat} {c R : Nat → Nat} {far : Nat → Bool} {v : Int32} (x : s_G g m n h c R) (hM : s_Mt n l N h c R) (hk : k < n) (hB : s_B c k) (hj : s_isJ (c k) = true) (hfar : g 310 k = s_bI (far k)) : Pq (nX12_putJump (nI m) (nI k) v g) (fun q => Fr [285, 311] g q ∧ q 285 31 = g 285 31 + nI (lbk c far k)) := by
  have hn := x.2.1
  obtain ⟨k1, k2⟩ := q_kindAt x hk
  obtain ⟨l1, l2, l3⟩ := q_leads x hM hk hB hj
  unfold nX12_putJump
  rw [k1, hm_bd_s, l1, hm_bd_s]
  refine Pq.ck ?_
  unfold njX12_putJump_40
  rw [cl (show k < 2147483648 by omega), hfar]
  by_cases hc : c k < 167
  · have u : ¬ (167 : Int32) ≤ nI (c k) := fun q => absurd ((lei (a := 167) (by decide) (by omega)).mp q) (by omega)
    rw [if_neg u]
    refine Pq.ck ?_
    by_cases hf : far k = true
    · have uf : ¬ s_bI (far k) = 0 := by rw [hf]; decide
      have lb : lbk c far k = 1 := by
        unfold lbk
        rw [if_pos ⟨hj, hf, hc⟩]
      rw [if_neg uf, if_neg i1_ne, lb]
      exact Pq.ck (Pq.br p_117 p_117)
    · have uf : s_bI (far k) = 0 := (s_bI_0 _).mpr (by simpa using hf)
      have lb : lbk c far k = 0 := by
        unfold lbk
        rw [if_neg (fun q => hf q.2.1)]
      rw [if_pos uf, if_neg i1_ne]
      exact fun q e => p_none (p_70 q e) lb
  · have u : (167 : Int32) ≤ nI (c k) := (lei (a := 167) (by decide) (by omega)).mpr (by omega)
    have lb : lbk c far k = 0 := by
      unfold lbk
      rw [if_neg (fun q => hc q.2.2)]
    have z0 : (0 : Int32) = 0 := rfl
    rw [if_pos u]
    refine Pq.ck ?_
    by_cases hf : far k = true
    · have uf : ¬ s_bI (far k) = 0 := by rw [hf]; decide
      rw [if_neg uf, if_pos z0]
      exact fun q e => p_none (p_144 q e) lb
    · have uf : s_bI (far k) = 0 := (s_bI_0 _).mpr (by simpa using hf)
      rw [if_pos uf, if_pos z0]
      exact fun q e => p_none (p_70 q e) lb
theorem p_158 : ∀ (f : Nat) (v1 v2 v3 v4 v5 v6 : Int32) (g : hm), Pq (nlX12_put_158 f v1 v2 v3 v4 v5 v6 g) (fun q => Fr [311] g q)
  | 0, v1, v2, v3, v4, v5, v6, g => Pq.n
  | f + 1, v1, v2, v3, v4, v5, v6, g => by
    rw [nlX12_put_158_s, qz_size, hm_bd_s]
    refine Pq.br (Pq.s Fr.rf) (Pq.ck (Pq.ck ?_))
    rw [hm_bv_s]
    exact fun q e => Fr.trans (Fr.rf.w (by decide)) (p_158 f _ _ _ _ _ _ _ q e)
theorem p_64 : ∀ (f : Nat) (v1 v2 v3 v4 v5 v6 v7 : Int32) (g : hm), Pq (nlX12_put_64 f v1 v2 v3 v4 v5 v6 v7 g) (fun q => Fr [311] g q)
  | 0, v1, v2, v3, v4, v5, v6, v7, g => Pq.n
  | f + 1, v1, v2, v3, v4, v5, v6, v7, g => by
    rw [nlX12_put_64_s]
    refine Pq.br (Pq.s Fr.rf) (Pq.ck ?_)
    rw [hm_bv_s]
    exact fun q e => Fr.trans (Fr.rf.w (by decide)) (p_64 f _ _ _ _ _ _ _ _ q e)
theorem p_128 {Q : hm → Prop} (rec : Int32 → hm → Option hm) {g : hm} {m n h k l N : Nat} {c R : Nat → Nat} {far : Nat → Bool} {v2 : Int32} (x : s_G g m n h c R) (hM : s_Mt n l N h c R) (hk : k < n) (hB : s_B c k) (hfar : g 310 k = s_bI (far k)) (hrec : ∀ g', Fr [285, 311] g g' → g' 285 31 = g 285 31 + nI (lbk c far k) → Pq (rec (nI (k + s_sz (c k))) g') Q) : Pq (njX12_put_128 rec (nI m) v2 (nI k) (nI (c k)) g) Q := by
  obtain ⟨k1, k2⟩ := q_kindAt x hk
  unfold njX12_put_128 njX12_put_199
  refine Pq.ck ?_
  rw [q_isJump k2, hm_bd_s]
  have fin : ∀ s, (Fr [285, 311] g s ∧ s 285 31 = g 285 31 + nI (lbk c far k)) → Pq (hm_bd (nX12_size (nI (c k)) s) fun r14 g13 => rec (nI k + r14) g13) Q := fun s hs => by
    rw [q_size k2, hm_bd_s, nI_add]; exact hrec s hs.1 hs.2
  by_cases hj : s_isJ (c k) = true
  · have u : ¬ s_bI (s_isJ (c k)) = 0 := by rw [hj]; decide
    rw [if_neg u]
    exact Pq.mv (p_putJump x hM hk hB hj hfar) fin
  · have u : s_bI (s_isJ (c k)) = 0 := (s_bI_0 _).mpr (by simpa using hj)
    have lb : lbk c far k = 0 := by
      unfold lbk
      rw [if_neg (fun q => hj q.1)]
    rw [if_pos u]
    exact Pq.mv (p_158 _ _ _ _ _ _ _ _) fun s hs => fin s (p_none hs lb)
theorem p_106 {Q : hm → Prop} (rec : Int32 → hm → Option hm) {g : hm} {m n h k l N : Nat} {c R : Nat → Nat} {far : Nat → Bool} {v2 v5 : Int32} (x : s_G g m n h c R) (hM : s_Mt n l N h c R) (hk : k < n) (hB : s_B c k) (hfar : g 310 k = s_bI (far k)) (hrec : ∀ g', Fr [285, 311] g g' → g' 285 31 = g 285 31 + nI (lbk c far k) → Pq (rec (nI (k + s_sz (c k))) g') Q) : Pq (njX12_put_106 rec (nI m) v2 (nI k) (nI (c k)) v5 g) Q := by
  unfold njX12_put_106
  refine Pq.br (p_128 rec x hM hk hB hfar hrec) (Pq.br (Pq.ck ?_) (p_128 rec x hM hk hB hfar hrec))
  have F : Fr [311] g (hm_w g 311 v5.toNatClampNeg (203 : Int32)) := Fr.rf.w (by decide)
  exact p_128 (far := far) rec (x.fr F (by decide) (by decide) (by decide) (by decide)) hM hk hB (by rw [F 310 (by decide)]; exact hfar) fun g' F' e => hrec g' ((F.mono (by decide)).trans F') (by rw [e, F 285 (by decide)])
theorem p_7 {m n h l N : Nat} {c R P : Nat → Nat} {b far : Nat → Bool} (hM : s_Mt n l N h c R) (pd : Bool) : ∀ (f d k : Nat) (g : hm), n ≤ k + d → k ≤ n → s_B c k → s_G g m n h c R → s_Pr g P → s_Bb g n b → s_Far g n far → Pq (nlX12_put_7 f (nI m) (s_bI pd) (nI k) g) (fun q => q 285 31 = g 285 31 + nI (s_ws c n (lbk c far) d k))
  | 0, d, k, g, _, _, _, _, _, _, _ => Pq.n
  | f + 1, d, k, g, hd, hkn, hB, x, hP, hb, hfar => by
    have x' := x
    obtain ⟨hm8, hn, hh, gn, gh, hC, hR⟩ := x
    rw [nlX12_put_7_s, if_pos (hin hm8 (by decide)), cl (show m < 2147483648 by omega), gn]
    by_cases e : k = n
    · rw [if_pos ((lei (by omega) (by omega)).mpr (by omega)), s_ws_n d k (by omega)]
      exact Pq.s (Int32.add_zero _).symm
    have hk : k < n := by omega
    have hok := hM.2.2.2.2.1 k hB hk
    have hs := s_isK_sz hok.1
    obtain ⟨k1, k2⟩ := q_kindAt x' hk
    obtain ⟨d', rfl⟩ : ∃ d', d = d' + 1 := ⟨d - 1, by omega⟩
    rw [if_neg (fun q => absurd ((lei (by omega) (by omega)).mp q) (by omega)), k1, hm_bd_s]
    refine Pq.ck ?_
    rw [q_paidAt hM x' hP hb hk hB pd, hm_bd_s]
    have go : ∀ (v5 : Int32) (g1 : hm), Fr [311] g g1 → Pq (njX12_put_106 (fun y0 g => nlX12_put_7 f (nI m) (s_bI pd) y0 g) (nI m) (s_bI pd) (nI k) (nI (c k)) v5 g1) (fun q => q 285 31 = g 285 31 + nI (s_ws c n (lbk c far) (d' + 1) k)) := by
      intro v5 g1 F1
      refine p_106 (far := far) _ (x'.fr F1 (by decide) (by decide) (by decide) (by decide)) hM hk hB (by rw [F1 310 (by decide)]; exact hfar k hk) fun g' F' e' => ?_
      have F2 : Fr [285, 311] g g' := (F1.mono (by decide)).trans F'
      intro q eq
      have ih : q 285 31 = g' 285 31 + nI (s_ws c n (lbk c far) d' (k + s_sz (c k))) := p_7 (P := P) (b := b) hM pd f d' (k + s_sz (c k)) g' (by omega) hok.2.1 (s_B_next hB) (x'.fr F2 (by decide) (by decide) (by decide) (by decide)) (hP.fr F2 (by decide)) (hb.fr F2 (by decide)) (fun i hi => by rw [F2 310 (by decide)]; exact hfar i hi) q eq
      show q 285 31 = _
      rw [ih, e', F1 285 (by decide), s_ws_s hk, Int32.add_assoc, nI_add]
    refine Pq.br (go _ g Fr.rf) ?_
    obtain ⟨s1, s2⟩ := q_sum hM x' hP hb hk hB
    rw [s1, hm_bd_s]
    refine Pq.ck (Pq.mv (p_64 _ _ _ _ _ _ _ _ _) fun g2 F2 => go _ g2 ?_)
    exact Fr.trans (Fr.rf.w (by decide)) F2
/-- put(): how many tests are long -/
theorem p_put {g : hm} {m n h l N : Nat} {c R P : Nat → Nat} {b far : Nat → Bool} (hM : s_Mt n l N h c R) (pd : Bool) (x : s_G g m n h c R) (hP : s_Pr g P) (hb : s_Bb g n b) (hfar : s_Far g n far) : Pq (nX12_put (nI m) (s_bI pd) g) (fun q => q 285 31 = nI (s_ws c n (lbk c far) n 0)) := by
  unfold nX12_put
  have F1 : Fr [285] g (hm_w g 285 31 (0 : Int32)) := Fr.rf.w (by decide)
  refine Pq.mv (p_7 (b := b) (far := far) (P := P) hM pd hs_N n 0 _ (by omega) (by omega) (s_B_0 c) (x.fr F1 (by decide) (by decide) (by decide) (by decide)) (hP.fr F1 (by decide)) (hb.fr F1 (by decide)) (fun i hi => by rw [F1 310 (by decide)]; exact hfar i hi)) fun q hq => Pq.s ?_
  have hq' : q 285 31 = hm_w g 285 31 (0 : Int32) 285 31 + nI (s_ws c n (lbk c far) n 0) := hq
  show q 285 31 = _
  rw [hq', hm_w_eq, Int32.zero_add]
/-- the long tests of method z, as they were counted -/
def s_Lg (g : hm) (z n h : Nat) (c R P : Nat → Nat) : Prop := ∃ (b far : Nat → Bool) (S : Nat → Nat), (∀ i, i ≤ n → (b i = true ↔ s_bl c n h R i)) ∧ s_Lo c (s_pl P c n b true) n far S ∧ g 307 z = nI (s_ws c n (lbk c far) n 0)
theorem s_Lg.fr {g g' : hm} {z n h : Nat} {c R P : Nat → Nat} (x : s_Lg g z n h c R P) (e : g' 307 z = g 307 z) : s_Lg g' z n h c R P := by
  obtain ⟨b, far, S, h1, h2, h3⟩ := x
  exact ⟨b, far, S, h1, h2, e.trans h3⟩
set_option maxHeartbeats 1000000 in
theorem q_w19L {N : Nat} {p l n h : Nat → Nat} {c R : Nat → Nat → Nat} {P : Nat → Nat} (y : s_VF N p l n h c R) : ∀ (d m f all : Nat) (g : hm), m + d = N → d < f → s_F g N p l n h c R → s_Pr g P → (∀ z, z < m → s_Lg g z (n z) (h z) (c z) (R z) P) →
    Tq (nlX12_rewrite_19 f (nI all) (nI m) g) (fun q => q.1 = 0 → ∀ z, z < N → s_Lg q.2.2.2 z (n z) (h z) (c z) (R z) P)
  | d, m, 0, all, g, _, hf => absurd hf (Nat.not_lt_zero _)
  | 0, m, f + 1, all, g, hm0, _ => by
    intro x hP hW
    have hN := y.2.1
    rw [nlX12_rewrite_19_s, x.1, if_pos ((lei (by omega) (by omega)).mpr (by omega))]
    exact Tq.some fun _ z hz => hW z (by omega)
  | d + 1, m, f + 1, all, g, hm0, hf => by
    intro x hP hW
    have hN := y.2.1
    obtain ⟨G, M⟩ := x.g y (show m < N by omega)
    have hn := G.2.1
    have e0 : (0 : Int32) = nI 0 := rfl
    rw [nlX12_rewrite_19_s, x.1, if_neg (fun q => absurd ((lei (by omega) (by omega)).mp q) (by omega))]
    refine Tq.bd ((q_lay G M hP true).mono fun q1 h1 => ?_)
    obtain ⟨F1, b, far, S, hb, hbl, hfar, hLo, hLr, h308, hSb, hr⟩ := h1
    have hnB := s_chain_n M.2.2.2.2.1 (n m) 0 (by omega) (by omega) (s_B_0 (c m))
    have hSn := hSb (n m) hnB (Nat.le_refl _)
    rw [hr]
    by_cases c1 : S (n m) ≤ 4000
    rotate_left
    · have u : ¬ nI (S (n m)) ≤ (4000 : Int32) := fun q => c1 ((lei (b := 4000) (by omega) (by decide)).mp q)
      rw [if_neg u]
      exact Tq.some fun z => absurd z (show ¬ (1 : Nat) = 0 by decide)
    have u : nI (S (n m)) ≤ (4000 : Int32) := (lei (b := 4000) (by omega) (by decide)).mpr c1
    rw [if_pos u]
    have G1 := G.fr F1 (by decide) (by decide) (by decide) (by decide)
    refine Tq.bv (((q_put M true hLo.1 hSb G1 (hP.fr F1 (by decide)) hb hfar hLr).pq (p_put M true G1 (hP.fr F1 (by decide)) hb hfar)).mono fun q2 h2 => ?_)
    obtain ⟨⟨F2, O2, V2⟩, e31⟩ := h2
    have hi : hs_in (nI m) 8 = true := hin (by omega) (by decide)
    rw [if_pos hi, if_pos hi, cl (show m < 2147483648 by omega), nI_add]
    generalize hg3 : hm_w (hm_w q2 307 m (q2 285 31)) 305 m (nI (S (n m))) = g3
    have F3 : Fr [305, 307] q2 g3 := by rw [← hg3]; exact (Fr.rf.w (by decide)).w (by decide)
    have O3 : Fo [31] q2 g3 := Fo.of F3 (by decide)
    have A3 : ∀ i, g3 307 i = if i = m then q2 285 31 else q2 307 i := fun i => by rw [← hg3, hm_w_ne (by decide), hm_w_at]
    rw [e0]
    refine Tq.bv ((q_w76 (m := m) (e := S (n m)) (by omega) c1 (nI (all + S (n m))) (S (n m)) 0 hs_N g3 (by omega) (by unfold hs_N; omega)).mono fun q4 h4 => ?_)
    obtain ⟨F4, V4, W4⟩ := h4
    have FA : Fr [285, 294, 304, 305, 306, 307, 308, 309, 310, 311] g q4 := (((F1.mono (by decide)).trans (F2.mono (by decide))).trans (F3.mono (by decide))).trans (F4.mono (by decide))
    have G4 := G.fr FA (by decide) (by decide) (by decide) (by decide)
    refine Tq.bv ((q_w111 (fun z hz i hi => (M.r3 hz hi).1) (nI (all + S (n m))) (h m) 0 hs_N q4 (by omega) (by have := G.2.2.1; unfold hs_N; omega) G4).mono fun q5 h5 => ?_)
    obtain ⟨F5, V5, W5⟩ := h5
    have FB : Fr [285, 294, 304, 305, 306, 307, 308, 309, 310, 311] g q5 := FA.trans (F5.mono (by decide))
    have OB : Fo [31] g q5 := (((Fo.of F1 (by decide)).trans O2).trans O3).trans ((Fo.of F4 (by decide)).trans (Fo.of F5 (by decide)))
    have x5 : s_F q5 N p l n h c R := x.fr FB (OB 4 (by decide)) (by decide)
    rw [nI_1]
    refine q_w19L y d (m + 1) f (all + S (n m)) q5 (by omega) (by omega) x5 (hP.fr FB (by decide)) (fun z hz => ?_)
    by_cases ez : z = m
    · subst ez
      refine ⟨b, far, S, hbl, hLo, ?_⟩
      rw [F5 307 (by decide), F4 307 (by decide), A3, if_pos rfl]
      exact e31
    · refine (hW z (by omega)).fr ?_
      rw [F5 307 (by decide), F4 307 (by decide), A3, if_neg ez, F2 307 (by decide), F1 307 (by decide)]
/-- rewrite() of the reference: the long tests are counted -/
theorem q_rewriteL {g : hm} {t : Nat} {u P : Nat → Nat} (h3 : ¬ g 285 3 = 0) (hac : s_AC u t) (hF : s_Fu g u) (hP : s_Pr g P) :
    Tq (nX12_rewrite g) (fun q => q.2 285 22 = 1 → ∀ m, m < u 0 → s_Lg q.2 m (s_n u (s_off u m)) (s_h u (s_off u m)) (s_c u (s_off u m)) (s_R u (s_off u m)) P) := by
  have x : s_F g (u 0) (s_par u) (fun m => u (s_off u m + 1)) (fun m => s_n u (s_off u m)) (fun m => s_h u (s_off u m)) (fun m => s_c u (s_off u m)) (fun m => s_R u (s_off u m)) := hF
  have y : s_VF (u 0) (s_par u) (fun m => u (s_off u m + 1)) (fun m => s_n u (s_off u m)) (fun m => s_h u (s_off u m)) (fun m => s_c u (s_off u m)) (fun m => s_R u (s_off u m)) := hac.v
  have hN := y.2.1
  unfold nX12_rewrite
  rw [if_neg h3]
  generalize hg1 : hm_w g 285 22 (0 : Int32) = g1
  have F1 : Fr [285] g g1 := by rw [← hg1]; exact Fr.rf.w (by decide)
  have O1 : Fo [22, 31] g g1 := by rw [← hg1]; exact Fo.rf.w (by decide)
  have a22 : g1 285 22 = 0 := by rw [← hg1, hm_w_eq]
  have x1 := x.fr F1 (O1 4 (by decide)) (by decide)
  have e0 : (0 : Int32) = nI 0 := rfl
  rw [e0]
  refine Tq.b4 (((q_w19 (P := P) y (u 0) 0 hs_N 0 g1 (by omega) (by unfold hs_N; omega) x1 (hP.fr F1 (by decide)) (fun z hz => absurd hz (Nat.not_lt_zero z))).and (q_w19L (P := P) y (u 0) 0 hs_N 0 g1 (by omega) (by unfold hs_N; omega) x1 (hP.fr F1 (by decide)) (fun z hz => absurd hz (Nat.not_lt_zero z)))).mono fun q hq => ?_)
  obtain ⟨⟨F2, O2, -⟩, hL⟩ := hq
  by_cases q0 : q.1 = 0
  · rw [if_pos q0]
    refine Tq.some fun _ m hm0 => (hL q0 m hm0).fr ?_
    show hm_w q.2.2.2 285 22 (1 : Int32) 307 m = _
    rw [hm_w_ne (by decide)]
  · rw [if_neg q0]
    refine Tq.some fun z => ?_
    have z' : q.2.2.2 285 22 = 1 := z
    rw [O2 22 (by decide), a22] at z'
    exact absurd z' (by decide)
