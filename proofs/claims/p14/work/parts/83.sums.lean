/-! LAYOUT: THE SUMS -/
theorem gk_89 : gm_k 89 = 7 := by decide +kernel
theorem gk_95 : gm_k 95 = 4 ∧ gm_k 96 = 100 ∧ gm_n 96 = 2000 ∧ gm_k 97 = 100 ∧ gm_n 97 = 2001 ∧ gm_k 98 = 100 ∧ gm_n 98 = 2000 ∧ gm_k 99 = 100 ∧ gm_n 99 = 2000 := by decide +kernel
def LR (R : Nat → Nat → Nat) : Prop := R 95 0 = 97 ∧ R 95 1 = 98 ∧ R 95 2 = 99 ∧ R 95 3 = 100
/-- the prices of the class -/
def pP (s : hs_S) (P : Nat → Nat) : Prop := ∀ k, k < 256 → hs_I s 90 k = nI (P k)
theorem x_of {s : hs_S} {P : Nat → Nat} {k : Nat} (w : WT s) (hP : pP s P) (hk : k < 256) : fX8_of 89 (nI k) s = some (nI (P k), s) := by
  obtain ⟨f1, f2⟩ := w.f7_0 gk_89
  unfold fX8_of
  rw [if_pos (w.k gk_89), if_pos f1, f2, yf_at w gm_k_90 (by rw [gk_90n]; exact hk), hs_bd_s, hP k hk]
/-- the sum from k0 on, place by place -/
def s_pw (P c : Nat → Nat) (B b : Nat → Bool) (k0 : Nat) : Nat → Nat → Nat
  | 0, _ => 0
  | d + 1, p => if k0 < p ∧ b p = true then 0 else (if B p = true then P (c p) else 0) + s_pw P c B b k0 d (p + 1)
theorem s_pw_skip {P c : Nat → Nat} {B b : Nat → Bool} {k0 : Nat} : ∀ (m d p : Nat), m ≤ d → (∀ i, p ≤ i → i < p + m → B i = false ∧ b i = false) → s_pw P c B b k0 d p = s_pw P c B b k0 (d - m) (p + m)
  | 0, d, p, _, _ => rfl
  | m + 1, 0, p, h, _ => absurd h (by omega)
  | m + 1, d + 1, p, h, hi => by
    obtain ⟨h1, h2⟩ := hi p (Nat.le_refl _) (by omega)
    rw [s_pw, if_neg (fun q => by rw [h2] at q; exact absurd q.2 (by decide)), if_neg (by rw [h1]; decide), Nat.zero_add, s_pw_skip m d (p + 1) (by omega) (fun i i1 i2 => hi i (by omega) (by omega)), show d + 1 - (m + 1) = d - m by omega, show p + 1 + m = p + (m + 1) by omega]
theorem s_pw_su {P c : Nat → Nat} {B b : Nat → Bool} {k0 n l N : Nat} (hch : s_chain c l N n) (hB : ∀ i, i < n → (B i = true ↔ s_B c i)) (hb : ∀ i, i < n → b i = true → s_B c i) : ∀ (f p d : Nat), p + d = n → s_B c p → p < n → d ≤ f → k0 ≤ p → ¬ (k0 < p ∧ b p = true) → s_pw P c B b k0 d p = s_su P c n b f p
  | 0, p, d, h1, _, h2, h3, _, _ => absurd h1 (by omega)
  | f + 1, p, d, h1, hp, h2, h3, h4, h5 => by
    obtain ⟨d, rfl⟩ : ∃ d', d = d' + 1 := ⟨d - 1, by omega⟩
    have hok := hch p hp h2
    have hs := s_isK_sz hok.1
    have hle := hok.2.1
    have gap : ∀ i, p + 1 ≤ i → i < p + 1 + (s_sz (c p) - 1) → B i = false ∧ b i = false := by
      intro i i1 i2
      have ng := s_B_gap hp (show p < i by omega) (by omega)
      constructor
      · cases q : B i
        · rfl
        · exact absurd ((hB i (by omega)).mp q) ng
      · cases q : b i
        · rfl
        · exact absurd (hb i (by omega) q) ng
    rw [s_pw, if_neg h5, if_pos ((hB p h2).mpr hp), s_pw_skip (s_sz (c p) - 1) d (p + 1) (by omega) gap, s_su]
    congr 1
    rw [show p + 1 + (s_sz (c p) - 1) = p + s_sz (c p) by omega]
    by_cases c1 : p + s_sz (c p) < n
    · rw [if_pos c1]
      by_cases c2 : b (p + s_sz (c p)) = true
      · rw [if_pos c2]
        obtain ⟨e, he⟩ : ∃ e, d - (s_sz (c p) - 1) = e + 1 := ⟨d - (s_sz (c p) - 1) - 1, by omega⟩
        rw [he, s_pw, if_pos ⟨by omega, c2⟩]
      · rw [if_neg c2]
        exact s_pw_su hch hB hb f (p + s_sz (c p)) _ (by omega) (s_B_next hp) c1 (by omega) (by omega) (fun q => c2 q.2)
    · rw [if_neg c1, show d - (s_sz (c p) - 1) = 0 by omega]
      rfl
theorem x_sum5 {M a n k0 : Nat} {e P c : Nat → Nat} {s : hs_S} (w : WT s) (v : mv s M a n e) (hc : ∀ i, i < n → e i % 256 = c i) (hP : pP s P) (hk0 : k0 < n) : ∀ (d p f acc : Nat), p + d = n → d < f → k0 ≤ p → Tq (lX7_sumFrom_5 f M (nI k0) 89 (nI acc) (nI p) s) (fun q => q.2.2 = s ∧ q.2.1 = nI (acc + s_pw P c (fun i => eB (e i)) (fun i => eK (e i)) k0 d p))
  | d, p, 0, acc, _, hf, _ => absurd hf (Nat.not_lt_zero _)
  | 0, p, f + 1, acc, hp, _, _ => by
    have lt := (v.lt w).1
    rw [lX7_sumFrom_5, if_pos (w.k v.1), v.2.2.1, if_pos ((lei (by omega) (by omega)).mpr (by omega))]
    exact Tq.some ⟨rfl, rfl⟩
  | d + 1, p, f + 1, acc, hp, hf, hk => by
    have lt := (v.lt w).1
    have h0 : p < n := by omega
    have hcp : c p < 256 := by rw [← hc p h0]; omega
    have on : ¬ (k0 < p ∧ eK (e p) = true) → Tq (jX7_sumFrom_32 (fun y0 y1 g => lX7_sumFrom_5 f M (nI k0) 89 y0 y1 g) M (nI k0) 89 (nI acc) (nI p) s) (fun q => q.2.2 = s ∧ q.2.1 = nI (acc + s_pw P c (fun i => eB (e i)) (fun i => eK (e i)) k0 (d + 1) p)) := by
      intro hb
      unfold jX7_sumFrom_32 jX7_sumFrom_54
      rw [if_pos (w.k v.1), x_beg_in w v h0, hs_bd_s, s_pw, if_neg hb]
      cases cB : eB (e p)
      · rw [if_pos (by decide), if_neg (by decide), nI_1, Nat.zero_add]
        exact x_sum5 w v hc hP hk0 d (p + 1) f acc (by omega) (by omega) (by omega)
      · rw [if_neg (by decide), if_pos rfl, if_pos (w.k v.1), x_val_in w v h0, hc p h0, hs_bd_s, if_pos (w.k gk_89), x_of w hP hcp, hs_bd_s, nI_add, nI_1, ← Nat.add_assoc]
        exact x_sum5 w v hc hP hk0 d (p + 1) f (acc + P (c p)) (by omega) (by omega) (by omega)
    rw [lX7_sumFrom_5, if_pos (w.k v.1), v.2.2.1, if_neg (fun q => absurd ((lei (by omega) (by omega)).mp q) (by omega))]
    by_cases c1 : p ≤ k0
    · rw [if_pos ((lei (by omega) (by omega)).mpr c1)]
      exact on fun q => absurd q.1 (by omega)
    · rw [if_neg (fun q => c1 ((lei (by omega) (by omega)).mp q)), x_blk_in w v h0, hs_bd_s]
      cases cK : eK (e p)
      · rw [if_pos (by decide)]
        exact on fun q => by rw [cK] at q; exact absurd q.2 (by decide)
      · rw [if_neg (by decide)]
        refine Tq.some ⟨rfl, ?_⟩
        show nI acc = _
        rw [s_pw, if_pos ⟨by omega, cK⟩, Nat.add_zero]
/-- sumFrom(), at the beginning of a block -/
theorem x_sum {M a n l N k0 : Nat} {e P c : Nat → Nat} {B : Nat → Prop} {s : hs_S} (w : WT s) (v : mv s M a n e) (hc : cl1 c e n B) (hBb : ∀ i, i < n → B i → s_B c i) (hch : s_chain c l N n) (hP : pP s P) (hk0 : k0 < n) (hB0 : s_B c k0) : fX7_sumFrom M (nI k0) 89 s = some (nI (s_sum P c n (fun i => eK (e i)) k0), s) := by
  have lt := (v.lt w).1
  obtain ⟨⟨t, x, q⟩, E, e1, e2⟩ := x_sum5 w v (fun i hi => (hc i hi).1) hP hk0 (n - k0) k0 hs_N 0 (by omega) (by unfold hs_N; omega) (Nat.le_refl _)
  have e1' : q = s := e1
  have e2' : x = nI (0 + s_pw P c (fun i => eB (e i)) (fun i => eK (e i)) k0 (n - k0) k0) := e2
  rw [Nat.zero_add, s_pw_su hch (fun i hi => (hc i hi).2.1) (fun i hi z => hBb i hi ((hc i hi).2.2.mp z)) n k0 (n - k0) (by omega) hB0 hk0 (by omega) (Nat.le_refl _) (fun z => absurd z.1 (Nat.lt_irrefl _))] at e2'
  have E' : lX7_sumFrom_5 hs_N M (nI k0) 89 (0 : Int32) (nI k0) s = some (t, x, q) := E
  unfold fX7_sumFrom
  rw [E', e1', e2']
  show (if t = 0 then some (nI (s_su P c n (fun i => eK (e i)) n k0), s) else some (nI (s_su P c n (fun i => eK (e i)) n k0), s)) = _
  split <;> rfl
/-- only the layout's own cells are written -/
def yF (s q : hs_S) : Prop := hs_R q = hs_R s ∧ ∀ b, (b < 95 ∨ 100 ≤ b) → hs_I q b = hs_I s b
theorem yF.rf {s : hs_S} : yF s s := ⟨rfl, fun _ _ => rfl⟩
theorem yF.tr {s q r : hs_S} (h : yF s q) (h' : yF q r) : yF s r := ⟨h'.1.trans h.1, fun b hb => (h'.2 b hb).trans (h.2 b hb)⟩
theorem yF.w {s q : hs_S} {a i : Nat} {z : Int32} (h : yF s q) (h1 : 95 ≤ a) (h2 : a < 100) : yF s (hs_wI q a i z) := ⟨h.1, fun b hb => (funext fun i => by rw [hs_I_w, if_neg (by omega)]).trans (h.2 b hb)⟩
theorem mv.yf {s q : hs_S} {M a n : Nat} {e : Nat → Nat} (v : mv s M a n e) (h : yF s q) (hM : M < 95) (hrow : hs_R s M 0 - 1 < 95) : mv q M a n e :=
  v.fr (by rw [h.2 M (Or.inl hM)]) (by rw [h.2 M (Or.inl hM)]) (by rw [h.1]) fun k _ => by rw [h.2 _ (Or.inl hrow)]
theorem ly_o {s : Nat} {b : Bool} {a i : Nat} {z : Int32} (h1 : 95 ≤ a) (h2 : a < 100) : oW s b a i z := by
  obtain ⟨g1, g2, -, g4, -, g6, -, g8, -⟩ := gk_95
  obtain e | e | e | e | e : a = 95 ∨ a = 96 ∨ a = 97 ∨ a = 98 ∨ a = 99 := by omega
  · rw [e]; exact oW.k g1 (by decide) (by decide) (by decide)
  · rw [e]; exact oW.a ⟨g2, by decide, by decide⟩
  · rw [e]; exact oW.a ⟨g4, by decide, by decide⟩
  · rw [e]; exact oW.a ⟨g6, by decide, by decide⟩
  · rw [e]; exact oW.a ⟨g8, by decide, by decide⟩
/-- the sums that are paid -/
def sm (P c : Nat → Nat) (n : Nat) (b : Nat → Bool) (pd : Bool) (k : Nat) : Nat := if pd = true ∧ b k = true then s_sum P c n b k else 0
theorem x_ts10 {M a n l N : Nat} {e P c : Nat → Nat} {B : Nat → Prop} (hM95 : M < 95) (hn : n ≤ 2000) (hc : cl1 c e n B) (hBb : ∀ i, i < n → B i → s_B c i) (hch : s_chain c l N n) : ∀ (d k f : Nat) (s : hs_S), k + d = n → d < f → WT s → LR (hs_R s) → mv s M a n e → hs_R s M 0 - 1 < 95 → pP s P → hs_I s 95 4 = 1 →
    Tq (lX5_takeSums_10 f 95 M 89 (nI k) s) (fun q => WT q ∧ yF s q ∧ hs_I q 95 = hs_I s 95 ∧ (∀ i, k ≤ i → i < n → eK (e i) = true → hs_I q 96 i = nI (s_sum P c n (fun i => eK (e i)) i)) ∧ ∀ i, ¬ (k ≤ i ∧ i < n ∧ eK (e i) = true) → hs_I q 96 i = hs_I s 96 i)
  | d, k, 0, s, _, hf, _, _, _, _, _, _ => absurd hf (Nat.not_lt_zero _)
  | 0, k, f + 1, s, hk, _, w, _, v, _, _, h4 => by
    have lt := (v.lt w).1
    rw [lX5_takeSums_10, if_pos (w.k gk_95.1), h4, if_neg (by decide), if_pos (w.k v.1), v.2.2.1, if_pos ((lei (by omega) (by omega)).mpr (by omega))]
    exact Tq.some ⟨w, yF.rf, rfl, fun i h1 h2 => absurd h2 (by omega), fun _ _ => rfl⟩
  | d + 1, k, f + 1, s, hk, hf, w, hL, v, hrow, hP, h4 => by
    have lt := (v.lt w).1
    have h0 : k < n := by omega
    have r0 : hs_R s 95 0 - 1 = 96 := by rw [hL.1]
    have r0n : ¬ hs_R s 95 0 = 0 := by rw [hL.1]; decide
    rw [lX5_takeSums_10, if_pos (w.k gk_95.1), h4, if_neg (by decide), if_pos (w.k v.1), v.2.2.1, if_neg (fun q => absurd ((lei (by omega) (by omega)).mp q) (by omega)), x_blk_in w v h0, hs_bd_s]
    unfold jX5_takeSums_47
    cases cK : eK (e k)
    · rw [if_pos (by decide), nI_1]
      refine (x_ts10 hM95 hn hc hBb hch d (k + 1) f s (by omega) (by omega) w hL v hrow hP h4).mono fun q hq => ?_
      obtain ⟨q1, q2, q3, q4, q5⟩ := hq
      refine ⟨q1, q2, q3, fun i i1 i2 i3 => ?_, fun i hi => ?_⟩
      · by_cases z : i = k
        · rw [z, cK] at i3; exact absurd i3 (by decide)
        · exact q4 i (by omega) i2 i3
      · exact q5 i fun z => hi ⟨by omega, z.2⟩
    · have hBk : s_B c k := hBb k h0 ((hc k h0).2.2.mp cK)
      have w1 : WT (hs_wI s 96 k (nI (s_sum P c n (fun i => eK (e i)) k))) := w.w (ly_o (s := 0) (b := false) (by omega) (by omega))
      have f1 : yF s (hs_wI s 96 k (nI (s_sum P c n (fun i => eK (e i)) k))) := yF.rf.w (by omega) (by omega)
      rw [if_neg (by decide), if_pos (w.k gk_95.1), if_pos r0n, if_pos (w.k v.1), x_sum w v hc hBb hch hP h0 hBk, hs_bd_s, r0, yf_put w gk_95.2.1 (by rw [gk_95.2.2.1]; omega)]
      show Tq (lX5_takeSums_10 f 95 M 89 (nI k + (1 : Int32)) (hs_wI s 96 k (nI (s_sum P c n (fun i => eK (e i)) k)))) _
      rw [nI_1]
      refine (x_ts10 hM95 hn hc hBb hch d (k + 1) f _ (by omega) (by omega) w1 hL (v.yf f1 hM95 hrow) hrow (fun z hz => by rw [f1.2 90 (by omega)]; exact hP z hz) (by rw [hs_I_w, if_neg (by decide)]; exact h4)).mono fun q hq => ?_
      obtain ⟨q1, q2, q3, q4, q5⟩ := hq
      refine ⟨q1, f1.tr q2, q3.trans (funext fun i => by rw [hs_I_w, if_neg (by decide)]), fun i i1 i2 i3 => ?_, fun i hi => ?_⟩
      · by_cases z : i = k
        · rw [q5 i (fun y => absurd y.1 (by omega)), hs_I_w, if_pos rfl, if_pos z, z]
        · exact q4 i (by omega) i2 i3
      · rw [q5 i (fun y => hi ⟨by omega, y.2⟩), hs_I_w, if_pos rfl, if_neg (fun y => hi ⟨by omega, by omega, by rw [y]; exact cK⟩)]
/-- takeSums() -/
theorem x_sums {M a n l N : Nat} {e P c : Nat → Nat} {B : Nat → Prop} {s : hs_S} {pd : Bool} (hM95 : M < 95) (hn : n ≤ 2000) (hc : cl1 c e n B) (hBb : ∀ i, i < n → B i → s_B c i) (hch : s_chain c l N n) (w : WT s) (hL : LR (hs_R s)) (v : mv s M a n e) (hrow : hs_R s M 0 - 1 < 95) (hP : pP s P) (h4 : hs_I s 95 4 = s_bI pd) :
    Tq (fX5_takeSums 95 M 89 s) (fun q => WT q ∧ yF s q ∧ hs_I q 95 = hs_I s 95 ∧ ∀ i, i < n → hs_I q 96 i = nI (sm P c n (fun i => eK (e i)) pd i)) := by
  have r0 : hs_R s 95 0 - 1 = 96 := by rw [hL.1]
  have r0n : ¬ hs_R s 95 0 = 0 := by rw [hL.1]; decide
  unfold fX5_takeSums
  rw [if_pos (w.k gk_95.1), if_pos r0n, r0]
  obtain ⟨q1, E1, ⟨w1, R1, b1⟩, p1⟩ := yf_fill (v1 := 0) gk_95.2.1 gk_95.2.2.1 w
  have f1 : yF s q1 := ⟨R1, fun b hb => b1 b (by omega)⟩
  have h95 : hs_I q1 95 = hs_I s 95 := b1 95 (by decide)
  rw [E1]
  show Tq (hs_bv (lX5_takeSums_10 hs_N 95 M 89 (0 : Int32) q1) _) _
  cases pd
  · have h40 : hs_I q1 95 4 = 0 := by rw [h95]; exact h4
    have E2 : lX5_takeSums_10 hs_N 95 M 89 (0 : Int32) q1 = some q1 := by
      show lX5_takeSums_10 (4294967295 + 1) 95 M 89 (0 : Int32) q1 = some q1
      rw [lX5_takeSums_10, if_pos (w1.k gk_95.1), if_pos h40]
    rw [E2]
    refine Tq.some ⟨w1, f1, h95, fun i hi => ?_⟩
    rw [p1 i (by omega)]
    unfold sm
    rw [if_neg (fun q => absurd q.1 (by decide))]
    rfl
  · have h41 : hs_I q1 95 4 = 1 := by rw [h95]; exact h4
    have e0 : (0 : Int32) = nI 0 := rfl
    rw [e0]
    obtain ⟨q2, E2, w2, f2, h952, s2, o2⟩ := x_ts10 (P := P) hM95 hn hc hBb hch n 0 hs_N q1 (by omega) (by unfold hs_N; omega) w1 (by rw [R1]; exact hL) (v.yf f1 hM95 hrow) (by rw [R1]; exact hrow) (fun z hz => by rw [f1.2 90 (by omega)]; exact hP z hz) h41
    rw [E2]
    refine Tq.some ⟨w2, f1.tr f2, h952.trans h95, fun i hi => ?_⟩
    unfold sm
    by_cases z : eK (e i) = true
    · rw [if_pos ⟨rfl, z⟩]; exact s2 i (Nat.zero_le i) hi z
    · rw [if_neg (fun q => z q.2), o2 i (fun y => z y.2.2), p1 i (by omega)]; rfl
