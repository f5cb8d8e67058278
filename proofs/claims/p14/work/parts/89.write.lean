def lbk (c : Nat → Nat) (far : Nat → Bool) (k : Nat) : Nat := if s_isJ (c k) = true ∧ far k = true ∧ c k < 167 then 1 else 0
def ljk (c : Nat → Nat) (far : Nat → Bool) (k : Nat) : Nat := if s_isJ (c k) = true ∧ far k = true ∧ ¬ c k < 167 then 1 else 0
theorem wyS.aw {s q : hs_S} {A t L T lb lj n : Nat} {bs c pl S : Nat → Nat} (h : wyS s n c pl S) (x : aw s q A t L T lb lj bs) (hA : isS A) (kT : gm_k T = 6) : wyS q n c pl S := fun j j1 j2 j3 => by
  have hA92 : A < 68 := by rcases hA with q | q | q | q <;> omega
  have g := gk_95.2.2.2.2.2.1
  rw [x.2.2.2.2.2.2.1 98 (by omega) (by omega) (fun z => by rw [← z, g] at kT; exact absurd kT (by decide))]
  exact h j j1 j2 j3
/-- all that the writing of an instruction asks -/
def wiS (s : hs_S) (M a n l N A t T : Nat) (e P c S : Nat → Nat) (far : Nat → Bool) (pd : Bool) : Prop := lyS s M a n e P c far pd ∧ lyC n l N e P c ∧ wyS s n c (s_pl P c n (fun i => eK (e i)) pd) S ∧ lyP c (s_pl P c n (fun i => eK (e i)) pd) n far S ∧ (∀ k, k < n → s_jk c n k) ∧ awO s A t T ∧ apt s M A T
theorem wiS.aw {s q : hs_S} {M a n l N A t L T lb lj : Nat} {bs e P c S : Nat → Nat} {far : Nat → Bool} {pd : Bool} (h : wiS s M a n l N A t T e P c S far pd) (x : aw s q A t L T lb lj bs) : wiS q M a n l N A (t + L) T e P c S far pd := by
  obtain ⟨h1, h2, h3, h4, h5, h6, h7⟩ := h
  exact ⟨h1.aw x h6.2.1 h6.2.2.2.2 h7.1 h7.2.1 h7.2.2.1 h7.2.2.2.1 h7.2.2.2.2, h2, h3.aw x h6.2.1 h6.2.2.2.2, h4, h5, x.o h6, h7.aw x⟩
theorem x_wi84 {M a n l N A T k : Nat} {e P c S : Nat → Nat} {far : Nat → Bool} {pd : Bool} {z : Nat} (hk : k + z ≤ n) (hz : z ≤ 5) : ∀ (d i f t : Nat) (s : hs_S), i + d = z → d < f → wiS s M a n l N A t T e P c S far pd → t + d ≤ gm_n (A + 5) → Tq (lX5_writeInstruction_84 f M (nI k) A (nI z) (nI i) s) (fun q => aw s q A t d T 0 0 (fun j => c (k + i + j)))
  | d, i, 0, t, s, _, hf, _, _ => absurd hf (Nat.not_lt_zero _)
  | 0, i, f + 1, t, s, hi, _, h, hr => by
    rw [lX5_writeInstruction_84, if_pos ((lei (by omega) (by omega)).mpr (by omega))]
    have o := h.2.2.2.2.2.1
    exact Tq.some ⟨rfl, o.1, o.2.2.2.1, fun _ _ => rfl, fun j hj => absurd hj (Nat.not_lt_zero _), fun _ _ => rfl, fun _ _ _ _ => rfl, fun _ _ _ => rfl, (Int32.add_zero _).symm, (Int32.add_zero _).symm⟩
  | d + 1, i, f + 1, t, s, hi, hf, h, hr => by
    have w := h.1.1
    have v := h.1.2.2.1
    have o := h.2.2.2.2.2.1
    have k1 := (sk o.2.1).1
    have lt := (v.lt w).1
    have hb := h.2.1.b (show k + i < n by omega)
    rw [lX5_writeInstruction_84, if_neg (fun q => absurd ((lei (by omega) (by omega)).mp q) (by omega)), if_pos (w.k v.1), nI_add, x_val_in w v (by omega), hs_bd_s, (h.2.1.2.2.1 (k + i) (by omega)).1, if_pos (w.k k1)]
    obtain ⟨q1, E1, a1⟩ := x_app o (by omega) (nI_255 hb)
    rw [E1]
    show Tq (lX5_writeInstruction_84 f M (nI k) A (nI z) (nI i + (1 : Int32)) q1) _
    rw [nI_1]
    refine (x_wi84 hk hz d (i + 1) f (t + 1) q1 (by omega) (by omega) (h.aw a1) (by omega)).mono fun q hq => ?_
    have := a1.tr hq
    rw [show 1 + d = d + 1 by omega] at this
    refine this.cg fun j hj => ?_
    show (if j < 1 then c (k + i) else c (k + (i + 1) + (j - 1))) = c (k + i + j)
    by_cases y : j = 0
    · rw [if_pos (by omega), y, Nat.add_zero]
    · rw [if_neg (by omega)]
      congr 1
      omega
theorem x_wi53 {s : hs_S} {M a n l N A t T k : Nat} {e P c S : Nat → Nat} {far : Nat → Bool} {pd : Bool} (h : wiS s M a n l N A t T e P c S far pd) (hk : k < n) (hB : s_B c k) (hr : t + s_ln c far k ≤ gm_n (A + 5)) : Tq (jX5_writeInstruction_53 95 M (nI k) A T s) (fun q => aw s q A t (s_ln c far k) T (lbk c far k) (ljk c far k) (fun i => if s_isJ (c k) = true then s_ej c far S (S k + s_pl P c n (fun i => eK (e i)) pd k) k i else c (k + i))) := by
  obtain ⟨h1, h2, h3, h4, h5, h6, h7⟩ := id h
  have w := h1.1
  have v := h1.2.2.1
  have lt := (v.lt w).1
  have hb := h2.b hk
  have hok := h2.2.1 k hB hk
  have hs5 := s_sz_le (c k)
  unfold jX5_writeInstruction_53
  rw [if_pos (w.k v.1), x_val_in w v hk, hs_bd_s, (h2.2.2.1 k hk).1, (x_kinds hb s).1, hs_bd_s]
  cases cJ : s_isJ (c k)
  · have nJ : ¬ s_isJ (c k) = true := by rw [cJ]; decide
    have e1 : vE e n k = c k := by unfold vE; rw [if_pos hk, (h2.2.2.1 k hk).1]
    have ez : cz (c k) = s_sz (c k) := by unfold cz; rw [if_pos hok.1]
    have l0 : lbk c far k = 0 := by unfold lbk; rw [if_neg (fun q => nJ q.1)]
    have j0 : ljk c far k = 0 := by unfold ljk; rw [if_neg (fun q => nJ q.1)]
    have e0 : (0 : Int32) = nI 0 := rfl
    rw [s_ln_n nJ] at hr
    rw [if_pos (by decide), if_pos (w.k v.1), x_sizeAt w v (by omega), e1, ez, hs_bd_s, l0, j0, s_ln_n nJ, e0]
    obtain ⟨q, E, a⟩ := x_wi84 (z := s_sz (c k)) hok.2.1 hs5 (s_sz (c k)) 0 hs_N t s (by omega) (by unfold hs_N; omega) h hr
    rw [E]
    refine Tq.some (a.cg fun i hi => ?_)
    show c (k + 0 + i) = if false = true then _ else c (k + i)
    rw [if_neg (by decide), Nat.add_zero]
  · rw [if_neg (by decide), if_pos (w.k gk_95.1)]
    obtain ⟨q, E, a⟩ := x_wj h1 h2 h3 h4 h5 hk hB cJ h6 h7 hr
    rw [E]
    have l0 : lbk c far k = if far k = true ∧ c k < 167 then 1 else 0 := by
      unfold lbk
      by_cases y : far k = true ∧ c k < 167
      · rw [if_pos y, if_pos ⟨cJ, y⟩]
      · rw [if_neg y, if_neg (fun q => y q.2)]
    have j0 : ljk c far k = if far k = true ∧ ¬ c k < 167 then 1 else 0 := by
      unfold ljk
      by_cases y : far k = true ∧ ¬ c k < 167
      · rw [if_pos y, if_pos ⟨cJ, y⟩]
      · rw [if_neg y, if_neg (fun q => y q.2)]
    rw [l0, j0]
    refine Tq.some (a.cg fun i hi => ?_)
    rw [if_pos rfl]
theorem x_wi37 {s : hs_S} {M a n l N A t T k : Nat} {e P c S : Nat → Nat} {far : Nat → Bool} {pd : Bool} (h : wiS s M a n l N A t T e P c S far pd) (hk : k < n) (hB : s_B c k) (hr : t + (if pd = true ∧ c k = 188 then 1 else 0) + s_ln c far k ≤ gm_n (A + 5)) : Tq (jX5_writeInstruction_37 95 M (nI k) A T s) (fun q => aw s q A t ((if pd = true ∧ c k = 188 then 1 else 0) + s_ln c far k) T (lbk c far k) (ljk c far k) (fun i => if i < (if pd = true ∧ c k = 188 then 1 else 0) then 203 else if s_isJ (c k) = true then s_ej c far S (S k + s_pl P c n (fun i => eK (e i)) pd k) k (i - (if pd = true ∧ c k = 188 then 1 else 0)) else c (k + (i - (if pd = true ∧ c k = 188 then 1 else 0))))) := by
  have w := h.1.1
  have o := h.2.2.2.2.2.1
  have k1 := (sk o.2.1).1
  unfold jX5_writeInstruction_37
  rw [if_pos (w.k gk_95.1), x_paysTop h.1 h.2.1 hk, hs_bd_s]
  by_cases c1 : pd = true ∧ c k = 188
  · rw [if_pos c1] at hr
    rw [if_pos c1, if_neg (by decide), if_pos (w.k k1), if_pos c1]
    obtain ⟨q1, E1, a1⟩ := x_app (x := 203) (y := 203) o (by omega) (by decide)
    rw [E1]
    show Tq (jX5_writeInstruction_53 95 M (nI k) A T q1) _
    refine (x_wi53 (h.aw a1) hk hB hr).mono fun q hq => ?_
    have := a1.tr hq
    rw [Nat.zero_add, Nat.zero_add] at this
    exact this
  · rw [if_neg c1, Nat.add_zero] at hr
    rw [if_neg c1, if_pos rfl, if_neg c1, Nat.zero_add]
    refine (x_wi53 h hk hB hr).mono fun q hq => hq.cg fun i hi => ?_
    rw [if_neg (Nat.not_lt_zero _), Nat.sub_zero]
theorem sh8 {v : Nat} (hv : v < 2147483648) : (nI v >>> ((8 : Int32) &&& 31)) &&& (255 : Int32) = nI (v / 256 % 256) := by
  rw [pk_shrN (by omega) ((8 : Int32) &&& 31) 8 (by decide), pk_andN (Nat.lt_of_le_of_lt (Nat.div_le_self _ _) (by omega)) 8 (by decide)]
/-- writeInstruction() -/
theorem x_wi {s : hs_S} {M a n l N A t T k : Nat} {e P c S : Nat → Nat} {far : Nat → Bool} {pd : Bool} (h : wiS s M a n l N A t T e P c S far pd) (hk : k < n) (hB : s_B c k) (hr : t + (s_pl P c n (fun i => eK (e i)) pd k + s_ln c far k) ≤ gm_n (A + 5)) : Tq (fX5_writeInstruction 95 M (nI k) A T s) (fun q => aw s q A t (s_pl P c n (fun i => eK (e i)) pd k + s_ln c far k) T (lbk c far k) (ljk c far k) (fun i => s_em P c n (fun i => eK (e i)) pd far S k i)) := by
  have w := h.1.1
  have hL := h.1.2.1
  have o := h.2.2.2.2.2.1
  have k1 := (sk o.2.1).1
  have hn := h.2.1.1
  have r0 : hs_R s 95 0 - 1 = 96 := by rw [hL.1]
  have r0n : ¬ hs_R s 95 0 = 0 := by rw [hL.1]; decide
  have hle : s_sum P c n (fun i => eK (e i)) k ≤ 1000 * n := s_su_le (fun j hj => h.2.1.2.2.2 _ (h.2.1.b hj)) n k hk
  have hpl : s_pl P c n (fun i => eK (e i)) pd k = s_pay P c n (fun i => eK (e i)) pd k + (if pd = true ∧ c k = 188 then 1 else 0) := rfl
  unfold fX5_writeInstruction
  rw [if_pos (w.k gk_95.1), if_pos r0n, r0, yf_at w gk_95.2.1 (by rw [gk_95.2.2.1]; omega), hs_bd_s, h.1.2.2.2.2.2.1 k hk]
  by_cases c1 : pd = true ∧ eK (e k) = true ∧ 0 < s_sum P c n (fun i => eK (e i)) k
  · have es : sm P c n (fun i => eK (e i)) pd k = s_sum P c n (fun i => eK (e i)) k := by unfold sm; rw [if_pos ⟨c1.1, c1.2.1⟩]
    have ep : s_pay P c n (fun i => eK (e i)) pd k = 5 := by unfold s_pay; rw [if_pos c1]
    rw [ep] at hpl
    generalize hv : s_sum P c n (fun i => eK (e i)) k = v at es hle c1
    have x : ¬ nI v ≤ 0 := fun q => absurd ((lei (b := 0) (by omega) (by decide)).mp q) (by omega)
    rw [es, if_neg x, if_pos (w.k k1)]
    obtain ⟨q1, E1, a1⟩ := x_app (x := 202) (y := 202) o (by omega) (by decide)
    have H1 := h.aw a1
    have o1 := H1.2.2.2.2.2.1
    rw [E1]
    show Tq (if hs_kd q1 A = 0 then _ else none) _
    have e16 : nI v >>> ((16 : Int32) &&& 31) = nI (v / 65536) := pk_shrN (by omega) ((16 : Int32) &&& 31) 16 (by decide)
    obtain ⟨q2, E2, a2⟩ := x_app2 (x := nI (v / 65536)) (y := v / 65536 / 256 % 256) (z := v / 65536 % 256) o1 (by omega) (sh8 (by omega)) (pk_andN (by omega) 8 (by decide))
    have H2 := H1.aw a2
    have o2 := H2.2.2.2.2.2.1
    rw [if_pos (o1.1.k k1), e16, E2]
    show Tq (if hs_kd q2 A = 0 then _ else none) _
    obtain ⟨q3, E3, a3⟩ := x_app2 (x := nI v) (y := v / 256 % 256) (z := v % 256) o2 (by omega) (sh8 (by omega)) (pk_andN (by omega) 8 (by decide))
    have H3 := H2.aw a3
    rw [if_pos (o2.1.k k1), E3]
    show Tq (jX5_writeInstruction_37 95 M (nI k) A T q3) _
    refine (x_wi37 H3 hk hB (by omega)).mono fun q hq => ?_
    have tot := ((a1.tr a2).tr a3).tr hq
    have eL : 1 + 2 + 2 + ((if pd = true ∧ c k = 188 then 1 else 0) + s_ln c far k) = s_pl P c n (fun i => eK (e i)) pd k + s_ln c far k := by rw [hpl]; omega
    rw [eL] at tot
    rw [show 0 + 0 + 0 + lbk c far k = lbk c far k by omega, show 0 + 0 + 0 + ljk c far k = ljk c far k by omega] at tot
    refine tot.cg fun i hi => ?_
    show (if i < 1 + 2 + 2 then (if i < 1 + 2 then (if i < 1 then 202 else if i - 1 = 0 then v / 65536 / 256 % 256 else v / 65536 % 256) else if i - (1 + 2) = 0 then v / 256 % 256 else v % 256) else if i - (1 + 2 + 2) < (if pd = true ∧ c k = 188 then 1 else 0) then 203 else if s_isJ (c k) = true then s_ej c far S (S k + s_pl P c n (fun i => eK (e i)) pd k) k (i - (1 + 2 + 2) - (if pd = true ∧ c k = 188 then 1 else 0)) else c (k + (i - (1 + 2 + 2) - (if pd = true ∧ c k = 188 then 1 else 0)))) = s_em P c n (fun i => eK (e i)) pd far S k i
    unfold s_em
    rw [ep, hv]
    by_cases d1 : i < 5
    · rw [if_pos (by omega), if_pos d1]
      obtain e | e | e | e | e : i = 0 ∨ i = 1 ∨ i = 2 ∨ i = 3 ∨ i = 4 := by omega
      · subst e; rfl
      · subst e
        show v / 65536 / 256 % 256 = s_b4 v 0
        unfold s_b4
        rw [Nat.div_div_eq_div_mul]
      · subst e; rfl
      · subst e; rfl
      · subst e
        show v % 256 = s_b4 v 3
        unfold s_b4
        rw [show 2 ^ (24 - 8 * 3) = 1 from rfl, Nat.div_one]
    · rw [if_neg (by omega), if_neg d1]
      by_cases d2 : i < s_pl P c n (fun i => eK (e i)) pd k
      · rw [if_pos (by omega), if_pos d2]
      · rw [if_neg (by omega), if_neg d2, show i - (1 + 2 + 2) - (if pd = true ∧ c k = 188 then 1 else 0) = i - s_pl P c n (fun i => eK (e i)) pd k by omega]
  · have es : nI (sm P c n (fun i => eK (e i)) pd k) ≤ 0 := by
      unfold sm
      by_cases y : pd = true ∧ eK (e k) = true
      · rw [if_pos y]
        exact (lei (b := 0) (by omega) (by decide)).mpr (by
          by_cases z : 0 < s_sum P c n (fun i => eK (e i)) k
          · exact absurd ⟨y.1, y.2, z⟩ c1
          · omega)
      · rw [if_neg y]; decide
    have ep : s_pay P c n (fun i => eK (e i)) pd k = 0 := by unfold s_pay; rw [if_neg c1]
    rw [ep, Nat.zero_add] at hpl
    rw [if_pos es]
    refine (x_wi37 h hk hB (by omega)).mono fun q hq => ?_
    rw [← hpl] at hq
    refine hq.cg fun i hi => ?_
    unfold s_em
    rw [ep, if_neg (Nat.not_lt_zero _)]
