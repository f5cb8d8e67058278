/-! THE TWO MACHINES: paying, and a step as a whole -/
theorem or_addk {k p q : Nat} (h : q < 2 ^ k) : p * 2 ^ k ||| q = p * 2 ^ k + q := by
  have e := Nat.shiftLeft_add_eq_or_of_lt (i := k) (b := q) h p
  rw [Nat.shiftLeft_eq] at e
  exact e.symm
theorem four_v {a b c d : Nat} (ha : a < 128) (hb : b < 256) (hc : c < 256) (hd : d < 256) : nI (256 * a + b) <<< ((16 : Int32) &&& 31) ||| nI (256 * c + d) = nI (16777216 * a + 65536 * b + 256 * c + d) ∧ (((nI a <<< ((24 : Int32) &&& 31)) ||| (nI b <<< ((16 : Int32) &&& 31))) ||| (nI c <<< ((8 : Int32) &&& 31))) ||| nI d = nI (16777216 * a + 65536 * b + 256 * c + d) := by
  have o1 := or_addk (k := 16) (p := 256 * a + b) (q := 256 * c + d) (by omega)
  have o2 := or_addk (k := 24) (p := a) (q := b * 2 ^ 16) (by omega)
  have o3 := or_addk (k := 16) (p := 256 * a + b) (q := c * 2 ^ 8) (by omega)
  have o4 := or_addk (k := 8) (p := 65536 * a + 256 * b + c) (q := d) (by omega)
  constructor
  · rw [pk_shlN ((16 : Int32) &&& 31) 16 (by decide) (by omega), or_nI, o1]
    congr 1
    omega
  · rw [pk_shlN ((24 : Int32) &&& 31) 24 (by decide) (by omega), pk_shlN ((16 : Int32) &&& 31) 16 (by decide) (by omega), pk_shlN ((8 : Int32) &&& 31) 8 (by decide) (by omega), or_nI, or_nI, or_nI, o2, show a * 2 ^ 24 + b * 2 ^ 16 = (256 * a + b) * 2 ^ 16 by omega, o3, show (256 * a + b) * 2 ^ 16 + c * 2 ^ 8 = (65536 * a + 256 * b + c) * 2 ^ 8 by omega, o4]
    congr 1
    omega
theorem TR.pair {s0 s : hs_S} {g : hm} {F m x d n y a b : Nat} (T : TR s0 s g F m x d) (C : CM s0 m n) (hy : y + 1 < n) (h1 : hs_I s0 304 (4001 * m + y) = nI a) (h2 : hs_I s0 304 (4001 * m + (y + 1)) = nI b) (ha : a < 256) (hb : b < 256) : fX7_pairAt (73 + 2 * m) (nI y) s = some (nI (256 * a + b), s) := by
  unfold fX7_pairAt
  have k6 := T.w.k (k6_m T.2.2.2.2.2.1).1
  rw [if_pos k6, T.val C (show y < n by omega), hs_bd_s, if_pos k6, nI_1, T.val C hy, hs_bd_s, h1, h2, x_pair ha hb]
theorem s_em_b4 {P c S : Nat → Nat} {n j o : Nat} {b far : Nat → Bool} (h : s_pay P c n b true j = 5) (h0 : o ≠ 0) (h5 : o < 5) : s_em P c n b true far S j o = s_b4 (s_sum P c n b j) (o - 1) := by
  unfold s_em
  rw [h, if_pos h5, if_neg h0]
/-- 202 -/
theorem TR.st202 {s0 s : hs_S} {g : hm} {F m x d n v : Nat} (T : TR s0 s g F m x d) (C : CM s0 m n) (hx : x + 4 < n) (hv : v ≤ 2000000) (h0 : hs_I s0 304 (4001 * m + x) = nI 202) (hb : ∀ o, o ≠ 0 → o < 5 → hs_I s0 304 (4001 * m + (x + o)) = nI (s_b4 v (o - 1))) : SO s0 (fX6_goOn 100 (105 + 3 * F) s) (nX12_step g) F := by
  have hn : n ≤ 4000 := by obtain ⟨a, h, pm, e, v, r0, r1, c1, -⟩ := C; exact c1
  have hF := T.2.1
  have eP := T.2.2.2.2.2.2.2.2.2.1
  have eR := T.2.2.2.2.2.2.2.1
  have b1 : hs_I s0 304 (4001 * m + (x + 1)) = nI (s_b4 v 0) := hb 1 (by decide) (by decide)
  have b2 : hs_I s0 304 (4001 * m + (x + 2)) = nI (s_b4 v 1) := hb 2 (by decide) (by decide)
  have b3 : hs_I s0 304 (4001 * m + (x + 3)) = nI (s_b4 v 2) := hb 3 (by decide) (by decide)
  have b4 : hs_I s0 304 (4001 * m + (x + 4)) = nI (s_b4 v 3) := hb 4 (by decide) (by decide)
  have z0 : s_b4 v 0 < 128 := by
    unfold s_b4
    rw [show v / 2 ^ (24 - 8 * 0) = 0 from Nat.div_eq_of_lt (by show v < 16777216; omega)]
    decide
  have hf := four_v z0 (s_b4_lt v 1) (s_b4_lt v 2) (s_b4_lt v 3)
  generalize s_b4 v 0 = a0 at b1 z0 hf
  generalize ea : s_b4 v 1 = a1 at b2 hf
  generalize eb : s_b4 v 2 = a2 at b3 hf
  generalize ec : s_b4 v 3 = a3 at b4 hf
  have l1 : a1 < 256 := by rw [← ea]; exact s_b4_lt v 1
  have l2 : a2 < 256 := by rw [← eb]; exact s_b4_lt v 2
  have l3 : a3 < 256 := by rw [← ec]; exact s_b4_lt v 3
  have k6 := T.w.k (k6_m T.2.2.2.2.2.1).1
  have four : fX7_fourAt (73 + 2 * m) (nI (x + 1)) s = some (nI (16777216 * a0 + 65536 * a1 + 256 * a2 + a3), s) := by
    unfold fX7_fourAt
    have e2 : nI (x + 1) + (2 : Int32) = nI (x + 3) := nI_add (x + 1) 2
    rw [if_pos k6, T.pair C (show x + 1 + 1 < n by omega) b1 b2 (by omega) l1, hs_bd_s, if_pos k6, e2, T.pair C (show x + 3 + 1 < n by omega) b3 b4 l2 l3, hs_bd_s, hf.1]
  have c0 : nX12_codeAt (0 : Int32) g = some (hs_I s0 304 (4001 * m + (x + 0)), g) := T.code (i := 0) (by omega)
  have c1 : nX12_codeAt (1 : Int32) g = some (hs_I s0 304 (4001 * m + (x + 1)), g) := T.code (i := 1) (by omega)
  have c2 : nX12_codeAt (2 : Int32) g = some (hs_I s0 304 (4001 * m + (x + 2)), g) := T.code (i := 2) (by omega)
  have c3 : nX12_codeAt (3 : Int32) g = some (hs_I s0 304 (4001 * m + (x + 3)), g) := T.code (i := 3) (by omega)
  have c4 : nX12_codeAt (4 : Int32) g = some (hs_I s0 304 (4001 * m + (x + 4)), g) := T.code (i := 4) (by omega)
  have e1 : nI (F + 1) - (1 : Int32) = nI F := nI_pred F
  have hp : fX6_goOn 100 (105 + 3 * F) s = fX6_pay 100 (105 + 3 * F) (nI (16777216 * a0 + 65536 * a1 + 256 * a2 + a3)) (nI 5) s := by
    unfold fX6_goOn
    rw [if_pos T.k3, T.kind C (show x < n by omega), hs_bd_s, h0, if_pos (show nI 202 = (202 : Int32) from rfl), if_pos T.k3, eR, if_pos (show ¬ 74 + 2 * m = 0 by omega), show 74 + 2 * m - 1 = 73 + 2 * m by omega, if_pos k6, eP, nI_1, four, hs_bd_s, if_pos T.k5, hs_bd_id]
    rfl
  have hq : nX12_step g = (hm_bd (nX12_pays (nI (16777216 * a0 + 65536 * a1 + 256 * a2 + a3)) g) fun r30 g29 => if r30 = 0 then (some g29) else (if hs_in ((g29 285 40) - (1 : Int32)) 60 = true then some (hm_w g29 316 ((g29 285 40) - (1 : Int32)).toNatClampNeg ((g29 316 ((g29 285 40) - (1 : Int32)).toNatClampNeg) + (5 : Int32))) else none)) := by
    unfold nX12_step
    rw [c0, hm_bd_s, Nat.add_zero, h0, if_pos (show nI 202 = (202 : Int32) from rfl), c1, hm_bd_s, c2, hm_bd_s, c3, hm_bd_s, c4, hm_bd_s, b1, b2, b3, b4, hf.2]
  rw [hp, hq]
  have hd0 : (0 : Int32) ≤ nI (16777216 * a0 + 65536 * a1 + 256 * a2 + a3) := (lei (a := 0) (by decide) (by omega)).mpr (Nat.zero_le _)
  rcases T.pay _ hd0 5 with ⟨s', g1, q1, q2, q3, q4, q5⟩ | ⟨q1, q2, -⟩
  · refine Or.inl ⟨s', _, F, m, x + 5, d, q1, ?_, q5⟩
    have e5 : nI x + (5 : Int32) = nI (x + 5) := nI_add x 5
    rw [q2, hm_bd_s, if_neg i1_ne, q3, e1, if_pos (hin hF (by decide)), cl (show F < 2147483648 by omega), q4, e5]
  · refine T.stop q1 ?_
    rw [q2, hm_bd_s, if_pos (show (0 : Int32) = 0 from rfl)]
/-- 203 -/
theorem TR.st203 {s0 s : hs_S} {g : hm} {F m x d n : Nat} (T : TR s0 s g F m x (d + 1)) (C : CM s0 m n) (hx : x < n) (h0 : hs_I s0 304 (4001 * m + x) = nI 203) : SO s0 (fX6_goOn 100 (105 + 3 * F) s) (nX12_step g) F := by
  have hn : n ≤ 4000 := by obtain ⟨a, h, pm, e, v, r0, r1, c1, -⟩ := C; exact c1
  have hF := T.2.1
  have eP := T.2.2.2.2.2.2.2.2.2.1
  have eG := T.2.2.2.2.2.2.2.2.1
  have e40 := T.2.2.2.1
  have e1 : nI (F + 1) - (1 : Int32) = nI F := nI_pred F
  have hi : hs_in (nI F) 60 = true := hin hF (by decide)
  obtain ⟨v, v1, v2⟩ := T.top
  have c0 : nX12_codeAt (0 : Int32) g = some (hs_I s0 304 (4001 * m + (x + 0)), g) := T.code (i := 0) (by omega)
  have hp : fX6_goOn 100 (105 + 3 * F) s = fX6_pay 100 (105 + 3 * F) (if (0 : Int32) < v then v else (0 : Int32)) (nI 1) s := by
    unfold fX6_goOn
    rw [if_pos T.k3, T.kind C hx, hs_bd_s, h0, if_neg (show ¬ nI 203 = (202 : Int32) by decide), if_pos (show nI 203 = (203 : Int32) from rfl), if_pos T.k3, v1, hs_bd_s, if_pos T.k5, hs_bd_id]
    rfl
  have hq : nX12_step g = (if v ≤ 0 then (njX12_step_93 g) else (hm_bd (nX12_top g) fun r18 g17 => hm_bd (nX12_pays r18 g17) fun r20 g19 => if r20 = 0 then (some g19) else (njX12_step_93 g19))) := by
    unfold nX12_step
    rw [c0, hm_bd_s, Nat.add_zero, h0, if_neg (show ¬ nI 203 = (202 : Int32) by decide), if_pos (show nI 203 = (203 : Int32) from rfl), v2, hm_bd_s, v2]
  obtain ⟨b1, b2, b3, b4, b5, bg, b6, b7, b8, b9, b10, b11, b12⟩ := T.1
  rw [hp, hq]
  by_cases c : v ≤ 0
  · have c' : ¬ (0 : Int32) < v := fun z => absurd (lt_toInt z) (by rw [Int32.le_iff_toInt_le] at c; omega)
    rw [if_pos c, if_neg c']
    have T1 : TR s0 (hs_wI s 100 6 (hs_I s 100 6 + (0 : Int32))) g F m x (d + 1) := by
      refine T.mw (T.w.wm (by decide)) rfl (fun b hb => ?_) ?_ (fun _ _ => rfl) rfl rfl rfl ?_ ?_ ?_ ?_ b10
      · funext i
        rw [hs_I_w, if_neg hb]
      · rw [hs_I_w, if_pos rfl, if_neg (by decide)]
      · rw [hs_I_w, if_pos rfl, if_pos rfl, Int32.add_zero]; exact b6
      · rw [hs_I_w, if_pos rfl, if_neg (by decide)]; exact b7
      · rw [hs_I_w, if_pos rfl, if_neg (by decide), hs_I_w, if_pos rfl, if_pos rfl, Int32.add_zero]; exact b8
      · rw [hs_I_w, if_pos rfl, if_neg (by decide)]; exact b9
    refine Or.inl ⟨_, _, F, m, x + 1, d + 1, ?_, ?_, T1.at (x + 1)⟩
    · unfold fX6_pay
      rw [if_pos T.k5, b8.1, if_pos b8.2, if_pos T1.k3, hs_I_w, if_neg (show ¬ 105 + 3 * F = 100 by omega), eP, nI_add]
      rfl
    · unfold njX12_step_93
      rw [e40, e1, if_pos hi, cl (show F < 2147483648 by omega), eG, nI_1]
  · have c' : (0 : Int32) < v := of_lt (by rw [Int32.le_iff_toInt_le] at c; rw [ti_0] at *; omega)
    have c2 : (0 : Int32) ≤ v := by rw [Int32.le_iff_toInt_le]; have := lt_toInt c'; omega
    rw [if_neg c, if_pos c', v2, hm_bd_s]
    rcases T.pay v c2 1 with ⟨s', g1, q1, q2, q3, q4, q5⟩ | ⟨q1, q2, -⟩
    · refine Or.inl ⟨s', _, F, m, x + 1, d + 1, q1, ?_, q5⟩
      rw [q2, hm_bd_s, if_neg i1_ne]
      unfold njX12_step_93
      rw [q3, e1, if_pos hi, cl (show F < 2147483648 by omega), q4, nI_1]
    · refine T.stop q1 ?_
      rw [q2, hm_bd_s, if_pos (show (0 : Int32) = 0 from rfl)]
/-- a step, of the class and of the reference -/
theorem TR.step {s0 s : hs_S} {g0 g : hm} {N m x d rk F st : Nat} {p l n h P : Nat → Nat} {c R : Nat → Nat → Nat} (hg0 : ∀ a, 286 ≤ a → a < 313 → g0 a = hs_I s0 a) (hW : s_WB g0 N p l n h c R P) (k : s_K g0 (s_Sd g0 N p n h c R P) g F st m x d) (hG : s_Gd g0 N p n h c R P rk m x d) (T : TR s0 s g F m x d) (hS : SF (hs_R s0) 67) (hC : ∀ m, m < N → ∃ ln, CM s0 m ln) : SO s0 (fX6_goOn 100 (105 + 3 * F) s) (nX12_step g) F := by
  obtain ⟨hm8, b, far, S, j, t, d0, w, hB, hj, hr, hP⟩ := hG
  have X : s_Cx g0 N p n h c R P m b far S j t d0 := ⟨hm8, w, hB, hj, hr⟩
  obtain ⟨o1, o2, o3, o4, o5⟩ := X.dk hW
  have hS4 := X.S4 hW
  have hF := k.d20.1
  have hpl := s_pl_01 P (c m) (n m) b true j
  have h304 := hg0 304 (by decide) (by decide)
  have h287 := hg0 287 (by decide) (by decide)
  obtain ⟨ln, C⟩ := hC m hm8
  have eln : ln = S (n m) := by
    have C2 := C
    obtain ⟨a, h', pm, e, v, r0, r1, c1, c2, -⟩ := C2
    have h3 := w.2.1.2
    rw [hg0 305 (by decide) (by decide)] at h3
    exact (eqi (by omega) (by have := w.2.1.1; omega)).mp (c2.symm.trans h3)
  have hSn := X.Sn hW
  rw [← eln] at hSn
  have hsz0 := s_isK_sz o3.1
  have st38 := k.1.2.2.2.2.1
  have st20 := k.1.2.2.2.2.2.1
  have hlow : ∀ G, F = G + 1 → ∃ m' x' d', m' < 8 ∧ g 315 G = nI m' ∧ g 316 G = nI x' ∧ g 317 G = nI d' ∧ d' < 20 := by
    intro G hFG
    obtain ⟨m', x', d', f1, f2, f3, q1, b', far', S', j', t', d0', q2, q3, q4, q5, q6, q7, q8, q9⟩ := k.1.2.2.2.2.2.2.2 G (by omega)
    have hx : s_Cx g0 N p n h c R P m' b' far' S' j' t' d0' := ⟨q1, q2, q3, q4, q5⟩
    have hd2 := (hx.dk hW).1.2.1
    unfold s_d2 s_tq at hd2
    rw [if_pos q6, q6] at hd2
    have hd3 : d0' - p (c m' (j' + 1)) + 1 ≤ 20 := hd2
    exact ⟨m', x', d', by omega, f1, f2, f3, by omega⟩
  have hAz := k.1.2.2.2.2.2.2.1
  rcases hP with ⟨q1, q2, q3, q4⟩ | ⟨q1, q2, q3, q4⟩ | ⟨q2, q3, q4⟩ | ⟨q0, q1, q5, q2, q3, q4⟩
  · subst q2; subst q3; subst q4
    have y0 := X.byte hW (o := 0) (by omega)
    rw [s_em_202 q1, Nat.add_zero, h304] at y0
    have hMm := (hW.2.1.2.2 m hm8).2.2.2.1
    have sm : s_sum P (c m) (n m) b j ≤ 2000000 := by
      have h1 := s_su_le (P := P) (c := c m) (n := n m) (b := b) (fun k hk => hW.2.2.1 _ ((hW.2.2.2 m hm8).2 k hk)) (n m) j hj
      have h2 := hMm.2.1
      have h3 : s_sum P (c m) (n m) b j = s_su P (c m) (n m) b (n m) j := rfl
      have h4 : 1000 * n m ≤ 2000000 := by omega
      omega
    refine T.st202 C (by omega) sm y0.1 fun o o1 o2 => ?_
    have y := X.byte hW (o := o) (by omega)
    rw [s_em_b4 q1 o1 o2, h304] at y
    exact y.1
  · subst q2; subst q3; subst q4
    have y0 := X.byte hW (o := s_pay P (c m) (n m) b true j) (by omega)
    rw [s_em_203 q1, h304] at y0
    have h188 := s_pl_188 q1
    have ht : 1 ≤ d := by
      have h1 := o1.1
      unfold s_tq at h1
      rw [if_neg (by omega), h188] at h1
      exact h1
    obtain ⟨d', rfl⟩ : ∃ d', d = d' + 1 := ⟨d - 1, by omega⟩
    exact T.st203 C (by omega) y0.1
  · subst q2; subst q3; subst q4
    by_cases hJ : s_isJ (c m j) = true
    · have hl2 : 2 ≤ s_ln (c m) far j := by
        rw [s_ln_j (far := far) hJ]
        split
        · split <;> omega
        · omega
      obtain ⟨kd, k1, k2, k3, k4, k5⟩ := TR.jmps (s := s) (g := g) (F := F) h304 hW X hJ C hSn
      rcases T.st0 C (by omega) k4 k1 k2 k3 st38 st20 with ⟨z1, z2⟩ | ⟨s1, g1, z1, z2, T1, -⟩
      · exact T.stop z1 z2
      · rw [z1, z2]; exact k5 s1 g1 T1
    · have y0 := X.main hW hJ (i := 0) hsz0
      rw [Nat.add_zero, Nat.add_zero, h304] at y0
      have hk := s_isK_cases o3.1
      have hl1 : 1 ≤ s_ln (c m) far j := by rw [s_ln_n hJ]; exact hsz0
      rcases T.st0 C (by omega) y0.1 y0.2.2 hk.1 hk.2 st38 st20 with ⟨z1, z2⟩ | ⟨s1, g1, z1, z2, T1, z4⟩
      · exact T.stop z1 z2
      · rw [z1, z2]
        refine T1.rest h304 h287 hW X hJ hS hC C hSn (fun G hFG => ?_) (fun a ha => ?_)
        · obtain ⟨m', x', d', r1, r2, r3, r4, r5⟩ := hlow G hFG
          exact ⟨m', x', d', r1, by rw [z4 315 (by decide)]; exact r2, by rw [z4 316 (by decide)]; exact r3, by rw [z4 317 (by decide)]; exact r4, r5⟩
        · rw [z4 313 (by decide)]; exact hAz a ha
  · subst q2; subst q3; subst q4
    obtain ⟨r1, r2, r3⟩ := TR.jmp4 (F := F) h304 hW X q0 q1 q5 C hSn
    rcases T.st0 C r1 r2 (by decide) (by decide) (by decide) st38 st20 with ⟨z1, z2⟩ | ⟨s1, g1, z1, z2, T1, -⟩
    · exact T.stop z1 z2
    · rw [z1, z2]; exact r3 s1 g1 _ T1
