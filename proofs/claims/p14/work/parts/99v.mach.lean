/-! THE TWO MACHINES: a step -/
/-- what the class does behind the count -/
def c_rest (fr : Nat) (r3 : Int32) (g : hs_S) : Option (Int32 × hs_S) :=
  if r3 = (184 : Int32) then (hs_bd (fX6_call 100 fr g) fun r35 g34 => some (r35, g34)) else (
    if r3 = (172 : Int32) then (
      if hs_kd g fr = 3 then
      hs_bd (fX3_pop fr g) fun r28 g27 =>
      if hs_kd g27 100 = 5 then
      hs_bd (fX6_leave 100 r28 g27) fun r32 g31 => some (r32, g31)
      else none else none
    ) else (
      hs_bd (fX4_isJump r3 g) fun r7 g6 =>
      if r7 = 0 then (
        if hs_kd g6 100 = 5 then
        hs_bd (fX6_act 100 fr r3 g6) fun r11 g10 =>
        if r11 = 0 then (
          if hs_kd g10 fr = 3 then
          hs_bd (fX4_sizeOf r3 g10) fun r15 g14 =>
          if hs_kd g14 fr = 3 then
          some ((3 : Int32), (hs_wI g14 fr 4 ((hs_I g10 fr 4) + r15)))
          else none else none
        ) else (
          if hs_kd g10 100 = 5 then
          hs_bd (fX6_raise 100 r11 g10) fun r20 g19 => some (r20, g19)
          else none
        )
        else none
      ) else (
        if hs_kd g6 100 = 5 then
        hs_bd (fX6_jump 100 fr r3 g6) fun r24 g23 => some (r24, g23)
        else none
      )))
/-- an instruction of its own, not one that pays -/
theorem TR.st0 {s0 s : hs_S} {g : hm} {F m x d n kd st : Nat} (T : TR s0 s g F m x d) (C : CM s0 m n) (hx : x < n) (h0 : hs_I s0 304 (4001 * m + x) = nI kd) (hk : kd < 256) (h202 : kd ≠ 202) (h203 : kd ≠ 203) (h38 : g 285 38 = nI st) (hst : st ≤ 20000) :
    (fX6_goOn 100 (105 + 3 * F) s = some (1, s) ∧ nX12_step g = some (hm_w g 285 46 (1 : Int32))) ∨ ∃ s1 g1, fX6_goOn 100 (105 + 3 * F) s = c_rest (105 + 3 * F) (nI kd) s1 ∧ nX12_step g = ns_rest (nI kd) g1 ∧ TR s0 s1 g1 F m x d ∧ ∀ a, a ≠ 285 → g1 a = g a := by
  have hn : n ≤ 4000 := by obtain ⟨a, h, pm, e, v, r0, r1, c1, -⟩ := C; exact c1
  have hc : nX12_codeAt (0 : Int32) g = some (hs_I s0 304 (4001 * m + (x + 0)), g) := T.code (i := 0) (by omega)
  have u1 : ¬ nI kd = (202 : Int32) := nI_ne (b := 202) (by omega) (by decide) h202
  have u2 : ¬ nI kd = (203 : Int32) := nI_ne (b := 203) (by omega) (by decide) h203
  have b7 := T.1.2.2.2.2.2.2.2.1
  have T1 := T.cnt
  unfold fX6_goOn nX12_step
  rw [if_pos T.k3, T.kind C hx, hs_bd_s, h0, if_neg u1, if_neg u2, if_pos T.k5, hc, hm_bd_s, Nat.add_zero, h0, if_neg u1, if_neg u2, b7, h38]
  rw [h38, b7, h38] at T1
  by_cases c1 : st = 20000
  · left
    have v1 : ¬ nI st < (20000 : Int32) := fun z => absurd ((lti (b := 20000) (by omega) (by decide)).mp z) (by omega)
    have v2 : nI st = (20000 : Int32) := by rw [c1]; rfl
    exact ⟨by rw [if_neg v1], by rw [if_pos v2]⟩
  · right
    have v1 : nI st < (20000 : Int32) := (lti (b := 20000) (by omega) (by decide)).mpr (by omega)
    have v2 : ¬ nI st = (20000 : Int32) := nI_ne (b := 20000) (by omega) (by decide) c1
    refine ⟨hs_wI s 100 7 (nI st + (1 : Int32)), hm_w g 285 38 (nI st + (1 : Int32)), ?_, ?_, T1, fun a ha => hm_w_ne ha⟩
    · rw [if_pos v1]
      rfl
    · rw [if_neg v2]
      rfl
/-- what a step leaves -/
def SO (s0 : hs_S) (p : Option (Int32 × hs_S)) (q : Option hm) (F : Nat) : Prop :=
  (∃ s' g' F' m' x' d', p = some (3, s') ∧ q = some g' ∧ TR s0 s' g' F' m' x' d') ∨
  (∃ s' g', p = some (1, s') ∧ q = some g' ∧ g' 285 46 = 1 ∧ g' 285 47 = 0 ∧ ¬ g' 285 40 ≤ 0 ∧ EN s0 s' (hm_w g' 285 36 (0 : Int32))) ∨
  (∃ s' g', p = some (0, s') ∧ q = some g' ∧ g' 285 40 = 0 ∧ g' 285 46 = 0 ∧ g' 285 47 = 0 ∧ EN s0 s' g') ∨
  ∃ e s1 g', 1 ≤ e ∧ e ≤ 4 ∧ q = some g' ∧ TT s0 s1 g' (F + 1) e ∧ p = hs_bd (fX6_raise 100 (nI e) s1) fun r20 g19 => some (r20, g19)
theorem TR.stop {s0 s : hs_S} {g : hm} {F m x d : Nat} (T : TR s0 s g F m x d) {p : Option (Int32 × hs_S)} {q : Option hm} (hp : p = some (1, s)) (hq : q = some (hm_w g 285 46 (1 : Int32))) : SO s0 p q F := by
  have hF := T.2.1
  refine Or.inr (Or.inl ⟨s, _, hp, hq, by rw [hm_w_eq], ?_, ?_, ?_⟩)
  · rw [hm_w_o (by decide)]; exact T.2.2.2.2.2.2.2.2.2.2.2.2.2.2.2.1
  · rw [hm_w_o (by decide), T.2.2.2.1]
    exact fun z => absurd ((lei (b := 0) (by omega) (by decide)).mp z) (by omega)
  · refine T.1.en 0 T.w rfl (fun _ _ => rfl) T.1.2.2.2.2.2.2.2.2.2.1 rfl rfl (fun a ha => by rw [hm_w_ne ha, hm_w_ne ha]) (by rw [hm_w_eq]) ?_ ?_
    · rw [hm_w_o (by decide), hm_w_o (by decide)]
    · rw [hm_w_o (by decide), hm_w_o (by decide)]
/-- plain instructions, and those of arrays -/
theorem OK1.so {s0 s : hs_S} {F m x d kd : Nat} {q : Option hm} (hk : kd < 256) (hK : s_isK kd = true) (hJ : ¬ s_isJ kd = true) (n1 : kd ≠ 184) (n2 : kd ≠ 172) (k5 : hs_kd s 100 = 5) (o : OK1 s0 (fX6_act 100 (105 + 3 * F) (nI kd) s) q F m x (x + s_sz kd) d) : SO s0 (c_rest (105 + 3 * F) (nI kd) s) q F := by
  obtain ⟨s1, g1, e1, e2, e3, T⟩ := o
  refine Or.inl ⟨_, g1, F, m, x + s_sz kd, d, ?_, e3, T⟩
  have u1 : ¬ nI kd = (184 : Int32) := nI_ne (b := 184) (by omega) (by decide) n1
  have u2 : ¬ nI kd = (172 : Int32) := nI_ne (b := 172) (by omega) (by decide) n2
  have hj : s_bI (s_isJ kd) = 0 := by rw [show s_isJ kd = false by simpa using hJ]; rfl
  have k3 : hs_kd s1 (105 + 3 * F) = 3 := T.k3
  unfold c_rest
  rw [if_neg u1, if_neg u2, (x_kinds hk s).1, hs_bd_s, if_pos hj, if_pos k5, e1, hs_bd_s, if_pos (show (0 : Int32) = 0 from rfl), if_pos k3, x_size hk, hs_bd_s, if_pos k3, e2, cz_K hK, nI_add]
theorem TH1.so {s0 s : hs_S} {F kd : Nat} {q : Option hm} (hk : kd < 256) (hJ : ¬ s_isJ kd = true) (n1 : kd ≠ 184) (n2 : kd ≠ 172) (k5 : hs_kd s 100 = 5) (o : TH1 s0 (fX6_act 100 (105 + 3 * F) (nI kd) s) q F) : SO s0 (c_rest (105 + 3 * F) (nI kd) s) q F := by
  obtain ⟨e, s1, g1, e0, e4, e1, e3, T⟩ := o
  refine Or.inr (Or.inr (Or.inr ⟨e, s1, g1, e0, e4, e3, T, ?_⟩))
  have u1 : ¬ nI kd = (184 : Int32) := nI_ne (b := 184) (by omega) (by decide) n1
  have u2 : ¬ nI kd = (172 : Int32) := nI_ne (b := 172) (by omega) (by decide) n2
  have hj : s_bI (s_isJ kd) = 0 := by rw [show s_isJ kd = false by simpa using hJ]; rfl
  have ue : ¬ nI e = 0 := nI_ne (b := 0) (by omega) (by decide) (by omega)
  have k5' : hs_kd s1 100 = 5 := T.1.1.k mk0.1
  unfold c_rest
  rw [if_neg u1, if_neg u2, (x_kinds hk s).1, hs_bd_s, if_pos hj, if_pos k5, e1, hs_bd_s, if_neg ue, if_pos k5']
theorem hm_bv_id (x : Option hm) : (hm_bv x fun g => some g) = x := by cases x <;> rfl
theorem hs_bd_id (x : Option (Int32 × hs_S)) : (hs_bd x fun r g => some (r, g)) = x := by cases x <;> rfl
/-- the reference's rest, of an instruction that is plain -/
theorem rest_p {kd : Nat} (hk : kd < 256) (hJ : ¬ s_isJ kd = true) (h : kd ≠ 172 ∧ kd ≠ 184 ∧ kd ≠ 188 ∧ kd ≠ 190 ∧ kd ≠ 46 ∧ kd ≠ 79 ∧ kd ≠ 191) (g : hm) : ns_rest (nI kd) g = nX12_plain (nI kd) g := by
  obtain ⟨n1, n2, n3, n4, n5, n6, n7⟩ := h
  have u : ∀ b : Nat, b < 256 → kd ≠ b → ¬ nI kd = nI b := fun b hb h => nI_ne (by omega) (by omega) h
  have hj : s_bI (s_isJ kd) = 0 := by rw [show s_isJ kd = false by simpa using hJ]; rfl
  unfold ns_rest
  have u172 : ¬ nI kd = (172 : Int32) := u 172 (by decide) n1
  have u184 : ¬ nI kd = (184 : Int32) := u 184 (by decide) n2
  have u188 : ¬ nI kd = (188 : Int32) := u 188 (by decide) n3
  have u190 : ¬ nI kd = (190 : Int32) := u 190 (by decide) n4
  have u46 : ¬ nI kd = (46 : Int32) := u 46 (by decide) n5
  have u79 : ¬ nI kd = (79 : Int32) := u 79 (by decide) n6
  have u191 : ¬ nI kd = (191 : Int32) := u 191 (by decide) n7
  rw [if_neg u172, if_neg u184, q_isJump hk, hm_bd_s, if_pos hj, if_neg u188, if_neg u190, if_neg u46, if_neg u79, if_neg u191, hm_bv_id]
theorem rest_a {kd : Nat} (h : kd = 188 ∨ kd = 190 ∨ kd = 46 ∨ kd = 79 ∨ kd = 191) (g : hm) : ns_rest (nI kd) g = nX12_ofArrays (nI kd) g := by
  unfold ns_rest njX12_step_211
  rcases h with e | e | e | e | e <;> subst e
  · rw [if_neg (by decide), if_neg (by decide), q_isJump (by decide), hm_bd_s, if_pos (by decide), if_pos (by decide), hm_bv_id]
  · rw [if_neg (by decide), if_neg (by decide), q_isJump (by decide), hm_bd_s, if_pos (by decide), if_neg (by decide), if_pos (by decide), hm_bv_id]
  · rw [if_neg (by decide), if_neg (by decide), q_isJump (by decide), hm_bd_s, if_pos (by decide), if_neg (by decide), if_neg (by decide), if_pos (by decide), hm_bv_id]
  · rw [if_neg (by decide), if_neg (by decide), q_isJump (by decide), hm_bd_s, if_pos (by decide), if_neg (by decide), if_neg (by decide), if_neg (by decide), if_pos (by decide), hm_bv_id]
  · rw [if_neg (by decide), if_neg (by decide), q_isJump (by decide), hm_bd_s, if_pos (by decide), if_neg (by decide), if_neg (by decide), if_neg (by decide), if_neg (by decide), if_pos (by decide), hm_bv_id]
theorem kinds2 : (List.range 256).all (fun k => !(s_isK k && (decide (s_tk k = 2) && decide (s_gv k = 1))) || (s_isJ k || decide (k = 172 ∨ k = 184 ∨ k = 188 ∨ k = 190 ∨ k = 46 ∨ k = 79 ∨ k = 191 ∨ k = 0 ∨ k = 16 ∨ k = 17 ∨ k = 21 ∨ k = 54 ∨ k = 87 ∨ k = 89 ∨ k = 116 ∨ k = 96 ∨ k = 100 ∨ k = 104 ∨ k = 126 ∨ k = 128 ∨ k = 130 ∨ k = 108 ∨ k = 112))) = true := by decide +kernel
/-- a jump -/
theorem TR.jmp {s0 s : hs_S} {g : hm} {F m x d n kd a b y : Nat} (T : TR s0 s g F m x d) (C : CM s0 m n) (hJ : s_isJ kd = true) (hK : s_isK kd = true) (hd : kd < 167 → 0 < d) (hx : x + 1 < n) (h0 : hs_I s0 304 (4001 * m + x) = nI kd) (h1 : hs_I s0 304 (4001 * m + (x + 1)) = nI a) (ha : a < 256) (h2 : kd = 168 → x + 2 < n ∧ hs_I s0 304 (4001 * m + (x + 2)) = nI b) (hb : b < 256) (hy : s_tg kd x a b = (y : Int)) : SO s0 (c_rest (105 + 3 * F) (nI kd) s) (ns_rest (nI kd) g) F := by
  obtain ⟨s', g', y', d', q1, q2, q3⟩ := T.jump C hJ hK hd hx h0 h1 ha h2 hb hy
  have hk := (s_isJ_256 hJ).1
  have cs := s_isJ_c hJ
  have u1 : ¬ nI kd = (184 : Int32) := nI_ne (b := 184) (by omega) (by decide) (by omega)
  have u2 : ¬ nI kd = (172 : Int32) := nI_ne (b := 172) (by omega) (by decide) (by omega)
  have hj : ¬ s_bI (s_isJ kd) = 0 := by rw [hJ]; decide
  refine Or.inl ⟨s', g', F, m, y', d', ?_, ?_, q3⟩
  · unfold c_rest
    rw [if_neg u1, if_neg u2, (x_kinds hk s).1, hs_bd_s, if_neg hj, if_pos T.k5, q1, hs_bd_s]
  · rw [ns_rest_j hk hJ, q2, hm_bv_s]
