/-! THE TWO MACHINES: plain instructions -/
/-- method m of what is rewritten -/
def CM (s0 : hs_S) (m n : Nat) : Prop := ∃ (a h pm : Nat) (e : Nat → Nat), mv s0 (73 + 2 * m) a n e ∧ hs_R s0 (73 + 2 * m) 0 = 73 ∧ hs_R s0 (73 + 2 * m) 1 = 75 + 2 * m ∧ n ≤ 4000 ∧ hs_I s0 305 m = nI n ∧ hs_I s0 (73 + 2 * m) 4 = nI pm ∧ pm ≤ 4 ∧ hs_I s0 287 m = nI pm ∧ hs_I s0 (73 + 2 * m) 6 = nI h ∧ h ≤ 8 ∧ hs_I s0 290 m = nI h ∧ (∀ i, i < 4 * h → hs_I s0 (74 + 2 * m) i = hs_I s0 306 (32 * m + i)) ∧ ∀ k, k < n → hs_I s0 304 (4001 * m + k) = nI (e k % 256)
theorem k6_m {m : Nat} (hm8 : m < 8) : gm_k (73 + 2 * m) = 6 ∧ gm_k (74 + 2 * m) = 100 ∧ gm_n (74 + 2 * m) = 32 := by
  obtain ⟨-, -, -, -, -, k6⟩ := sk isS_67
  obtain ⟨q1, q2, q3⟩ := k6 m hm8
  exact ⟨q1, q2, q3⟩
theorem CM.mv {s0 s : hs_S} {g : hm} {m n : Nat} (C : CM s0 m n) (hm8 : m < 8) (B : Ba s0 s g) : ∃ a e, mv s (73 + 2 * m) a n e ∧ ∀ k, k < n → hs_I s0 304 (4001 * m + k) = nI (e k % 256) := by
  obtain ⟨a, h, pm, e, v, r0, r1, c1, c2, c3, c4, c5, c6, c7, c8, c9, c10⟩ := C
  have hR : hs_R s (73 + 2 * m) = hs_R s0 (73 + 2 * m) := B.2.2.2.2.1 _ (by rw [(k6_m hm8).1]; decide)
  have hI := B.2.2.1 (73 + 2 * m) (by omega)
  refine ⟨a, e, v.fr (by rw [hI]) (by rw [hI]) (by rw [hR]) (fun k hk => ?_), c10⟩
  rw [r0]
  show hs_I s 72 _ = hs_I s0 72 _
  rw [B.2.2.1 72 (by decide)]
/-- a byte of the code -/
theorem TR.val {s0 s : hs_S} {g : hm} {F m x d n y : Nat} (T : TR s0 s g F m x d) (C : CM s0 m n) (hy : y < n) : fX7_valueAt (73 + 2 * m) (nI y) s = some (hs_I s0 304 (4001 * m + y), s) := by
  obtain ⟨a1, a2, a3, a4, a5, a6, -⟩ := T
  obtain ⟨a, e, v, c10⟩ := C.mv a6 a1
  have hn := (v.lt a1.1).1
  rw [x_val a1.1 v (by omega), c10 y hy]
  unfold vE
  rw [if_pos hy]
theorem TR.kind {s0 s : hs_S} {g : hm} {F m x d n : Nat} (T : TR s0 s g F m x d) (C : CM s0 m n) (hy : x < n) : fX3_kind (105 + 3 * F) s = some (hs_I s0 304 (4001 * m + x), s) := by
  have v := T.val C hy
  obtain ⟨a1, a2, a3, a4, a5, a6, a7, a8, a9, a10, -⟩ := T
  obtain ⟨k1, -⟩ := mk a2
  unfold fX3_kind
  rw [if_pos (a1.1.k k1), a8, if_pos (show ¬ 74 + 2 * m = 0 by omega), show 74 + 2 * m - 1 = 73 + 2 * m by omega, if_pos (a1.1.k (k6_m a6).1), a10, v, hs_bd_s]
theorem TR.opd {s0 s : hs_S} {g : hm} {F m x d n : Nat} (T : TR s0 s g F m x d) (C : CM s0 m n) (hy : x + 1 < n) : fX3_operand (105 + 3 * F) s = some (hs_I s0 304 (4001 * m + (x + 1)), s) := by
  have v := T.val C hy
  obtain ⟨a1, a2, a3, a4, a5, a6, a7, a8, a9, a10, -⟩ := T
  obtain ⟨k1, -⟩ := mk a2
  unfold fX3_operand
  rw [if_pos (a1.1.k k1), a8, if_pos (show ¬ 74 + 2 * m = 0 by omega), show 74 + 2 * m - 1 = 73 + 2 * m by omega, if_pos (a1.1.k (k6_m a6).1), a10, nI_1, v, hs_bd_s]
theorem TR.code {s0 s : hs_S} {g : hm} {F m x d : Nat} (T : TR s0 s g F m x d) {i : Nat} (hx : x + i < 4001) : nX12_codeAt (nI i) g = some (hs_I s0 304 (4001 * m + (x + i)), g) := by
  obtain ⟨a1, a2, a3, a4, a5, a6, a7, a8, a9, a10, -⟩ := T
  rw [q_codeAt a2 a4 a6 a7 a9 hx, a1.2.2.2.2.2.1 304 (by decide) (by decide)]
/-- something is thrown: D frames are left -/
def TT (s0 s : hs_S) (g : hm) (D e : Nat) : Prop := Ba s0 s g ∧ D ≤ 60 ∧ hs_I s 100 3 = nI D ∧ g 285 40 = nI D ∧ (∀ f, f < D → Fe s g f) ∧ (∀ f, f + 1 < D → Se s g f) ∧ g 285 47 = nI e ∧ g 285 46 = 0
theorem TR.tt {s0 s s' : hs_S} {g : hm} {F m x d : Nat} (T : TR s0 s g F m x d) (e : Nat) (w : WT s') (hR : hs_R s' = hs_R s) (hb : ∀ b, b ≠ 105 + 3 * F → b ≠ 107 + 3 * F → hs_I s' b = hs_I s b) (h4 : hs_I s' (105 + 3 * F) 4 = hs_I s (105 + 3 * F) 4) : TT s0 s' (hm_w g 285 47 (nI e)) (F + 1) e := by
  obtain ⟨a1, a2, a3, a4, a5, a6, a7, a8, a9, a10, a11, a12, a13, a14, a15, a16, a17⟩ := T
  have gr : ∀ a, a ≠ 285 → hm_w g 285 47 (nI e) a = g a := fun a ha => hm_w_ne ha
  refine ⟨a1.to w hR (fun b hb2 => hb b (by omega) (by omega)) (fun a h1 h2 => gr a (by omega)) (fun j hj => by rw [hm_w_o (by omega)]) (gr 313 (by decide)) (gr 314 (by decide)), by omega, by rw [hb 100 (by omega) (by omega)]; exact a3, by rw [hm_w_o (by decide)]; exact a4, fun f hf => ?_, fun f hf => ?_, by rw [hm_w_eq], by rw [hm_w_o (by decide)]; exact a17⟩
  · by_cases c : f = F
    · subst c
      exact ⟨⟨m, a6, by rw [gr 315 (by decide)]; exact a7, by rw [hR]; exact a8⟩, by rw [h4, gr 316 (by decide), a10, a9], fun i hi => by rw [hb (106 + 3 * f) (by omega) (by omega), gr 319 (by decide)]; exact a11 i hi⟩
    · exact (a5 f (by omega)).1.to (by rw [hR]) (by rw [hb (105 + 3 * f) (by omega) (by omega)]) (hb _ (by omega) (by omega)) (by rw [gr 315 (by decide)]) (by rw [gr 316 (by decide)]) (fun i hi => by rw [gr 319 (by decide)])
  · exact (a5 f (by omega)).2.to (by rw [hb (105 + 3 * f) (by omega) (by omega)]) (hb _ (by omega) (by omega)) (by rw [gr 317 (by decide)]) (fun i hi => by rw [gr 318 (by decide)])
/-- an instruction is done in both: behind it, at y -/
def OK1 (s0 : hs_S) (p : Option (Int32 × hs_S)) (q : Option hm) (F m x y d : Nat) : Prop := ∃ s1 g1, p = some (0, s1) ∧ hs_I s1 (105 + 3 * F) 4 = nI x ∧ q = some g1 ∧ TR s0 (hs_wI s1 (105 + 3 * F) 4 (nI y)) g1 F m y d
/-- it throws in both -/
def TH1 (s0 : hs_S) (p : Option (Int32 × hs_S)) (q : Option hm) (F : Nat) : Prop := ∃ e s1 g1, 1 ≤ e ∧ e ≤ 4 ∧ p = some (nI e, s1) ∧ q = some g1 ∧ TT s0 s1 g1 (F + 1) e
theorem TR.done {s0 s : hs_S} {g : hm} {F m x d : Nat} (T : TR s0 s g F m x d) (y : Nat) {p : Option (Int32 × hs_S)} {q : Option hm} (hp : p = some (0, s)) (hq : q = njX12_plain_230 (nI F) (nI y) g) : OK1 s0 p q F m x y d := by
  have hF := T.2.1
  refine ⟨s, _, hp, T.2.2.2.2.2.2.2.2.2.1, ?_, T.at y⟩
  rw [hq]
  unfold njX12_plain_230
  rw [if_pos (hin hF (by decide)), cl (show F < 2147483648 by omega)]
theorem TR.p0 {s0 s : hs_S} {g : hm} {F m x d n : Nat} (T : TR s0 s g F m x d) (C : CM s0 m n) : OK1 s0 (fX6_act 100 (105 + 3 * F) (nI 0) s) (nX12_plain (nI 0) g) F m x (x + 1) d := by
  have hF := T.2.1
  have e1 : nI (F + 1) - (1 : Int32) = nI F := nI_pred F
  refine T.done (x + 1) ?_ ?_
  · unfold fX6_act
    rw [if_pos (show nI 0 = 0 from rfl)]
  · unfold nX12_plain njX12_plain_24
    rw [q_size (by decide), hm_bd_s, if_pos (by decide), T.2.2.2.1, e1, if_pos (hin hF (by decide)), q_size (by decide), hm_bd_s, cl (show F < 2147483648 by omega), T.2.2.2.2.2.2.2.2.1, nI_add, if_neg (by decide), if_neg (by decide), if_neg (by decide), if_neg (by decide), if_neg (by decide), if_neg (by decide), if_neg (by decide), if_pos (by decide)]
    rfl
/-- the reference's plain(), of an instruction with an operand a -/
theorem TR.pl1 {s0 s : hs_S} {g : hm} {F m x d n kd : Nat} (T : TR s0 s g F m x d) (C : CM s0 m n) (hk : kd < 256) (h2 : 2 ≤ s_sz kd) (hx : x + 1 < n) : nX12_plain (nI kd) g = njX12_plain_24 (nI kd) (nI F) (hs_I s0 304 (4001 * m + (x + 1))) g := by
  have e1 : nI (F + 1) - (1 : Int32) = nI F := nI_pred F
  have hn : n ≤ 4000 := by obtain ⟨a, h, pm, e, v, r0, r1, c1, -⟩ := C; exact c1
  have hs3 : s_sz kd ≤ 5 := by
    have q : (List.range 256).all (fun k => decide (s_sz k ≤ 5)) = true := by decide +kernel
    exact of_decide_eq_true (all_r q hk)
  have hc : nX12_codeAt (1 : Int32) g = some (hs_I s0 304 (4001 * m + (x + 1)), g) := T.code (i := 1) (by omega)
  have u : ¬ nI (s_sz kd) ≤ (1 : Int32) := fun z => absurd ((lei (b := 1) (by omega) (by decide)).mp z) (by omega)
  unfold nX12_plain
  rw [q_size hk, hm_bd_s, if_neg u, hc, hm_bd_s, T.2.2.2.1, e1]
/-- and of one without -/
theorem TR.pl0 {s0 s : hs_S} {g : hm} {F m x d kd : Nat} (T : TR s0 s g F m x d) (hk : kd < 256) (h2 : s_sz kd ≤ 1) : nX12_plain (nI kd) g = njX12_plain_24 (nI kd) (nI F) 0 g := by
  have e1 : nI (F + 1) - (1 : Int32) = nI F := nI_pred F
  have u : nI (s_sz kd) ≤ (1 : Int32) := (lei (b := 1) (by omega) (by decide)).mpr h2
  unfold nX12_plain
  rw [q_size hk, hm_bd_s, if_pos u, T.2.2.2.1, e1]
theorem TR.pl {s0 s : hs_S} {g : hm} {F m x d kd : Nat} (T : TR s0 s g F m x d) (hk : kd < 256) (a : Int32) : njX12_plain_24 (nI kd) (nI F) a g = (hm_bd (some (nI (s_sz kd), g)) fun r4 g3 =>
  if nI kd = (16 : Int32) then (
    hm_bd (nX12_signed a g3) fun r34 g33 =>
    hm_bv (nX12_push r34 g33) fun g35 =>
    njX12_plain_230 (nI F) (nI x + r4) g35
  ) else (
    if nI kd = (17 : Int32) then (
      hm_bd (nX12_codeAt (2 : Int32) g3) fun r28 g27 =>
      hm_bd (nX12_signedTwo (((256 : Int32) * a) + r28) g27) fun r30 g29 =>
      hm_bv (nX12_push r30 g29) fun g31 =>
      njX12_plain_230 (nI F) (nI x + r4) g31
    ) else (
      if nI kd = (21 : Int32) then (
        if hs_in (((20 : Int32) * nI F) + a) 1200 = true then
        hm_bv (nX12_push (g3 319 (((20 : Int32) * nI F) + a).toNatClampNeg) g3) fun g25 =>
        njX12_plain_230 (nI F) (nI x + r4) g25
        else none
      ) else (
        if nI kd = (54 : Int32) then (
          hm_bd (nX12_pop g3) fun r24 g23 =>
          if hs_in (((20 : Int32) * nI F) + a) 1200 = true then
          njX12_plain_230 (nI F) (nI x + r4) (hm_w g23 319 (((20 : Int32) * nI F) + a).toNatClampNeg r24)
          else none
        ) else (
          if nI kd = (87 : Int32) then (
            hm_bd (nX12_pop g3) fun r22 g21 =>
            njX12_plain_230 (nI F) (nI x + r4) g21
          ) else (
            if nI kd = (89 : Int32) then (
              hm_bd (nX12_top g3) fun r18 g17 =>
              hm_bv (nX12_push r18 g17) fun g19 =>
              njX12_plain_230 (nI F) (nI x + r4) g19
            ) else (
              if nI kd = (116 : Int32) then (
                hm_bd (nX12_pop g3) fun r14 g13 =>
                hm_bv (nX12_push (-r14) g13) fun g15 =>
                njX12_plain_230 (nI F) (nI x + r4) g15
              ) else (
                if nI kd = 0 then (
                  njX12_plain_230 (nI F) (nI x + r4) g3
                ) else (
                  hm_bd (nX12_pop g3) fun r6 g5 =>
                  hm_bd (nX12_pop g5) fun r8 g7 =>
                  if nI kd = (108 : Int32) then (
                    njX12_plain_207 (nI kd) (nI F) (nI x + r4) r6 r8 g7
                  ) else (
                    if nI kd = (112 : Int32) then (
                      njX12_plain_207 (nI kd) (nI F) (nI x + r4) r6 r8 g7
                    ) else (
                      njX12_plain_218 (nI kd) (nI F) (nI x + r4) r6 r8 g7
                    )
                  )
                )
              )
            )
          )
        )
      )
    )
  )) := by
  have hF := T.2.1
  unfold njX12_plain_24
  rw [if_pos (hin hF (by decide)), q_size hk, cl (show F < 2147483648 by omega), T.2.2.2.2.2.2.2.2.1]
theorem TR.w {s0 s : hs_S} {g : hm} {F m x d : Nat} (T : TR s0 s g F m x d) : WT s := T.1.1
theorem TR.k3 {s0 s : hs_S} {g : hm} {F m x d : Nat} (T : TR s0 s g F m x d) : hs_kd s (105 + 3 * F) = 3 := T.1.1.k (mk T.2.1).1
theorem TR.k5 {s0 s : hs_S} {g : hm} {F m x d : Nat} (T : TR s0 s g F m x d) : hs_kd s 100 = 5 := T.1.1.k mk0.1
/-- a byte is pushed -/
theorem TR.p16 {s0 s : hs_S} {g : hm} {F m x d n a : Nat} (T : TR s0 s g F m x d) (C : CM s0 m n) (hd : d < 20) (hx : x + 1 < n) (ha : a < 256) (h1 : hs_I s0 304 (4001 * m + (x + 1)) = nI a) : OK1 s0 (fX6_act 100 (105 + 3 * F) (nI 16) s) (nX12_plain (nI 16) g) F m x (x + 2) (d + 1) := by
  obtain ⟨s1, g1, e1, e2, T1⟩ := T.push hd (zI (s_s8 a))
  refine T1.done (x + 2) ?_ ?_
  · unfold fX6_act
    rw [if_neg (by decide), if_pos (show nI 16 = (16 : Int32) from rfl), if_pos T.k3, T.opd C hx, hs_bd_s, if_pos T.k3, h1, b8 ha, e1]
    rfl
  · rw [T.pl1 C (by decide) (by decide) hx, T.pl (by decide), hm_bd_s, if_pos (by decide), h1, q_signed ha, hm_bd_s, e2, hm_bv_s, nI_add]
    rfl
/-- a pair is pushed -/
theorem TR.p17 {s0 s : hs_S} {g : hm} {F m x d n a b : Nat} (T : TR s0 s g F m x d) (C : CM s0 m n) (hd : d < 20) (hx : x + 2 < n) (ha : a < 256) (hb : b < 256) (h1 : hs_I s0 304 (4001 * m + (x + 1)) = nI a) (h2 : hs_I s0 304 (4001 * m + (x + 2)) = nI b) : OK1 s0 (fX6_act 100 (105 + 3 * F) (nI 17) s) (nX12_plain (nI 17) g) F m x (x + 3) (d + 1) := by
  obtain ⟨s1, g1, e1, e2, T1⟩ := T.push hd (zI (s_s16 (256 * a + b)))
  have hn : n ≤ 4000 := by obtain ⟨a, h, pm, e, v, r0, r1, c1, -⟩ := C; exact c1
  have e3 : (256 : Int32) * nI a + nI b = nI (256 * a + b) := ix 256 a b
  have hc : nX12_codeAt (2 : Int32) g = some (hs_I s0 304 (4001 * m + (x + 2)), g) := T.code (i := 2) (by omega)
  have hp : fX7_pairAt (73 + 2 * m) (nI (x + 1)) s = some (nI (256 * a + b), s) := by
    unfold fX7_pairAt
    have k6 := T.w.k (k6_m T.2.2.2.2.2.1).1
    rw [if_pos k6, T.val C (show x + 1 < n by omega), hs_bd_s, if_pos k6, nI_1, T.val C hx, hs_bd_s, h1, h2, x_pair ha hb]
  refine T1.done (x + 3) ?_ ?_
  · unfold fX6_act
    rw [if_neg (by decide), if_neg (by decide), if_pos (show nI 17 = (17 : Int32) from rfl), if_pos T.k3, T.2.2.2.2.2.2.2.1, if_pos (show ¬ 74 + 2 * m = 0 by omega), show 74 + 2 * m - 1 = 73 + 2 * m by omega, if_pos (T.w.k (k6_m T.2.2.2.2.2.1).1), T.2.2.2.2.2.2.2.2.2.1, nI_1, hp, hs_bd_s, if_pos T.k3, b16 (by omega), e1]
    rfl
  · rw [T.pl1 C (by decide) (by decide) (by omega), T.pl (by decide), hm_bd_s, if_neg (by decide), if_pos (by decide), h1, hc, hm_bd_s, h2, e3, q_signedTwo (by omega), hm_bd_s, e2, hm_bv_s, nI_add]
    rfl
/-- a local is pushed -/
theorem TR.p21 {s0 s : hs_S} {g : hm} {F m x d n a : Nat} (T : TR s0 s g F m x d) (C : CM s0 m n) (hd : d < 20) (hx : x + 1 < n) (ha : a < 20) (h1 : hs_I s0 304 (4001 * m + (x + 1)) = nI a) : OK1 s0 (fX6_act 100 (105 + 3 * F) (nI 21) s) (nX12_plain (nI 21) g) F m x (x + 2) (d + 1) := by
  have hF := T.2.1
  obtain ⟨s1, g1, e1, e2, T1⟩ := T.push hd (g 319 (20 * F + a))
  have e20 : (20 : Int32) * nI F + nI a = nI (20 * F + a) := ix 20 F a
  refine T1.done (x + 2) ?_ ?_
  · unfold fX6_act
    rw [if_neg (by decide), if_neg (by decide), if_neg (by decide), if_pos (show nI 21 = (21 : Int32) from rfl), if_pos T.k3, T.opd C hx, hs_bd_s, if_pos T.k3, h1, T.loc ha, hs_bd_s, if_pos T.k3, e1]
    rfl
  · rw [T.pl1 C (by decide) (by decide) hx, T.pl (by decide), hm_bd_s, if_neg (by decide), if_neg (by decide), if_pos (by decide), h1, e20, if_pos (hin (show 20 * F + a < 1200 by omega) (by decide)), cl (show 20 * F + a < 2147483648 by omega), e2, hm_bv_s, nI_add]
    rfl
/-- a local is kept -/
theorem TR.p54 {s0 s : hs_S} {g : hm} {F m x d n a : Nat} (T : TR s0 s g F m x (d + 1)) (C : CM s0 m n) (hx : x + 1 < n) (ha : a < 20) (h1 : hs_I s0 304 (4001 * m + (x + 1)) = nI a) : OK1 s0 (fX6_act 100 (105 + 3 * F) (nI 54) s) (nX12_plain (nI 54) g) F m x (x + 2) d := by
  have hF := T.2.1
  obtain ⟨v, s1, g1, e1, e2, T1⟩ := T.pop
  obtain ⟨e3, T2⟩ := T1.setl ha v
  have e20 : (20 : Int32) * nI F + nI a = nI (20 * F + a) := ix 20 F a
  refine T2.done (x + 2) ?_ ?_
  · unfold fX6_act
    rw [if_neg (by decide), if_neg (by decide), if_neg (by decide), if_neg (by decide), if_pos (show nI 54 = (54 : Int32) from rfl), if_pos T.k3, T.opd C hx, hs_bd_s, if_pos T.k3, e1, hs_bd_s, if_pos T1.k3, h1, e3]
    rfl
  · rw [T.pl1 C (by decide) (by decide) hx, T.pl (by decide), hm_bd_s, if_neg (by decide), if_neg (by decide), if_neg (by decide), if_pos (by decide), e2, hm_bd_s, h1, e20, if_pos (hin (show 20 * F + a < 1200 by omega) (by decide)), cl (show 20 * F + a < 2147483648 by omega), nI_add]
    rfl
theorem TR.p87 {s0 s : hs_S} {g : hm} {F m x d : Nat} (T : TR s0 s g F m x (d + 1)) : OK1 s0 (fX6_act 100 (105 + 3 * F) (nI 87) s) (nX12_plain (nI 87) g) F m x (x + 1) d := by
  obtain ⟨v, s1, g1, e1, e2, T1⟩ := T.pop
  refine T1.done (x + 1) ?_ ?_
  · unfold fX6_act
    rw [if_neg (by decide), if_neg (by decide), if_neg (by decide), if_neg (by decide), if_neg (by decide), if_pos (show nI 87 = (87 : Int32) from rfl), if_pos T.k3, e1, hs_bd_s]
  · rw [T.pl0 (by decide) (by decide), T.pl (by decide), hm_bd_s, if_neg (by decide), if_neg (by decide), if_neg (by decide), if_neg (by decide), if_pos (by decide), e2, hm_bd_s, nI_add]
    rfl
theorem TR.p89 {s0 s : hs_S} {g : hm} {F m x d : Nat} (T : TR s0 s g F m x (d + 1)) (hd : d + 1 < 20) : OK1 s0 (fX6_act 100 (105 + 3 * F) (nI 89) s) (nX12_plain (nI 89) g) F m x (x + 1) (d + 2) := by
  obtain ⟨v, e1, e2⟩ := T.top
  obtain ⟨s1, g1, e3, e4, T1⟩ := T.push hd v
  refine T1.done (x + 1) ?_ ?_
  · unfold fX6_act
    rw [if_neg (by decide), if_neg (by decide), if_neg (by decide), if_neg (by decide), if_neg (by decide), if_neg (by decide), if_pos (show nI 89 = (89 : Int32) from rfl), if_pos T.k3, e1, hs_bd_s, if_pos T.k3, e3]
    rfl
  · rw [T.pl0 (by decide) (by decide), T.pl (by decide), hm_bd_s, if_neg (by decide), if_neg (by decide), if_neg (by decide), if_neg (by decide), if_neg (by decide), if_pos (by decide), e2, hm_bd_s, e4, hm_bv_s, nI_add]
    rfl
theorem TR.p116 {s0 s : hs_S} {g : hm} {F m x d : Nat} (T : TR s0 s g F m x (d + 1)) : OK1 s0 (fX6_act 100 (105 + 3 * F) (nI 116) s) (nX12_plain (nI 116) g) F m x (x + 1) (d + 1) := by
  have hd := T.2.2.2.2.2.2.2.2.2.2.2.1
  obtain ⟨v, s1, g1, e1, e2, T1⟩ := T.pop
  obtain ⟨s2, g2, e3, e4, T2⟩ := T1.push (by omega) (-v)
  refine T2.done (x + 1) ?_ ?_
  · unfold fX6_act
    rw [if_neg (by decide), if_neg (by decide), if_neg (by decide), if_neg (by decide), if_neg (by decide), if_neg (by decide), if_neg (by decide), if_pos (show nI 116 = (116 : Int32) from rfl), if_pos T.k3, e1, hs_bd_s, if_pos T1.k3, e3]
    rfl
  · rw [T.pl0 (by decide) (by decide), T.pl (by decide), hm_bd_s, if_neg (by decide), if_neg (by decide), if_neg (by decide), if_neg (by decide), if_neg (by decide), if_neg (by decide), if_pos (by decide), e2, hm_bd_s, e4, hm_bv_s, nI_add]
    rfl
