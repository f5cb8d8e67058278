/-! THE TWO MACHINES: two operands, arrays -/
def isT (kd : Nat) : Prop := kd = 96 ∨ kd = 100 ∨ kd = 104 ∨ kd = 126 ∨ kd = 128 ∨ kd = 130
theorem act_two {kd : Nat} (hk : isT kd ∨ kd = 108 ∨ kd = 112) (fr : Nat) (s : hs_S) : fX6_act 100 fr (nI kd) s = if hs_kd s 100 = 5 then (hs_bd (fX6_actOnTwo 100 fr (nI kd) s) fun r68 g67 => some (r68, g67)) else none := by
  unfold fX6_act isT at *
  rcases hk with (e | e | e | e | e | e) | e | e <;> subst e <;> rw [if_neg (by decide), if_neg (by decide), if_neg (by decide), if_neg (by decide), if_neg (by decide), if_neg (by decide), if_neg (by decide), if_neg (by decide), if_neg (by decide), (x_kinds (by decide) s).2.2.1, hs_bd_s, if_pos (by decide)]
theorem joined_eq {kd : Nat} (hk : isT kd) (lo up : Int32) (s : hs_S) (g : hm) : ∃ r, fX6_joined 100 (nI kd) lo up s = some (r, s) ∧ nX12_reckoned (nI kd) lo up g = some (r, g) := by
  unfold fX6_joined nX12_reckoned isT at *
  rcases hk with e | e | e | e | e | e <;> subst e
  · exact ⟨lo + up, by rw [if_pos (by decide)], by rw [if_pos (by decide)]⟩
  · exact ⟨lo - up, by rw [if_neg (by decide), if_pos (by decide)], by rw [if_neg (by decide), if_pos (by decide)]⟩
  · exact ⟨lo * up, by rw [if_neg (by decide), if_neg (by decide), if_pos (by decide)], by rw [if_neg (by decide), if_neg (by decide), if_pos (by decide)]⟩
  · exact ⟨lo &&& up, by rw [if_neg (by decide), if_neg (by decide), if_neg (by decide), if_pos (by decide)], by rw [if_neg (by decide), if_neg (by decide), if_neg (by decide), if_neg (by decide), if_neg (by decide), if_pos (by decide)]⟩
  · exact ⟨lo ||| up, by rw [if_neg (by decide), if_neg (by decide), if_neg (by decide), if_neg (by decide), if_pos (by decide)], by rw [if_neg (by decide), if_neg (by decide), if_neg (by decide), if_neg (by decide), if_neg (by decide), if_neg (by decide), if_pos (by decide)]⟩
  · exact ⟨lo ^^^ up, by rw [if_neg (by decide), if_neg (by decide), if_neg (by decide), if_neg (by decide), if_neg (by decide)], by rw [if_neg (by decide), if_neg (by decide), if_neg (by decide), if_neg (by decide), if_neg (by decide), if_neg (by decide), if_neg (by decide)]⟩
theorem isT.c {kd : Nat} (hk : isT kd ∨ kd = 108 ∨ kd = 112) : kd < 256 ∧ s_sz kd = 1 ∧ kd ≠ 16 ∧ kd ≠ 17 ∧ kd ≠ 21 ∧ kd ≠ 54 ∧ kd ≠ 87 ∧ kd ≠ 89 ∧ kd ≠ 116 ∧ kd ≠ 0 := by
  unfold isT at hk
  rcases hk with (e | e | e | e | e | e) | e | e <;> subst e <;> decide
theorem nI_ne {a b : Nat} (ha : a < 2147483648) (hb : b < 2147483648) (h : a ≠ b) : ¬ nI a = nI b := fun z => h ((eqi ha hb).mp z)
/-- the reference's plain() of two operands -/
theorem TR.pl2 {s0 s : hs_S} {g : hm} {F m x d kd : Nat} (T : TR s0 s g F m x d) (hk : isT kd ∨ kd = 108 ∨ kd = 112) : nX12_plain (nI kd) g = (hm_bd (nX12_pop g) fun r6 g5 => hm_bd (nX12_pop g5) fun r8 g7 =>
                  if nI kd = (108 : Int32) then (
                    njX12_plain_207 (nI kd) (nI F) (nI (x + 1)) r6 r8 g7
                  ) else (
                    if nI kd = (112 : Int32) then (
                      njX12_plain_207 (nI kd) (nI F) (nI (x + 1)) r6 r8 g7
                    ) else (
                      njX12_plain_218 (nI kd) (nI F) (nI (x + 1)) r6 r8 g7
                    )
                  )) := by
  obtain ⟨c1, c2, c3, c4, c5, c6, c7, c8, c9, c10⟩ := isT.c hk
  have u : ∀ b : Nat, b < 256 → kd ≠ b → ¬ nI kd = nI b := fun b hb h => nI_ne (by omega) (by omega) h
  have u0 : ¬ nI kd = 0 := u 0 (by decide) c10
  have u16 : ¬ nI kd = (16 : Int32) := u 16 (by decide) c3
  have u17 : ¬ nI kd = (17 : Int32) := u 17 (by decide) c4
  have u21 : ¬ nI kd = (21 : Int32) := u 21 (by decide) c5
  have u54 : ¬ nI kd = (54 : Int32) := u 54 (by decide) c6
  have u87 : ¬ nI kd = (87 : Int32) := u 87 (by decide) c7
  have u89 : ¬ nI kd = (89 : Int32) := u 89 (by decide) c8
  have u116 : ¬ nI kd = (116 : Int32) := u 116 (by decide) c9
  rw [T.pl0 c1 (by omega), T.pl c1, hm_bd_s, if_neg u16, if_neg u17, if_neg u21, if_neg u54, if_neg u87, if_neg u89, if_neg u116, if_neg u0, c2, nI_add]
theorem TR.two {s0 s : hs_S} {g : hm} {F m x d kd : Nat} (T : TR s0 s g F m x (d + 1 + 1)) (hk : isT kd) : OK1 s0 (fX6_act 100 (105 + 3 * F) (nI kd) s) (nX12_plain (nI kd) g) F m x (x + 1) (d + 1) := by
  have hd := T.2.2.2.2.2.2.2.2.2.2.2.1
  obtain ⟨up, s1, g1, e1, e2, T1⟩ := T.pop
  obtain ⟨lo, s2, g2, e3, e4, T2⟩ := T1.pop
  obtain ⟨r, e5, e6⟩ := joined_eq hk lo up s2 g2
  obtain ⟨s3, g3, e7, e8, T3⟩ := T2.push (by omega) r
  have c : kd ≠ 108 ∧ kd ≠ 112 ∧ kd < 256 := by unfold isT at hk; omega
  have u1 : ¬ nI kd = (108 : Int32) := nI_ne (b := 108) (by omega) (by decide) c.1
  have u2 : ¬ nI kd = (112 : Int32) := nI_ne (b := 112) (by omega) (by decide) c.2.1
  refine T3.done (x + 1) ?_ ?_
  · rw [act_two (Or.inl hk), if_pos T.k5]
    unfold fX6_actOnTwo
    rw [if_pos T.k3, e1, hs_bd_s, if_pos T1.k3, e3, hs_bd_s, if_neg u1, if_neg u2, if_pos T2.k5, e5, hs_bd_s, if_pos T2.k3, e7]
    rfl
  · rw [T.pl2 (Or.inl hk), e2, hm_bd_s, e4, hm_bd_s, if_neg u1, if_neg u2]
    unfold njX12_plain_218
    rw [e6, hm_bd_s, e8, hm_bv_s]
theorem TR.div {s0 s : hs_S} {g : hm} {F m x d kd : Nat} (T : TR s0 s g F m x (d + 1 + 1)) (hk : kd = 108 ∨ kd = 112) : OK1 s0 (fX6_act 100 (105 + 3 * F) (nI kd) s) (nX12_plain (nI kd) g) F m x (x + 1) (d + 1) ∨ TH1 s0 (fX6_act 100 (105 + 3 * F) (nI kd) s) (nX12_plain (nI kd) g) F := by
  have hd := T.2.2.2.2.2.2.2.2.2.2.2.1
  obtain ⟨up, s1, g1, e1, e2, T1⟩ := T.pop
  obtain ⟨lo, s2, g2, e3, e4, T2⟩ := T1.pop
  rw [act_two (Or.inr hk), if_pos T.k5, T.pl2 (Or.inr hk), e2, hm_bd_s, e4, hm_bd_s]
  unfold fX6_actOnTwo jX6_actOnTwo_23 njX12_plain_207
  rw [if_pos T.k3, e1, hs_bd_s, if_pos T1.k3, e3, hs_bd_s]
  by_cases c : up = 0
  · right
    refine ⟨1, s2, hm_w g2 285 47 (nI 1), by decide, by decide, ?_, ?_, T2.tt 1 T2.w rfl (fun _ _ _ => rfl) rfl⟩
    · rcases hk with e | e <;> subst e
      · rw [if_pos (by decide), if_pos c]; rfl
      · rw [if_neg (by decide), if_pos (by decide), if_pos c]; rfl
    · rcases hk with e | e <;> subst e
      · rw [if_pos (by decide), if_pos c]; rfl
      · rw [if_neg (by decide), if_pos (by decide), if_pos c]; rfl
  · left
    rcases hk with e | e <;> subst e
    · obtain ⟨s3, g3, e7, e8, T3⟩ := T2.push (by omega) (lo / up)
      refine T3.done (x + 1) ?_ ?_
      · unfold jX6_actOnTwo_47
        rw [if_pos (by decide), if_neg c, if_pos (by decide), if_pos c, if_pos T2.k3, e7]
        rfl
      · unfold njX12_plain_218 nX12_reckoned
        rw [if_pos (by decide), if_neg c, if_neg (by decide), if_neg (by decide), if_neg (by decide), if_pos (by decide), if_pos c, hm_bd_s, e8, hm_bv_s]
    · obtain ⟨s3, g3, e7, e8, T3⟩ := T2.push (by omega) (lo - lo / up * up)
      refine T3.done (x + 1) ?_ ?_
      · unfold jX6_actOnTwo_47
        rw [if_neg (by decide), if_pos (by decide), if_neg c, if_neg (by decide), if_pos c, if_pos T2.k3, e7]
        rfl
      · unfold njX12_plain_218 nX12_reckoned
        rw [if_neg (by decide), if_pos (by decide), if_neg c, if_neg (by decide), if_neg (by decide), if_neg (by decide), if_neg (by decide), if_pos (by decide), if_pos c, hm_bd_s, e8, hm_bv_s]
