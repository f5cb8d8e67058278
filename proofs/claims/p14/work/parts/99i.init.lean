/-! THE TWO AGREE WHEN THEY ARE NEW -/
def pc_1 (g : hs_S) : Bool := (List.range 320).all (fun a => (List.range 60).all (fun j => !(coS (gm_k a) j) || decide (ow (hs_R g a j - 1) = ow a)))
def pc_S (g : hs_S) (A : Nat) : Bool := decide (hs_R g A 0 = A + 6) && (decide (hs_R g A 1 = A + 2) && (decide (hs_R g A 2 = A + 3) && (decide (hs_R g (A + 2) 0 = A + 4) && (List.range 8).all (fun j => decide (hs_R g (A + 1) j = A + 7 + 2 * j) && (decide (hs_R g (A + 6 + 2 * j) 0 = A + 6) && decide (hs_R g (A + 6 + 2 * j) 1 = A + 8 + 2 * j))))))
def pc_2 (g : hs_S) : Bool := decide (hs_R g 92 0 = 94) && (decide (hs_R g 92 1 = 95) && (decide (hs_R g 95 0 = 97) && (decide (hs_R g 95 1 = 98) && (decide (hs_R g 95 2 = 99) && (decide (hs_R g 95 3 = 100) && (decide (hs_R g 91 0 = 93) && (decide (hs_R g 0 3 = 68) && (decide (hs_R g 0 4 = 90) && (decide (hs_R g 0 5 = 92) && (decide (hs_R g 0 6 = 96) && (List.range 3).all (fun j => decide (hs_R g 0 j - 1 = 1) || (decide (hs_R g 0 j - 1 = 23) || decide (hs_R g 0 j - 1 = 45)))))))))))))
def pc_3 (g : hs_S) : Bool := decide (hs_I g 3 4 = 0) && (decide (hs_I g 25 4 = 0) && (decide (hs_I g 47 4 = 0) && (decide (hs_I g (hs_R g 0 1 - 1) 4 = 0) && (decide (hs_I g 67 4 = 0) && (decide (hs_I g 285 2 = 0) && (decide (hs_I g 285 3 = 0) && (decide (hs_I g 285 22 = 0) && decide (hs_I g (hs_R g 0 0 - 1) 3 = 0))))))))
def pc_all : Bool := match pp_st with
  | none => false
  | some (_, g) => pc_1 g && ((pc_S g 1 && (pc_S g 23 && (pc_S g 45 && pc_S g 67))) && (pc_2 g && pc_3 g))
set_option maxRecDepth 100000 in
theorem pc_run : pc_all = true := by decide +kernel
theorem coS_60 {k j : Nat} (h : coS k j = true) : j < 60 := by
  unfold coS at h
  simp only [Bool.or_eq_true, Bool.and_eq_true, decide_eq_true_eq] at h
  omega
theorem coS_999 (j : Nat) : coS 999 j = false := by
  unfold coS
  rfl
theorem pc_S.ok {g : hs_S} {A : Nat} (h : pc_S g A = true) : SF (hs_R g) A := by
  unfold pc_S at h
  simp only [Bool.and_eq_true, decide_eq_true_eq] at h
  obtain ⟨h1, h2, h3, h4, h5⟩ := h
  refine ⟨h1, h2, h3, h4, fun j hj => ?_⟩
  have := all_r h5 hj
  simp only [Bool.and_eq_true, decide_eq_true_eq] at this
  exact this
theorem pc_facts : ∃ g1 g4 : hs_S, fX11_init hs_0.1 (hs_new hs_0 9 0) = some g1 ∧ fX12_init g1.1 (hs_new g1 10 0) = some g4 ∧ g1.1 = 285 ∧ AG g4 := by
  obtain ⟨g1, g4, e1, e4, b0, cj, rj, -, pr⟩ := pb_facts
  refine ⟨g1, g4, e1, e4, b0, ?_⟩
  have hr := pc_run
  have hp : pp_st = some (g1.1, g4) := by
    unfold pp_st
    rw [e1]
    show hs_bv (fX12_init g1.1 (hs_new g1 10 0)) (fun g4 => some (g1.1, g4)) = some (g1.1, g4)
    rw [e4]
    rfl
  unfold pc_all at hr
  rw [hp] at hr
  have hr2 : (pc_1 g4 && ((pc_S g4 1 && (pc_S g4 23 && (pc_S g4 45 && pc_S g4 67))) && (pc_2 g4 && pc_3 g4))) = true := hr
  simp only [Bool.and_eq_true] at hr2
  obtain ⟨b1, ⟨s1, s2, s3, s4⟩, b2, b3⟩ := hr2
  unfold pc_2 at b2
  unfold pc_3 at b3
  simp only [Bool.and_eq_true, decide_eq_true_eq] at b2 b3
  obtain ⟨d1, d2, l1, l2, l3, l4, m1, m2, m3, m4, m5, m6⟩ := b2
  obtain ⟨n1, n2, n3, n4, n5, n6, n7, n8, n9⟩ := b3
  refine ⟨cj, rj, ⟨fun a j hj => ?_, fun A hA => ?_, ⟨d1, d2⟩, ⟨l1, l2, l3, l4⟩, m1, m2, m3, m4, m5, fun j hj => ?_⟩, fun A hA => ?_, ⟨0, fun _ => 0, ⟨n6, by omega, fun i hi => absurd hi (by omega)⟩, n9, fun i hi => absurd hi (by omega)⟩, pr, Or.inl ⟨n7, n4, n8, n5⟩⟩
  · have ha : a < 320 := by
      by_cases c : a < 320
      · exact c
      · rw [(gm_k_999 (a := a) (by omega)).1, coS_999] at hj
        cases hj
    have x := all_r (all_r b1 ha) (coS_60 hj)
    rw [hj] at x
    exact of_decide_eq_true x
  · rcases hA with e | e | e | e <;> rw [e]
    · exact pc_S.ok s1
    · exact pc_S.ok s2
    · exact pc_S.ok s3
    · exact pc_S.ok s4
  · have x := all_r m6 hj
    simp only [Bool.or_eq_true, decide_eq_true_eq] at x
    exact x
  · rcases hA with e | e | e <;> rw [e]
    · exact n1
    · exact n2
    · exact n3
