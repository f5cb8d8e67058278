/-! WHAT THE FUNCTIONS ANSWER ON A FRESH OBJECT -/
theorem hs_kd_wI (g : hs_S) (a j : Nat) (v : Int32) (b : Nat) : hs_kd (hs_wI g a j v) b = hs_kd g b := rfl
theorem hs_ln_wI (g : hs_S) (a j : Nat) (v : Int32) (b : Nat) : hs_ln (hs_wI g a j v) b = hs_ln g b := rfl
theorem hs_R_wI (g : hs_S) (a j : Nat) (v : Int32) (b i : Nat) : hs_R (hs_wI g a j v) b i = hs_R g b i := rfl
theorem hs_bd_s {α β : Type} (r : α) (g : hs_S) (f : α → hs_S → Option β) : hs_bd (some (r, g)) f = f r g := rfl
theorem hs_bv_s {β : Type} (g : hs_S) (f : hs_S → Option β) : hs_bv (some g) f = f g := rfl
theorem hs_in_nI {j n : Nat} (h : j < n) (hj : j < 2 ^ 31) : hs_in (nI j) n = true := by
  simp only [hs_in, Bool.and_eq_true, Bool.not_eq_true', decide_eq_false_iff_not, decide_eq_true_eq]
  exact ⟨nI_pos hj, by rw [nI_clamp hj]; exact h⟩
/-- two calls, one behind the other, that answer alike -/
def pp_two (a : Option (Int32 × hs_S)) (b : hs_S → Option (Int32 × hs_S)) : Bool := match a with
  | none => false
  | some (r, g5) => decide (hs_kd g5 285 = 10) && match b g5 with
    | none => false
    | some (r', _) => decide (r = r')
theorem pp_two_ok {a : Option (Int32 × hs_S)} {b : hs_S → Option (Int32 × hs_S)} (h : pp_two a b = true) : ∃ (r : Int32) (g5 g6 : hs_S), a = some (r, g5) ∧ hs_kd g5 285 = 10 ∧ b g5 = some (r, g6) := by
  unfold pp_two at h
  cases a with
  | none => cases h
  | some q =>
    obtain ⟨r, g5⟩ := q
    simp only [Bool.and_eq_true, decide_eq_true_eq] at h
    cases hb : b g5 with
    | none => rw [hb] at h; cases h.2
    | some q' =>
      rw [hb] at h
      obtain ⟨r', g6⟩ := q'
      have h2 : r = r' := by simpa using h.2
      exact ⟨r, g5, g6, rfl, h.1, by rw [hb, h2]⟩
def pp_clr (g : hs_S) : Bool := match fX11_clear 0 g with
  | none => false
  | some g5 => decide (hs_kd g5 285 = 10) && (fX12_clear 285 g5).isSome
theorem pp_clr_ok {g : hs_S} (h : pp_clr g = true) : ∃ g5 g6 : hs_S, fX11_clear 0 g = some g5 ∧ hs_kd g5 285 = 10 ∧ fX12_clear 285 g5 = some g6 := by
  unfold pp_clr at h
  cases ha : fX11_clear 0 g with
  | none => rw [ha] at h; cases h
  | some g5 =>
    rw [ha] at h
    simp only [Bool.and_eq_true, decide_eq_true_eq] at h
    obtain ⟨g6, hb⟩ := Option.isSome_iff_exists.mp h.2
    exact ⟨g5, g6, rfl, h.1, hb⟩
def pp_st : Option (Nat × hs_S) := hs_bv (fX11_init hs_0.1 (hs_new hs_0 9 0)) fun g1 => hs_bv (fX12_init g1.1 (hs_new g1 10 0)) fun g4 => some (g1.1, g4)
def pp_F (g : hs_S) : Bool :=
  decide (hs_kd g 0 = 9) && decide (hs_R g 0 0 = 2) && decide (hs_R g 0 1 = 24) && decide (hs_R g 0 3 = 68) && decide (hs_R g 0 4 = 90) && decide (hs_R g 0 7 = 101) &&
  decide (hs_kd g 1 = 0) && decide (hs_kd g 23 = 0) && decide (hs_kd g 67 = 0) && decide (hs_I g 1 3 = 0) && decide (hs_I g 23 4 = 0) && decide (hs_I g 67 4 = 0) &&
  decide (hs_R g 1 0 = 7) && decide (hs_kd g 6 = 100) && decide (hs_ln g 6 = 6000) &&
  decide (hs_kd g 89 = 7) && decide (hs_R g 89 0 = 91) && decide (hs_kd g 90 = 100) && decide (hs_ln g 90 = 256) &&
  decide (hs_kd g 100 = 5) && decide (hs_R g 100 2 = 103) && decide (hs_kd g 102 = 8) && decide (hs_R g 102 0 = 104) && decide (hs_kd g 103 = 100) && decide (hs_ln g 103 = 4) &&
  decide (hs_kd g 285 = 10) && decide (hs_I g 285 2 = 0) && decide (hs_I g 285 3 = 0) && decide (hs_I g 285 22 = 0) && decide (hs_R g 285 1 = 287) && decide (hs_kd g 286 = 100) && decide (hs_ln g 286 = 6000) &&
  decide (hs_R g 285 32 = 313) && decide (hs_kd g 312 = 100) && decide (hs_ln g 312 = 256) && decide (hs_R g 285 34 = 314) && decide (hs_kd g 313 = 100) && decide (hs_ln g 313 = 4)
def pp_A (g : hs_S) : Bool := (List.range 4).all (fun j => decide (hs_I g 103 j = 0) && decide (hs_I g 313 j = 0)) && (List.range 256).all (fun j => decide (hs_I g 90 j = hs_I g 312 j))
def pp_C (g : hs_S) : Bool := pp_two (fX11_load 0 g) (fX12_load 285) && pp_two (fX11_rewrite 0 g) (fX12_rewrite 285) && pp_two (fX11_answer 0 g) (fX12_answer 285) && pp_two (fX11_counted 0 g) (fX12_counted 285) && pp_two (fX11_steps 0 g) (fX12_steps 285) && pp_two (fX11_unwrite 0 g) (fX12_unwrite 285) && pp_clr g
def pp_all : Bool := match pp_st with
  | none => false
  | some (k, g) => decide (k = 285) && pp_F g && pp_A g && pp_C g
set_option maxRecDepth 100000 in
theorem pp_run : pp_all = true := by decide +kernel
