/-! THE CLASS: every call answers. What the references are, and what a call may change -/
def aG (a : Nat) : Prop := gm_k a = 100 ∧ a < 285 ∧ a ≠ 90
def rA (R : Nat → Nat → Nat) (a j : Nat) : Prop := ¬ R a j = 0 ∧ aG (R a j - 1)
def rK (R : Nat → Nat → Nat) (a j k : Nat) : Prop := ¬ R a j = 0 ∧ gm_k (R a j - 1) = k
def rL (R : Nat → Nat → Nat) (a j k m k2 : Nat) : Prop := ¬ R a j = 0 ∧ gm_k (R a j - 1) = k ∧ gm_n (R a j - 1) = m ∧ ∀ i, i < m → rK R (R a j - 1) i k2
def CR1 (R : Nat → Nat → Nat) (a : Nat) : Prop :=
  (gm_k a = 0 → rA R a 0 ∧ rL R a 1 102 8 6 ∧ rK R a 2 6) ∧ (gm_k a = 1 → rA R a 0 ∧ rA R a 1) ∧ (gm_k a = 2 → rK R a 0 1) ∧ (gm_k a = 3 → rA R a 0 ∧ rA R a 1 ∧ rK R a 3 6) ∧
  (gm_k a = 4 → rA R a 0 ∧ rA R a 1 ∧ rA R a 2 ∧ rA R a 3) ∧ (gm_k a = 5 → rK R a 0 0 ∧ rL R a 1 103 60 3 ∧ rK R a 2 8) ∧ (gm_k a = 6 → rA R a 0 ∧ rA R a 1) ∧ (gm_k a = 7 → ¬ R a 0 = 0 ∧ R a 0 - 1 = 90) ∧ (gm_k a = 8 → rA R a 0 ∧ rA R a 1) ∧
  (gm_k a = 9 → rK R a 0 0 ∧ rK R a 1 0 ∧ rK R a 2 0 ∧ rK R a 3 0 ∧ rK R a 4 7 ∧ rK R a 5 2 ∧ rK R a 6 4 ∧ rK R a 7 5)
def CR (R : Nat → Nat → Nat) : Prop := ∀ a, CR1 R a
/-- a state of the shape that the constructors leave -/
def WJ (I : Nat → Nat → Int32) : Prop := (∀ a, gm_k a = 6 → I a 2 < 1000000 ∧ I a 3 < 1000000) ∧ ∀ a, gm_k a = 0 → 0 ≤ I a 3 ∧ I a 3 ≤ 32000
def WT (s : hs_S) : Prop := s.1 = 320 ∧ s.2.1 = gm_k ∧ s.2.2.1 = gm_n ∧ CR (hs_R s) ∧ WJ (hs_I s)
theorem WT.kd {s : hs_S} (w : WT s) (a : Nat) : hs_kd s a = gm_k a := congrFun w.2.1 a
theorem WT.ln {s : hs_S} (w : WT s) (a : Nat) : hs_ln s a = gm_n a := congrFun w.2.2.1 a
theorem WT.k {s : hs_S} (w : WT s) {a k : Nat} (h : gm_k a = k) : hs_kd s a = k := (w.kd a).trans h
theorem WT.gm {s : hs_S} (w : WT s) : s = gm (hs_I s) (hs_R s) := by
  obtain ⟨s1, s2, s3, s4, s5⟩ := s
  obtain ⟨w1, w2, w3, -⟩ := w
  simp only at w1 w2 w3
  subst w1; subst w2; subst w3
  rfl
theorem WT.f0_0 {s : hs_S} (w : WT s) {a : Nat} (k : gm_k a = 0) : rA (hs_R s) a 0 := ((w.2.2.2.1 a).1 k).1
theorem WT.f0_1 {s : hs_S} (w : WT s) {a : Nat} (k : gm_k a = 0) : rL (hs_R s) a 1 102 8 6 := ((w.2.2.2.1 a).1 k).2.1
theorem WT.f0_2 {s : hs_S} (w : WT s) {a : Nat} (k : gm_k a = 0) : rK (hs_R s) a 2 6 := ((w.2.2.2.1 a).1 k).2.2
theorem WT.f1_0 {s : hs_S} (w : WT s) {a : Nat} (k : gm_k a = 1) : rA (hs_R s) a 0 := ((w.2.2.2.1 a).2.1 k).1
theorem WT.f1_1 {s : hs_S} (w : WT s) {a : Nat} (k : gm_k a = 1) : rA (hs_R s) a 1 := ((w.2.2.2.1 a).2.1 k).2
theorem WT.f2_0 {s : hs_S} (w : WT s) {a : Nat} (k : gm_k a = 2) : rK (hs_R s) a 0 1 := (w.2.2.2.1 a).2.2.1 k
theorem WT.f3_0 {s : hs_S} (w : WT s) {a : Nat} (k : gm_k a = 3) : rA (hs_R s) a 0 := ((w.2.2.2.1 a).2.2.2.1 k).1
theorem WT.f3_1 {s : hs_S} (w : WT s) {a : Nat} (k : gm_k a = 3) : rA (hs_R s) a 1 := ((w.2.2.2.1 a).2.2.2.1 k).2.1
theorem WT.f3_3 {s : hs_S} (w : WT s) {a : Nat} (k : gm_k a = 3) : rK (hs_R s) a 3 6 := ((w.2.2.2.1 a).2.2.2.1 k).2.2
theorem WT.f4_0 {s : hs_S} (w : WT s) {a : Nat} (k : gm_k a = 4) : rA (hs_R s) a 0 := ((w.2.2.2.1 a).2.2.2.2.1 k).1
theorem WT.f4_1 {s : hs_S} (w : WT s) {a : Nat} (k : gm_k a = 4) : rA (hs_R s) a 1 := ((w.2.2.2.1 a).2.2.2.2.1 k).2.1
theorem WT.f4_2 {s : hs_S} (w : WT s) {a : Nat} (k : gm_k a = 4) : rA (hs_R s) a 2 := ((w.2.2.2.1 a).2.2.2.2.1 k).2.2.1
theorem WT.f4_3 {s : hs_S} (w : WT s) {a : Nat} (k : gm_k a = 4) : rA (hs_R s) a 3 := ((w.2.2.2.1 a).2.2.2.2.1 k).2.2.2
theorem WT.f5_0 {s : hs_S} (w : WT s) {a : Nat} (k : gm_k a = 5) : rK (hs_R s) a 0 0 := ((w.2.2.2.1 a).2.2.2.2.2.1 k).1
theorem WT.f5_1 {s : hs_S} (w : WT s) {a : Nat} (k : gm_k a = 5) : rL (hs_R s) a 1 103 60 3 := ((w.2.2.2.1 a).2.2.2.2.2.1 k).2.1
theorem WT.f5_2 {s : hs_S} (w : WT s) {a : Nat} (k : gm_k a = 5) : rK (hs_R s) a 2 8 := ((w.2.2.2.1 a).2.2.2.2.2.1 k).2.2
theorem WT.f6_0 {s : hs_S} (w : WT s) {a : Nat} (k : gm_k a = 6) : rA (hs_R s) a 0 := ((w.2.2.2.1 a).2.2.2.2.2.2.1 k).1
theorem WT.f6_1 {s : hs_S} (w : WT s) {a : Nat} (k : gm_k a = 6) : rA (hs_R s) a 1 := ((w.2.2.2.1 a).2.2.2.2.2.2.1 k).2
theorem WT.f7_0 {s : hs_S} (w : WT s) {a : Nat} (k : gm_k a = 7) : ¬ hs_R s a 0 = 0 ∧ hs_R s a 0 - 1 = 90 := (w.2.2.2.1 a).2.2.2.2.2.2.2.1 k
theorem WT.f8_0 {s : hs_S} (w : WT s) {a : Nat} (k : gm_k a = 8) : rA (hs_R s) a 0 := ((w.2.2.2.1 a).2.2.2.2.2.2.2.2.1 k).1
theorem WT.f8_1 {s : hs_S} (w : WT s) {a : Nat} (k : gm_k a = 8) : rA (hs_R s) a 1 := ((w.2.2.2.1 a).2.2.2.2.2.2.2.2.1 k).2
theorem WT.f9_0 {s : hs_S} (w : WT s) {a : Nat} (k : gm_k a = 9) : rK (hs_R s) a 0 0 := ((w.2.2.2.1 a).2.2.2.2.2.2.2.2.2 k).1
theorem WT.f9_1 {s : hs_S} (w : WT s) {a : Nat} (k : gm_k a = 9) : rK (hs_R s) a 1 0 := ((w.2.2.2.1 a).2.2.2.2.2.2.2.2.2 k).2.1
theorem WT.f9_2 {s : hs_S} (w : WT s) {a : Nat} (k : gm_k a = 9) : rK (hs_R s) a 2 0 := ((w.2.2.2.1 a).2.2.2.2.2.2.2.2.2 k).2.2.1
theorem WT.f9_3 {s : hs_S} (w : WT s) {a : Nat} (k : gm_k a = 9) : rK (hs_R s) a 3 0 := ((w.2.2.2.1 a).2.2.2.2.2.2.2.2.2 k).2.2.2.1
theorem WT.f9_4 {s : hs_S} (w : WT s) {a : Nat} (k : gm_k a = 9) : rK (hs_R s) a 4 7 := ((w.2.2.2.1 a).2.2.2.2.2.2.2.2.2 k).2.2.2.2.1
theorem WT.f9_5 {s : hs_S} (w : WT s) {a : Nat} (k : gm_k a = 9) : rK (hs_R s) a 5 2 := ((w.2.2.2.1 a).2.2.2.2.2.2.2.2.2 k).2.2.2.2.2.1
theorem WT.f9_6 {s : hs_S} (w : WT s) {a : Nat} (k : gm_k a = 9) : rK (hs_R s) a 6 4 := ((w.2.2.2.1 a).2.2.2.2.2.2.2.2.2 k).2.2.2.2.2.2.1
theorem WT.f9_7 {s : hs_S} (w : WT s) {a : Nat} (k : gm_k a = 9) : rK (hs_R s) a 7 5 := ((w.2.2.2.1 a).2.2.2.2.2.2.2.2.2 k).2.2.2.2.2.2.2
/-! what may be written -/
def oV (a j : Nat) (v : Int32) : Prop := (gm_k a = 6 → j = 2 ∨ j = 3 → v < 1000000) ∧ (gm_k a = 0 → j = 3 → 0 ≤ v ∧ v ≤ 32000)
def oW (s : Nat) (b : Bool) (a j : Nat) (v : Int32) : Prop := (a < 285 ∧ a ≠ 90 ∧ (gm_k a = 0 → j = 3 → a = s) ∧ (gm_k a = 6 → j = 2 ∨ j = 3 ∨ j = 6 → b = false)) ∧ oV a j v
theorem gm_k_ge {a : Nat} (h : 285 ≤ a) : 10 ≤ gm_k a := by
  unfold gm_k
  rw [if_neg (by omega)]
  by_cases c : a - 285 < 35
  · have q : (List.range 35).all (fun i => decide (10 ≤ hm_kl.getD i 999)) = true := by decide +kernel
    exact of_decide_eq_true (List.all_eq_true.mp q (a - 285) (List.mem_range.mpr c))
  · have hl : hm_kl.length = 35 := by decide
    rw [List.getD_eq_getElem?_getD, List.getElem?_eq_none (by omega)]
    show 10 ≤ 999
    decide
theorem gm_k_90 : gm_k 90 = 100 := by decide +kernel
theorem ck_lt {a k : Nat} (h : gm_k a = k) (hk : k < 10) : a < 285 ∧ a ≠ 90 := by
  constructor
  · by_cases c : a < 285
    · exact c
    · have := gm_k_ge (a := a) (by omega)
      omega
  · intro e
    rw [e, gm_k_90] at h
    omega
theorem oW.k {s a j k : Nat} {b : Bool} {v : Int32} (h : gm_k a = k) (h1 : 0 < k) (hk : k < 10) (h6 : k ≠ 6) : oW s b a j v := ⟨⟨(ck_lt h hk).1, (ck_lt h hk).2, fun q => absurd (h.symm.trans q) (by omega), fun q => absurd (h.symm.trans q) h6⟩, fun q => absurd (h.symm.trans q) h6, fun q => absurd (h.symm.trans q) (by omega)⟩
theorem oW.m {s a j : Nat} {b : Bool} {v : Int32} (h : gm_k a = 6) (hj : j ≠ 2 ∧ j ≠ 3 ∧ j ≠ 6) : oW s b a j v := ⟨⟨(ck_lt h (by decide)).1, (ck_lt h (by decide)).2, fun q => absurd (h.symm.trans q) (by decide), fun _ q => absurd q (by omega)⟩, fun _ q => absurd q (by omega), fun q => absurd (h.symm.trans q) (by decide)⟩
theorem oW.v {s a j : Nat} {v : Int32} (h : gm_k a = 6) (hv : v < 1000000) : oW s false a j v := ⟨⟨(ck_lt h (by decide)).1, (ck_lt h (by decide)).2, fun q => absurd (h.symm.trans q) (by decide), fun _ _ => rfl⟩, fun _ _ => hv, fun q => absurd (h.symm.trans q) (by decide)⟩
theorem oW.h {s a : Nat} {v : Int32} (h : gm_k a = 6) : oW s false a 6 v := ⟨⟨(ck_lt h (by decide)).1, (ck_lt h (by decide)).2, fun q => absurd (h.symm.trans q) (by decide), fun _ _ => rfl⟩, fun _ q => absurd q (by omega), fun q => absurd (h.symm.trans q) (by decide)⟩
theorem oW.a {s a j : Nat} {b : Bool} {v : Int32} (h : aG a) : oW s b a j v := ⟨⟨h.2.1, h.2.2, fun q => absurd (h.1.symm.trans q) (by decide), fun q => absurd (h.1.symm.trans q) (by decide)⟩, fun q => absurd (h.1.symm.trans q) (by decide), fun q => absurd (h.1.symm.trans q) (by decide)⟩
theorem oW.n {s a j : Nat} {b : Bool} {v : Int32} (h : gm_k a = 0) (hj : j ≠ 3) : oW s b a j v := ⟨⟨(ck_lt h (by decide)).1, (ck_lt h (by decide)).2, fun _ q => absurd q hj, fun q => absurd (h.symm.trans q) (by decide)⟩, fun q => absurd (h.symm.trans q) (by decide), fun _ q => absurd q hj⟩
theorem oW.s {s : Nat} {b : Bool} {v : Int32} (h : gm_k s = 0) (hv : 0 ≤ v ∧ v ≤ 32000) : oW s b s 3 v := ⟨⟨(ck_lt h (by decide)).1, (ck_lt h (by decide)).2, fun _ _ => rfl, fun q => absurd (h.symm.trans q) (by decide)⟩, fun q => absurd (h.symm.trans q) (by decide), fun _ _ => hv⟩
theorem hs_I_w (g : hs_S) (a j : Nat) (v : Int32) (b i : Nat) : hs_I (hs_wI g a j v) b i = if b = a then (if i = j then v else hs_I g b i) else hs_I g b i := rfl
theorem WT.wv {s : hs_S} (w : WT s) {a j : Nat} {v : Int32} (o : oV a j v) : WT (hs_wI s a j v) := by
  refine ⟨w.1, w.2.1, w.2.2.1, w.2.2.2.1, fun b hb => ?_, fun b hb => ?_⟩
  · have h0 := w.2.2.2.2.1 b hb
    rw [hs_I_w, hs_I_w]
    by_cases e : b = a
    · subst e
      rw [if_pos rfl, if_pos rfl]
      refine ⟨?_, ?_⟩
      · split
        · rename_i e2
          exact o.1 hb (Or.inl e2.symm)
        · exact h0.1
      · split
        · rename_i e2
          exact o.1 hb (Or.inr e2.symm)
        · exact h0.2
    · rw [if_neg e, if_neg e]; exact h0
  · have h0 := w.2.2.2.2.2 b hb
    rw [hs_I_w]
    by_cases e : b = a
    · subst e
      rw [if_pos rfl]
      split
      · rename_i e2
        exact o.2 hb e2.symm
      · exact h0
    · rw [if_neg e]; exact h0
theorem WT.w {s : hs_S} (w : WT s) {n a j : Nat} {b : Bool} {v : Int32} (o : oW n b a j v) : WT (hs_wI s a j v) := w.wv o.2
/-- kept: the reference's cells, the prices, what every set but s holds; and (b) where the methods lie; no reference changed but those of frames -/
def cU (s : Nat) (b : Bool) (g q : hs_S) : Prop := (∀ a j, (285 ≤ a ∨ a = 90 ∨ (gm_k a = 0 ∧ j = 3 ∧ a ≠ s) ∨ (gm_k a = 6 ∧ (j = 2 ∨ j = 3 ∨ j = 6) ∧ b = true)) → hs_I q a j = hs_I g a j) ∧ ∀ a, gm_k a ≠ 3 → hs_R q a = hs_R g a
theorem cU.rf {s : Nat} {b : Bool} {g : hs_S} : cU s b g g := ⟨fun _ _ _ => rfl, fun _ _ => rfl⟩
theorem cU.trans {s : Nat} {b : Bool} {g q r : hs_S} (h : cU s b g q) (h' : cU s b q r) : cU s b g r := ⟨fun a j x => (h'.1 a j x).trans (h.1 a j x), fun a x => (h'.2 a x).trans (h.2 a x)⟩
theorem cU.w {s : Nat} {b : Bool} {g q : hs_S} (h : cU s b g q) {a j : Nat} {v : Int32} (o : oW s b a j v) : cU s b g (hs_wI q a j v) := by
  refine ⟨fun c i x => ?_, fun c x => h.2 c x⟩
  rw [hs_I_w]
  by_cases e : c = a
  · by_cases f : i = j
    · subst e; subst f
      rcases x with x | x | ⟨x1, x2, x3⟩ | ⟨x1, x2, x3⟩
      · exact absurd o.1.1 (by omega)
      · exact absurd x o.1.2.1
      · exact absurd (o.1.2.2.1 x1 x2) x3
      · exact absurd (x3.symm.trans (o.1.2.2.2 x1 x2)) (by decide)
    · rw [if_pos e, if_neg f]; exact h.1 c i x
  · rw [if_neg e]; exact h.1 c i x
/-! binds -/
def tt {α : Type} (_ : α) : Prop := True
def tt2 {α β : Type} (_ : α) (_ : β) : Prop := True
def tt3 {α β γ : Type} (_ : α) (_ : β) (_ : γ) : Prop := True
def Zr {α : Type} (E : hs_S) (X : α → Prop) (q : α × hs_S) : Prop := q.2 = E ∧ X q.1
def Zs {α : Type} (s : Nat) (b : Bool) (E : hs_S) (X : α → Prop) (q : α × hs_S) : Prop := (WT q.2 ∧ cU s b E q.2) ∧ X q.1
def Zv (s : Nat) (b : Bool) (E : hs_S) (q : hs_S) : Prop := WT q ∧ cU s b E q
def Zr3 {α β : Type} (E : hs_S) (X : α → β → Prop) (q : α × β × hs_S) : Prop := q.2.2 = E ∧ X q.1 q.2.1
def Zs3 {α β : Type} (s : Nat) (b : Bool) (E : hs_S) (X : α → β → Prop) (q : α × β × hs_S) : Prop := (WT q.2.2 ∧ cU s b E q.2.2) ∧ X q.1 q.2.1
def Zs4 {α β γ : Type} (s : Nat) (b : Bool) (E : hs_S) (X : α → β → γ → Prop) (q : α × β × γ × hs_S) : Prop := (WT q.2.2.2 ∧ cU s b E q.2.2.2) ∧ X q.1 q.2.1 q.2.2.1
theorem Tq.cro {α β : Type} {x : Option (α × hs_S)} {f : α → hs_S → Option β} {E : hs_S} {X : α → Prop} {P : β → Prop} (h : Tq x (Zr E X)) (k : ∀ r, X r → Tq (f r E) P) : Tq (hs_bd x f) P := by
  obtain ⟨⟨r, s⟩, e, e2, h2⟩ := h
  have e3 : s = E := e2
  rw [e, e3]; exact k r h2
theorem Tq.cst {α β : Type} {s : Nat} {b : Bool} {x : Option (α × hs_S)} {f : α → hs_S → Option β} {E : hs_S} {X : α → Prop} {P : β → Prop} (h : Tq x (Zs s b E X)) (k : ∀ r g', WT g' → cU s b E g' → X r → Tq (f r g') P) : Tq (hs_bd x f) P := by
  obtain ⟨⟨r, s⟩, e, ⟨h1, h2⟩, h3⟩ := h
  rw [e]; exact k r s h1 h2 h3
theorem Tq.csv {β : Type} {s : Nat} {b : Bool} {x : Option hs_S} {f : hs_S → Option β} {E : hs_S} {P : β → Prop} (h : Tq x (Zv s b E)) (k : ∀ g', WT g' → cU s b E g' → Tq (f g') P) : Tq (hs_bv x f) P := by
  obtain ⟨q, e, h1, h2⟩ := h
  rw [e]; exact k q h1 h2
theorem Tq.cr3 {α0 α1 β : Type} {x : Option (α0 × α1 × hs_S)} {f : α0 → α1 → hs_S → Option β} {E : hs_S} {X : α0 → α1 → Prop} {P : β → Prop} (h : Tq x (Zr3 E X)) (k : ∀ r0 r1, X r0 r1 → Tq (f r0 r1 E) P) : Tq (hs_b3 x f) P := by
  obtain ⟨⟨r0, r1, s⟩, e, e2, h2⟩ := h
  have e3 : s = E := e2
  rw [e, e3]; exact k r0 r1 h2
theorem Tq.cs3 {α0 α1 β : Type} {s : Nat} {b : Bool} {x : Option (α0 × α1 × hs_S)} {f : α0 → α1 → hs_S → Option β} {E : hs_S} {X : α0 → α1 → Prop} {P : β → Prop} (h : Tq x (Zs3 s b E X)) (k : ∀ r0 r1 g', WT g' → cU s b E g' → X r0 r1 → Tq (f r0 r1 g') P) : Tq (hs_b3 x f) P := by
  obtain ⟨⟨r0, r1, s⟩, e, ⟨h1, h2⟩, h3⟩ := h
  rw [e]; exact k r0 r1 s h1 h2 h3
theorem Tq.cs4 {α0 α1 α2 β : Type} {s : Nat} {b : Bool} {x : Option (α0 × α1 × α2 × hs_S)} {f : α0 → α1 → α2 → hs_S → Option β} {E : hs_S} {X : α0 → α1 → α2 → Prop} {P : β → Prop} (h : Tq x (Zs4 s b E X)) (k : ∀ r0 r1 r2 g', WT g' → cU s b E g' → X r0 r1 r2 → Tq (f r0 r1 r2 g') P) : Tq (hs_b4 x f) P := by
  obtain ⟨⟨r0, r1, r2, s⟩, e, ⟨h1, h2⟩, h3⟩ := h
  rw [e]; exact k r0 r1 r2 s h1 h2 h3
theorem Zs.tr {α : Type} {s : Nat} {b : Bool} {g E : hs_S} {X : α → Prop} {x : Option (α × hs_S)} (u : cU s b g E) (h : Tq x (Zs s b E X)) : Tq x (Zs s b g X) := h.mono fun _ z => ⟨⟨z.1.1, u.trans z.1.2⟩, z.2⟩
theorem Zv.tr {s : Nat} {b : Bool} {g E : hs_S} {x : Option hs_S} (u : cU s b g E) (h : Tq x (Zv s b E)) : Tq x (Zv s b g) := h.mono fun _ z => ⟨z.1, u.trans z.2⟩
theorem Zs3.tr {α β : Type} {s : Nat} {b : Bool} {g E : hs_S} {X : α → β → Prop} {x : Option (α × β × hs_S)} (u : cU s b g E) (h : Tq x (Zs3 s b E X)) : Tq x (Zs3 s b g X) := h.mono fun _ z => ⟨⟨z.1.1, u.trans z.1.2⟩, z.2⟩
theorem Zs4.tr {α β γ : Type} {s : Nat} {b : Bool} {g E : hs_S} {X : α → β → γ → Prop} {x : Option (α × β × γ × hs_S)} (u : cU s b g E) (h : Tq x (Zs4 s b E X)) : Tq x (Zs4 s b g X) := h.mono fun _ z => ⟨⟨z.1.1, u.trans z.1.2⟩, z.2⟩
/-! counters -/
def cm (v : Int32) : Nat := (2147483648 - v.toInt).toNat
theorem cm_pos (v : Int32) : 1 ≤ cm v := by
  have := Int32.toInt_lt v
  unfold cm
  omega
theorem cm_N (v : Int32) : cm v ≤ hs_N := by
  have := Int32.le_toInt v
  unfold cm hs_N
  omega
theorem toInt_succ {v b : Int32} (h : ¬ b ≤ v) : (v + 1).toInt = v.toInt + 1 := by
  have h1 : v.toInt < b.toInt := by
    rw [Int32.le_iff_toInt_le] at h
    omega
  have h2 := Int32.toInt_lt b
  have h3 := Int32.le_toInt v
  rw [Int32.toInt_add, show (1 : Int32).toInt = 1 by decide]
  exact Int.bmod_eq_of_le (by omega) (by omega)
theorem cm_s {v b : Int32} (h : ¬ b ≤ v) : cm (v + 1) < cm v := by
  have h1 := toInt_succ h
  have h2 := Int32.toInt_lt v
  unfold cm
  omega
def dm (v : Int32) : Nat := (v.toInt + 2147483649).toNat
theorem dm_pos (v : Int32) : 1 ≤ dm v := by
  have := Int32.le_toInt v
  unfold dm
  omega
theorem dm_N (v : Int32) : dm v ≤ hs_N := by
  have := Int32.toInt_lt v
  unfold dm hs_N
  omega
theorem toInt_pred {v : Int32} (h : 0 ≤ v) : (v - 1).toInt = v.toInt - 1 := by
  have h1 : 0 ≤ v.toInt := by
    rw [Int32.le_iff_toInt_le] at h
    simpa using h
  have h2 := Int32.toInt_lt v
  rw [Int32.toInt_sub, show (1 : Int32).toInt = 1 by decide]
  exact Int.bmod_eq_of_le (by omega) (by omega)
theorem dm_s {v : Int32} (h : 0 ≤ v) : dm (v - 1) < dm v := by
  have h1 := toInt_pred h
  have h2 := Int32.le_toInt v
  unfold dm
  omega
