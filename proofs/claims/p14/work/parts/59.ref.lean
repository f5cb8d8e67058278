/-! THE REFERENCE BETWEEN TWO CALLS -/
def RJ (g : hm) : Prop := (∃ t T, s_T g t T) ∧ (∃ P, s_Pr g P) ∧ s_V3 g ∧ s_Az g ∧ (¬ g 285 3 = 0 → s_FV g) ∧ (¬ g 285 22 = 0 → s_WV g ∧ ¬ g 285 3 = 0)
theorem s_FV.to {g q : hm} (x : s_FV g) (h4 : q 285 4 = g 285 4) (h : ∀ a, a = 287 ∨ a = 288 ∨ a = 289 ∨ a = 290 ∨ a = 291 ∨ a = 292 → q a = g a) : s_FV q := by
  obtain ⟨N, p, l, n, hh, c, R, ⟨x1, x2⟩, y⟩ := x
  refine ⟨N, p, l, n, hh, c, R, ⟨by rw [h4]; exact x1, fun m hm8 => ?_⟩, y⟩
  obtain ⟨y1, y2, y3, y4, y5, y6⟩ := x2 m hm8
  refine ⟨by rw [h 287 (by omega)]; exact y1, by rw [h 288 (by omega)]; exact y2, by rw [h 289 (by omega)]; exact y3, by rw [h 290 (by omega)]; exact y4, fun k hk => by rw [h 292 (by omega)]; exact y5 k hk, fun k hk => by rw [h 291 (by omega)]; exact y6 k hk⟩
theorem s_WV.to {g q : hm} (x : s_WV g) (h4 : q 285 4 = g 285 4) (h : ∀ a, a = 287 ∨ a = 288 ∨ a = 290 ∨ a = 304 ∨ a = 305 ∨ a = 306 → q a = g a) : s_WV q := by
  obtain ⟨N, p, l, n, hh, c, R, P, x1, x2, x3, x4, x5⟩ := x
  refine ⟨N, p, l, n, hh, c, R, P, by rw [h4]; exact x1, fun m hm8 => ?_, x3, x4, fun m hm8 => ?_⟩
  · obtain ⟨y1, y2, y3⟩ := x2 m hm8
    exact ⟨by rw [h 287 (by omega)]; exact y1, by rw [h 288 (by omega)]; exact y2, by rw [h 290 (by omega)]; exact y3⟩
  · obtain ⟨⟨b, far, S, y1, y2, y3, y4, y5, y6⟩, y7⟩ := x5 m hm8
    refine ⟨⟨b, far, S, y1, y2, y3, by rw [h 305 (by omega)]; exact y4, fun j j1 j2 o o1 => by rw [h 304 (by omega)]; exact y5 j j1 j2 o o1, fun z hz => ?_⟩, y7⟩
    rw [h 306 (by omega)]
    exact y6 z hz
/-- nothing changed that it speaks of -/
theorem RJ.to {g q : hm} (x : RJ g) (hf : ∀ j, j = 2 ∨ j = 3 ∨ j = 4 ∨ j = 22 → q 285 j = g 285 j) (h : ∀ a, a = 286 ∨ a = 287 ∨ a = 288 ∨ a = 289 ∨ a = 290 ∨ a = 291 ∨ a = 292 ∨ a = 300 ∨ a = 304 ∨ a = 305 ∨ a = 306 ∨ a = 312 ∨ a = 313 → q a = g a) : RJ q := by
  obtain ⟨⟨t, T, x1⟩, ⟨P, x2⟩, x3, x4, x5, x6⟩ := x
  refine ⟨⟨t, T, x1.fr (hf 2 (by omega)) (h 286 (by omega))⟩, ⟨P, fun k hk => by rw [h 312 (by omega)]; exact x2 k hk⟩, x3.fr (h 300 (by omega)), fun a ha => by rw [h 313 (by omega)]; exact x4 a ha, fun c => ?_, fun c => ?_⟩
  · rw [hf 3 (by omega)] at c
    exact (x5 c).to (hf 4 (by omega)) fun a ha => h a (by omega)
  · rw [hf 22 (by omega)] at c
    refine ⟨(x6 c).1.to (hf 4 (by omega)) fun a ha => h a (by omega), ?_⟩
    rw [hf 3 (by omega)]
    exact (x6 c).2
/-- the cells below the reference are as they were -/
def mK (g q : hm) : Prop := ∀ a, a < 285 → q a = g a
theorem Fr.mk {A : List Nat} {g q : hm} (h : Fr A g q) (hA : ∀ a ∈ A, 285 ≤ a) : mK g q := fun a ha => h a fun q => absurd (hA a q) (by omega)
theorem RJ.fr {A S : List Nat} {g q : hm} (x : RJ g) (h : Fr A g q) (hf : Fo S g q) (hS : 2 ∉ S ∧ 3 ∉ S ∧ 4 ∉ S ∧ 22 ∉ S) (hA : 286 ∉ A ∧ 287 ∉ A ∧ 288 ∉ A ∧ 289 ∉ A ∧ 290 ∉ A ∧ 291 ∉ A ∧ 292 ∉ A ∧ 300 ∉ A ∧ 304 ∉ A ∧ 305 ∉ A ∧ 306 ∉ A ∧ 312 ∉ A ∧ 313 ∉ A) : RJ q := by
  obtain ⟨a1, a2, a3, a4, a5, a6, a7, a8, a9, a10, a11, a12, a13⟩ := hA
  refine x.to (fun j hj => ?_) (fun a ha => ?_)
  · rcases hj with e | e | e | e <;> rw [e]
    · exact hf 2 hS.1
    · exact hf 3 hS.2.1
    · exact hf 4 hS.2.2.1
    · exact hf 22 hS.2.2.2
  · rcases ha with e | e | e | e | e | e | e | e | e | e | e | e | e <;> rw [e]
    · exact h _ a1
    · exact h _ a2
    · exact h _ a3
    · exact h _ a4
    · exact h _ a5
    · exact h _ a6
    · exact h _ a7
    · exact h _ a8
    · exact h _ a9
    · exact h _ a10
    · exact h _ a11
    · exact h _ a12
    · exact h _ a13
theorem RJ.fe {A : List Nat} {g q : hm} (x : RJ g) (h : Fr A g q) (hA : 285 ∉ A ∧ 286 ∉ A ∧ 287 ∉ A ∧ 288 ∉ A ∧ 289 ∉ A ∧ 290 ∉ A ∧ 291 ∉ A ∧ 292 ∉ A ∧ 300 ∉ A ∧ 304 ∉ A ∧ 305 ∉ A ∧ 306 ∉ A ∧ 312 ∉ A ∧ 313 ∉ A) : RJ q := x.fr (S := []) h (Fo.of h hA.1) (by simp) hA.2
/-- the kept FILE, whether there is one or not -/
theorem RJ.fv {g : hm} (x : RJ g) : ∃ (N : Nat) (p l n h : Nat → Nat) (c R : Nat → Nat → Nat), ¬ g 285 3 = 0 → s_F g N p l n h c R ∧ s_VF N p l n h c R := by
  by_cases c0 : g 285 3 = 0
  · exact ⟨0, fun _ => 0, fun _ => 0, fun _ => 0, fun _ => 0, fun _ _ => 0, fun _ _ => 0, fun q => absurd c0 q⟩
  · obtain ⟨N, p, l, n, h, c, R, x1, x2⟩ := x.2.2.2.2.1 c0
    exact ⟨N, p, l, n, h, c, R, fun _ => ⟨x1, x2⟩⟩
theorem r_load {g : hm} (x : RJ g) : Tq (nX12_load g) (fun q => RJ q.2 ∧ mK g q.2 ∧ q.2 285 2 = 0 ∧ q.2 312 = g 312) := by
  obtain ⟨⟨t, T, x1⟩, ⟨P, x2⟩, x3, x4, x5, x6⟩ := x
  refine (q_load x1).mono fun q hq => ?_
  obtain ⟨F1, O1, z2, zv, hq⟩ := hq
  have t0 : ∃ t T, s_T q.2 t T := ⟨0, T, z2, by omega, fun i hi => absurd hi (by omega)⟩
  have p0 : ∃ P, s_Pr q.2 P := ⟨P, x2.fr F1 (by decide)⟩
  have a0 : s_Az q.2 := fun a ha => by rw [F1 313 (by decide)]; exact x4 a ha
  refine ⟨⟨t0, p0, zv x3, a0, ?_⟩, F1.mk (by decide), z2, F1 312 (by decide)⟩
  rcases hq with ⟨-, -, h3, h22, hF, hV⟩ | ⟨-, F2, O2⟩
  · exact ⟨fun _ => ⟨_, _, _, _, _, _, _, hF, hV⟩, fun c => absurd h22 c⟩
  · have e3 : q.2 285 3 = g 285 3 := O2 3 (by decide)
    have e22 : q.2 285 22 = g 285 22 := O2 22 (by decide)
    have e4 : q.2 285 4 = g 285 4 := O2 4 (by decide)
    refine ⟨fun c => ?_, fun c => ?_⟩
    · rw [e3] at c
      refine (x5 c).to e4 fun a ha => F2 a ?_
      rcases ha with e | e | e | e | e | e <;> rw [e] <;> decide
    · rw [e22] at c
      refine ⟨(x6 c).1.to e4 fun a ha => F2 a ?_, by rw [e3]; exact (x6 c).2⟩
      rcases ha with e | e | e | e | e | e <;> rw [e] <;> decide
theorem r_feed {g : hm} (x : RJ g) (w : Int64) (a : Int32) {t : Nat} {T : Nat → Nat} (hT : s_T g t T) : Tq (nX12_feed w a g) (fun q => (RJ q.2 ∧ mK g q.2 ∧ q.2 312 = g 312) ∧ (((¬ ∃ r, 1 ≤ r ∧ r ≤ 8 ∧ a = nI r) ∧ q.1 = -3 ∧ q.2 285 2 = nI t) ∨ ∃ r, 1 ≤ r ∧ r ≤ 8 ∧ a = nI r ∧ ((6000 < t + r ∧ q.1 = -4 ∧ q.2 285 2 = nI t) ∨ (t + r ≤ 6000 ∧ q.1 = nI (t + r) ∧ q.2 285 2 = nI (t + r))))) := by
  refine (q_feed w a hT).mono fun q hq => ?_
  rcases hq with ⟨h1, h2⟩ | ⟨r, h1, h2, h3, ⟨h4, h5⟩ | ⟨h4, h5, F, O, h6⟩⟩
  · rw [h2]
    exact ⟨⟨x, fun _ _ => rfl, rfl⟩, Or.inl ⟨h1, rfl, hT.1⟩⟩
  · rw [h5]
    exact ⟨⟨x, fun _ _ => rfl, rfl⟩, Or.inr ⟨r, h1, h2, h3, Or.inl ⟨h4, rfl, hT.1⟩⟩⟩
  · refine ⟨⟨?_, F.mk (by decide), F 312 (by decide)⟩, Or.inr ⟨r, h1, h2, h3, Or.inr ⟨h4, h5, h6.1⟩⟩⟩
    obtain ⟨-, ⟨P, x2⟩, x3, x4, x5, x6⟩ := x
    refine ⟨⟨_, _, h6⟩, ⟨P, x2.fr F (by decide)⟩, x3.fr (F 300 (by decide)), fun a ha => by rw [F 313 (by decide)]; exact x4 a ha, fun c => ?_, fun c => ?_⟩
    · rw [O 3 (by decide)] at c
      refine (x5 c).to (O 4 (by decide)) fun a ha => F a ?_
      rcases ha with e | e | e | e | e | e <;> rw [e] <;> decide
    · rw [O 22 (by decide)] at c
      refine ⟨(x6 c).1.to (O 4 (by decide)) fun a ha => F a ?_, by rw [O 3 (by decide)]; exact (x6 c).2⟩
      rcases ha with e | e | e | e | e | e <;> rw [e] <;> decide
theorem r_price {g : hm} (x : RJ g) (a b : Int32) : Tq (nX12_price a b g) (fun q => RJ q.2 ∧ mK g q.2 ∧ q.2 285 2 = g 285 2) := by
  refine (q_price a b g).mono fun q hq => ?_
  rcases hq with ⟨-, hq⟩ | ⟨k, v, ⟨h1, h2, h3, h4, h5⟩, hq⟩
  · rw [hq]; exact ⟨x, fun _ _ => rfl, rfl⟩
  · rw [hq]
    obtain ⟨x1, ⟨P, x2⟩, x3, x4, x5, x6⟩ := x
    have F : Fr [312] g (hm_w g 312 k (nI v)) := Fr.rf.w (by decide)
    have f285 : (hm_w g 312 k (nI v)) 285 = g 285 := F 285 (by decide)
    refine ⟨⟨?_, ⟨_, x2.w (k := k) h3⟩, x3.fr (F 300 (by decide)), fun a ha => by show ∃ z, z ≤ 1000 ∧ hm_w g 312 k (nI v) 313 a = nI z; rw [F 313 (by decide)]; exact x4 a ha, fun c => ?_, fun c => ?_⟩, F.mk (by decide), by show hm_w g 312 k (nI v) 285 2 = g 285 2; rw [f285]⟩
    · obtain ⟨t, T, x1⟩ := x1
      exact ⟨t, T, x1.fr (by show hm_w g 312 k (nI v) 285 2 = g 285 2; rw [f285]) (F 286 (by decide))⟩
    · have c' : ¬ g 285 3 = 0 := fun e => c (by show hm_w g 312 k (nI v) 285 3 = 0; rw [f285]; exact e)
      refine (x5 c').to (by show hm_w g 312 k (nI v) 285 4 = g 285 4; rw [f285]) fun a ha => F a ?_
      rcases ha with e | e | e | e | e | e <;> rw [e] <;> decide
    · have c' : ¬ g 285 22 = 0 := fun e => c (by show hm_w g 312 k (nI v) 285 22 = 0; rw [f285]; exact e)
      refine ⟨(x6 c').1.to (by show hm_w g 312 k (nI v) 285 4 = g 285 4; rw [f285]) fun a ha => F a ?_, fun e => (x6 c').2 (by rw [← f285]; exact e)⟩
      rcases ha with e | e | e | e | e | e <;> rw [e] <;> decide
theorem r_rewrite {g : hm} (x : RJ g) : Tq (nX12_rewrite g) (fun q => RJ q.2 ∧ mK g q.2 ∧ q.2 285 2 = g 285 2 ∧ q.2 312 = g 312) := by
  obtain ⟨N, p, l, n, h, c, R, hV⟩ := x.fv
  obtain ⟨P, hP⟩ := x.2.1
  refine (q_rewrite hV hP).mono fun q hq => ?_
  obtain ⟨F, O, hq⟩ := hq
  refine ⟨?_, F.mk (by decide), O 2 (by decide), F 312 (by decide)⟩
  obtain ⟨⟨t, T, x1⟩, ⟨P', x2⟩, x3, x4, x5, x6⟩ := x
  refine ⟨⟨t, T, x1.fr (O 2 (by decide)) (F 286 (by decide))⟩, ⟨P', x2.fr F (by decide)⟩, x3.fr (F 300 (by decide)), fun a ha => by rw [F 313 (by decide)]; exact x4 a ha, fun c => ?_, fun c => ?_⟩
  · rw [O 3 (by decide)] at c
    refine (x5 c).to (O 4 (by decide)) fun a ha => F a ?_
    rcases ha with e | e | e | e | e | e <;> rw [e] <;> decide
  · rcases hq with ⟨h3, hq⟩ | ⟨h3, hq | ⟨hq, hq2, -⟩⟩
    · rw [hq] at c ⊢
      exact x6 c
    · exact absurd hq c
    · exact ⟨hq2, by rw [O 3 (by decide)]; exact h3⟩
theorem r_told {g : hm} (x : RJ g) (a1 a2 a3 : Int32) : Tq (nX12_told a1 a2 a3 g) (fun q => RJ q.2 ∧ mK g q.2 ∧ q.2 285 2 = g 285 2 ∧ q.2 312 = g 312) := by
  obtain ⟨t, T, x1⟩ := x.1
  refine (q_told x1.1 x1.2.1 x.2.2.1 x.2.2.2.2.1 (fun c => (x.2.2.2.2.2 c).1) (fun c => (x.2.2.2.2.2 c).2) a1 a2 a3).mono fun q F => ?_
  exact ⟨x.fe F (by decide), F.mk (by decide), by rw [F 285 (by decide)], F 312 (by decide)⟩
theorem r_byteAt {g : hm} (x : RJ g) (a1 a2 a3 : Int32) : Tq (nX12_byteAt a1 a2 a3 g) (fun q => RJ q.2 ∧ mK g q.2 ∧ q.2 285 2 = g 285 2 ∧ q.2 312 = g 312) := by
  obtain ⟨r, e⟩ := q_byteAt x.2.2.2.2.1 (fun c => (x.2.2.2.2.2 c).1) a1 a2 a3
  exact ⟨_, e, x, fun _ _ => rfl, rfl, rfl⟩
theorem r_handler {g : hm} (x : RJ g) (a1 a2 a3 a4 : Int32) : Tq (nX12_handler a1 a2 a3 a4 g) (fun q => RJ q.2 ∧ mK g q.2 ∧ q.2 285 2 = g 285 2 ∧ q.2 312 = g 312) := by
  obtain ⟨r, e⟩ := q_handler x.2.2.2.2.1 (fun c => (x.2.2.2.2.2 c).1) a1 a2 a3 a4
  exact ⟨_, e, x, fun _ _ => rfl, rfl, rfl⟩
theorem r_block {g : hm} (x : RJ g) (a1 a2 a3 : Int32) : Tq (nX12_block a1 a2 a3 g) (fun q => RJ q.2 ∧ mK g q.2 ∧ q.2 285 2 = g 285 2 ∧ q.2 312 = g 312) := by
  obtain ⟨N, p, l, n, h, c, R, hV⟩ := x.fv
  obtain ⟨P, hP⟩ := x.2.1
  refine (q_block hV hP a1 a2 a3).mono fun q hq => ?_
  have F := hq.1
  exact ⟨x.fe F (by decide), F.mk (by decide), by rw [F 285 (by decide)], F 312 (by decide)⟩
theorem r_run {g : hm} (x : RJ g) (a1 a2 a3 a4 : Int32) : Tq (nX12_run a1 a2 a3 a4 g) (fun q => RJ q.2 ∧ mK g q.2 ∧ q.2 285 2 = g 285 2 ∧ q.2 312 = g 312) := by
  refine (q_run (fun c => (x.2.2.2.2.2 c).1) x.2.2.2.1 a1 a2 a3 a4).mono fun q hq => ?_
  obtain ⟨F, O, A⟩ := hq
  refine ⟨?_, F.mk (by decide), O 2 (by decide), F 312 (by decide)⟩
  obtain ⟨⟨t, T, x1⟩, ⟨P', x2⟩, x3, x4, x5, x6⟩ := x
  refine ⟨⟨t, T, x1.fr (O 2 (by decide)) (F 286 (by decide))⟩, ⟨P', x2.fr F (by decide)⟩, x3.fr (F 300 (by decide)), A, fun c => ?_, fun c => ?_⟩
  · rw [O 3 (by decide)] at c
    refine (x5 c).to (O 4 (by decide)) fun a ha => F a ?_
    rcases ha with e | e | e | e | e | e <;> rw [e] <;> decide
  · rw [O 22 (by decide)] at c
    refine ⟨(x6 c).1.to (O 4 (by decide)) fun a ha => F a ?_, by rw [O 3 (by decide)]; exact (x6 c).2⟩
    rcases ha with e | e | e | e | e | e <;> rw [e] <;> decide
theorem r_element {g : hm} (x : RJ g) (a1 a2 : Int32) : Tq (nX12_element a1 a2 g) (fun q => RJ q.2 ∧ mK g q.2 ∧ q.2 285 2 = g 285 2 ∧ q.2 312 = g 312) := by
  obtain ⟨r, e⟩ := q_element x.2.2.2.1 a1 a2
  exact ⟨_, e, x, fun _ _ => rfl, rfl, rfl⟩
theorem r_answer {g : hm} (x : RJ g) : Tq (nX12_answer g) (fun q => RJ q.2 ∧ mK g q.2 ∧ q.2 285 2 = g 285 2 ∧ q.2 312 = g 312) := ⟨_, rfl, x, fun _ _ => rfl, rfl, rfl⟩
theorem r_counted {g : hm} (x : RJ g) : Tq (nX12_counted g) (fun q => RJ q.2 ∧ mK g q.2 ∧ q.2 285 2 = g 285 2 ∧ q.2 312 = g 312) := ⟨_, rfl, x, fun _ _ => rfl, rfl, rfl⟩
theorem r_steps {g : hm} (x : RJ g) : Tq (nX12_steps g) (fun q => RJ q.2 ∧ mK g q.2 ∧ q.2 285 2 = g 285 2 ∧ q.2 312 = g 312) := ⟨_, rfl, x, fun _ _ => rfl, rfl, rfl⟩
theorem r_unwrite {g : hm} (x : RJ g) : Tq (nX12_unwrite g) (fun q => RJ q.2 ∧ mK g q.2 ∧ q.2 285 2 = g 285 2 ∧ q.2 312 = g 312) := by
  obtain ⟨N, p, l, n, h, c, R, hV⟩ := x.fv
  obtain ⟨P, hP⟩ := x.2.1
  refine (q_unwrite (fun c0 => hV (x.2.2.2.2.2 c0).2) hP).mono fun q hq => ?_
  obtain ⟨F, O, hq⟩ := hq
  refine ⟨?_, F.mk (by decide), O 2 (by decide), F 312 (by decide)⟩
  obtain ⟨⟨t, T, x1⟩, ⟨P', x2⟩, x3, x4, x5, x6⟩ := x
  refine ⟨⟨t, T, x1.fr (O 2 (by decide)) (F 286 (by decide))⟩, ⟨P', x2.fr F (by decide)⟩, x3.fr (F 300 (by decide)), fun a ha => by rw [F 313 (by decide)]; exact x4 a ha, fun c => ?_, fun c => ?_⟩
  · rcases hq with ⟨h22, hq⟩ | ⟨h22, n', c', R', hF, hV'⟩
    · rw [hq] at c ⊢
      exact x5 c
    · exact ⟨N, p, l, n', h, c', R', hF, hV'⟩
  · rw [O 22 (by decide)] at c
    refine ⟨(x6 c).1.to (O 4 (by decide)) fun a ha => F a ?_, by rw [O 3 (by decide)]; exact (x6 c).2⟩
    rcases ha with e | e | e | e | e | e <;> rw [e] <;> decide
theorem r_clear {g : hm} (x : RJ g) : Tq (nX12_clear g) (fun q => RJ q ∧ mK g q ∧ q 285 2 = 0 ∧ s_Pr q s_p0) := by
  refine (q_clear g).mono fun q hq => ?_
  obtain ⟨F, O, h2, h3, h22, -, -, -, hP, hZ⟩ := hq
  refine ⟨?_, F.mk (by decide), h2, hP⟩
  obtain ⟨⟨t, T, x1⟩, -, x3, -, -, -⟩ := x
  exact ⟨⟨0, T, h2, by omega, fun i hi => absurd hi (by omega)⟩, ⟨_, hP⟩, x3.fr (F 300 (by decide)), fun a ha => ⟨0, by omega, hZ a ha⟩, fun c => absurd h3 c, fun c => absurd h22 c⟩
