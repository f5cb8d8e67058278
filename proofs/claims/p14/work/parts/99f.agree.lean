/-! THE CLASS AND THE REFERENCE AGREE -/
theorem isF.lt {A : Nat} (h : isF A) : 1 ≤ A ∧ A + 22 ≤ 67 := by rcases h with h | h | h <;> omega
theorem isF.dj {A B : Nat} (h : isF A) (h' : isF B) (n : A ≠ B) : A + 22 ≤ B ∨ B + 22 ≤ A := by rcases h with h | h | h <;> rcases h' with h' | h' | h' <;> omega
theorem ow_lt : ∀ b, b < 100 → ow b ≠ 100 := by decide
theorem WT.ext {s q : hs_S} (w : WT s) (w' : WT q) (hI : hs_I q = hs_I s) (hR : hs_R q = hs_R s) : q = s := by
  rw [w'.gm, hI, hR, ← w.gm]
/-- what is written agrees -/
def WA (s : hs_S) (u : Nat → Nat) : Prop := (hs_I s 285 22 = 0 ∧ hs_I s 67 4 = 0) ∨ (¬ hs_I s 285 22 = 0 ∧ hs_I s 67 4 = nI (u 0) ∧ ∀ z, z < u 0 → ∃ (a k n : Nat) (c R P : Nat → Nat), s_Mt n (u (s_off u z + 1)) (u 0) (s_h u (s_off u z)) c R ∧ (∀ i, i < n → c i < 256) ∧ s_DOK c (s_par u) n (s_h u (s_off u z)) R ∧ (∀ i, i < 256 → P i ≤ 1000) ∧ k ≤ 4000 ∧ a + k ≤ 32000 ∧ wM s z a k (u (s_off u z)) (u (s_off u z + 1)) n (s_h u (s_off u z)) c R P ∧ s_Wm (hs_I s) z n (s_h u (s_off u z)) c R P)
theorem WA.to {s q : hs_S} {u : Nat → Nat} (h : WA s u) (hN : u 0 ≤ 8) (h22 : hs_I q 285 22 = hs_I s 285 22) (hc : ∀ b, 67 ≤ b → b < 89 → hs_I q b = hs_I s b) (hw : ∀ a, 304 ≤ a → a ≤ 306 → hs_I q a = hs_I s a) : WA q u := by
  rcases h with ⟨h1, h2⟩ | ⟨h1, h2, h3⟩
  · exact Or.inl ⟨by rw [h22]; exact h1, by rw [hc 67 (by decide) (by decide)]; exact h2⟩
  · refine Or.inr ⟨by rw [h22]; exact h1, by rw [hc 67 (by decide) (by decide)]; exact h2, fun z hz => ?_⟩
    obtain ⟨a, k, n, c, R, P, x1, x2, xd, x3, x4, x5, x6, x7⟩ := h3 z hz
    exact ⟨a, k, n, c, R, P, x1, x2, xd, x3, x4, x5, x6.fr x1 (fun i _ => by rw [hc 72 (by decide) (by decide)]) (hc _ (by omega) (by omega)) (hc _ (by omega) (by omega)), x7.fr x1 (fun i _ => by rw [hw 304 (by decide) (by decide)]) (by rw [hw 305 (by decide) (by decide)]) (fun i _ => by rw [hw 306 (by decide) (by decide)])⟩
theorem s_Fu.to {g q : hm} {u : Nat → Nat} (h : s_Fu g u) (h4 : q 285 4 = g 285 4) (hr : ∀ a, 287 ≤ a → a ≤ 292 → q a = g a) : s_Fu q u := by
  obtain ⟨x1, x2⟩ := h
  refine ⟨by rw [h4]; exact x1, fun m hm8 => ?_⟩
  obtain ⟨y1, y2, y3, y4, y5, y6⟩ := x2 m hm8
  exact ⟨by rw [hr 287 (by decide) (by decide)]; exact y1, by rw [hr 288 (by decide) (by decide)]; exact y2, by rw [hr 289 (by decide) (by decide)]; exact y3, by rw [hr 290 (by decide) (by decide)]; exact y4, fun k hk => by rw [hr 292 (by decide) (by decide)]; exact y5 k hk, fun k hk => by rw [hr 291 (by decide) (by decide)]; exact y6 k hk⟩
/-- the tapes agree -/
def TA (s : hs_S) : Prop := ∃ (t : Nat) (T : Nat → Nat), s_T (hs_I s) t T ∧ hs_I s (hs_R s 0 0 - 1) 3 = nI t ∧ ∀ i, i < t → hs_I s (hs_R s 0 0 - 1 + 5) i = nI (T i)
/-- the FILEs agree -/
def FA (s : hs_S) : Prop := (hs_I s 285 3 = 0 ∧ hs_I s (hs_R s 0 1 - 1) 4 = 0 ∧ hs_I s 285 22 = 0 ∧ hs_I s 67 4 = 0) ∨ (¬ hs_I s 285 3 = 0 ∧ ∃ (u : Nat → Nat) (tu : Nat), s_AC u tu ∧ tu ≤ 6000 ∧ (∀ i, i < tu → u i < 256) ∧ s_Fu (hs_I s) u ∧ cF s (hs_R s 0 1 - 1) u ∧ WA s u)
/-- the reference's FILE and what it wrote are as they were -/
def rS (g q : hm) : Prop := q 285 3 = g 285 3 ∧ q 285 4 = g 285 4 ∧ q 285 22 = g 285 22 ∧ (∀ a, 287 ≤ a → a ≤ 292 → q a = g a) ∧ ∀ a, 304 ≤ a → a ≤ 306 → q a = g a
theorem rS.rf {g : hm} : rS g g := ⟨rfl, rfl, rfl, fun _ _ _ => rfl, fun _ _ _ => rfl⟩
theorem rS.of {A S : List Nat} {g q : hm} (F : Fr A g q) (O : Fo S g q) (hS : 3 ∉ S ∧ 4 ∉ S ∧ 22 ∉ S) (hA : 287 ∉ A ∧ 288 ∉ A ∧ 289 ∉ A ∧ 290 ∉ A ∧ 291 ∉ A ∧ 292 ∉ A ∧ 304 ∉ A ∧ 305 ∉ A ∧ 306 ∉ A) : rS g q := by
  obtain ⟨a1, a2, a3, a4, a5, a6, a7, a8, a9⟩ := hA
  refine ⟨O 3 hS.1, O 4 hS.2.1, O 22 hS.2.2, fun a h1 h2 => ?_, fun a h1 h2 => ?_⟩
  · obtain e | e | e | e | e | e : a = 287 ∨ a = 288 ∨ a = 289 ∨ a = 290 ∨ a = 291 ∨ a = 292 := by omega
    all_goals
      rw [e]
      exact F _ (by assumption)
  · obtain e | e | e : a = 304 ∨ a = 305 ∨ a = 306 := by omega
    all_goals
      rw [e]
      exact F _ (by assumption)
theorem FA.to {s q : hs_S} (h : FA s) (hX : RX (hs_R s)) (hX' : RX (hs_R q)) (r1 : hs_R q 0 1 = hs_R s 0 1) (hf : ∀ b, hs_R s 0 1 - 1 ≤ b → b < hs_R s 0 1 - 1 + 22 → hs_I q b = hs_I s b) (hc : ∀ b, 67 ≤ b → b < 89 → hs_I q b = hs_I s b) (hs : rS (hs_I s) (hs_I q)) : FA q := by
  obtain ⟨h3, h4, h22, hr, hw⟩ := hs
  have i1 : isF (hs_R s 0 1 - 1) := hX.2.2.2.2.2.2.2.2.2 1 (by decide)
  unfold FA
  rw [r1]
  rcases h with ⟨x1, x2, x3, x4⟩ | ⟨x1, u, tu, x2, x3, x4, x5, x6, x7⟩
  · exact Or.inl ⟨by rw [h3]; exact x1, by rw [hf _ (Nat.le_refl _) (by omega)]; exact x2, by rw [h22]; exact x3, by rw [hc 67 (by decide) (by decide)]; exact x4⟩
  · exact Or.inr ⟨by rw [h3]; exact x1, u, tu, x2, x3, x4, x5.to h4 hr, x6.to x2.2.2.1 (hX.2.1 _ i1.s) (hX'.2.1 _ i1.s) hf, x7.to x2.2.2.1 h22 hc hw⟩
/-- all that agrees between two calls -/
def AG (s : hs_S) : Prop := CJ s ∧ RJ (hs_I s) ∧ RX (hs_R s) ∧ (∀ A, isF A → hs_I s (A + 2) 4 = 0) ∧ TA s ∧ (∀ k, k < 256 → hs_I s 90 k = hs_I s 312 k) ∧ FA s
/-- the reference's tape, prices, FILE and what it wrote are as they were -/
def rT (g q : hm) : Prop := q 285 2 = g 285 2 ∧ q 286 = g 286 ∧ q 312 = g 312 ∧ rS g q
theorem rT.rf {g : hm} : rT g g := ⟨rfl, rfl, rfl, rS.rf⟩
theorem rT.of {A S : List Nat} {g q : hm} (F : Fr A g q) (O : Fo S g q) (hS : 2 ∉ S ∧ 3 ∉ S ∧ 4 ∉ S ∧ 22 ∉ S) (h286 : 286 ∉ A) (h312 : 312 ∉ A) (hA : 287 ∉ A ∧ 288 ∉ A ∧ 289 ∉ A ∧ 290 ∉ A ∧ 291 ∉ A ∧ 292 ∉ A ∧ 304 ∉ A ∧ 305 ∉ A ∧ 306 ∉ A) : rT g q := ⟨O 2 hS.1, F 286 h286, F 312 h312, rS.of F O hS.2 hA⟩
theorem AG.to {s q : hs_S} (h : AG s) (J : CJ q) (hr : RJ (hs_I q)) (hX : RX (hs_R q)) (r0 : hs_R q 0 = hs_R s 0) (hc : ∀ b, b < 91 → hs_I q b = hs_I s b) (ht : rT (hs_I s) (hs_I q)) : AG q := by
  obtain ⟨h1, h2, h3, h4, ⟨t, T, h5, h6, h7⟩, h8, h9⟩ := h
  obtain ⟨t1, t2, t3, t4⟩ := ht
  have l0 := (h3.2.2.2.2.2.2.2.2.2 0 (by decide)).lt
  have l1 := (h3.2.2.2.2.2.2.2.2.2 1 (by decide)).lt
  refine ⟨J, hr, hX, fun A hA => ?_, ⟨t, T, h5.fr t1 t2, ?_, fun i hi => ?_⟩, fun k hk => ?_, h9.to h3 hX (by rw [r0]) (fun b _ _ => hc b (by omega)) (fun b _ _ => hc b (by omega)) t4⟩
  · have := hA.lt
    rw [hc (A + 2) (by omega)]; exact h4 A hA
  · rw [r0, hc _ (by omega)]; exact h6
  · rw [r0, hc _ (by omega)]; exact h7 i hi
  · rw [hc 90 (by decide), t3]; exact h8 k hk
/-- behind a call of the reference -/
theorem AG.rf {s q : hs_S} (h : AG s) (r : rP s q) (ht : rT (hs_I s) (hs_I q)) : AG q := h.to r.1 r.2.1 (by rw [r.2.2.2]; exact h.2.2.1) (by rw [r.2.2.2]) (fun b hb => r.2.2.1 b (by omega)) ht
theorem rf_e {s : hs_S} (h : CJ s) {x : Option (Int32 × hs_S)} {n : Option (Int32 × hm)} (e : x = hl_d (hs_R s) n) {Q : Int32 × hm → Prop} (hn : Tq n Q) (hk : ∀ q, Q q → RJ q.2 ∧ mK (hs_I s) q.2) : Tq x (fun q => rP s q.2 ∧ Q (q.1, hs_I q.2)) := rf_d (P := Q) h e (hn.mono fun q hq => ⟨(hk q hq).1, (hk q hq).2, hq⟩)
/-- a call of the reference that changes nothing of this -/
theorem a_rf {s : hs_S} (h : AG s) {x : Option (Int32 × hs_S)} {n : Option (Int32 × hm)} (e : x = hl_d (hs_R s) n) {Q : Int32 × hm → Prop} (hn : Tq n Q) (hk : ∀ q, Q q → RJ q.2 ∧ mK (hs_I s) q.2 ∧ rT (hs_I s) q.2) : Tq x (fun q => AG q.2 ∧ Q (q.1, hs_I q.2)) := by
  refine (rf_e h.1 e hn fun q hq => ⟨(hk q hq).1, (hk q hq).2.1⟩).mono fun q hq => ⟨h.rf hq.1 (hk _ hq.2).2.2, hq.2⟩
theorem a_told {s : hs_S} (h : AG s) (a1 a2 a3 : Int32) : Tq (fX12_told 285 a1 a2 a3 s) (fun q => AG q.2) := by
  have e := tX12_told (hs_R s) h.1.2.1 a1 a2 a3 (hs_I s)
  rw [← h.1.1.gm] at e
  obtain ⟨t, T, x1⟩ := h.2.1.1
  have x := h.2.1
  exact (a_rf h e ((r_told x a1 a2 a3).and (q_told x1.1 x1.2.1 x.2.2.1 x.2.2.2.2.1 (fun c => (x.2.2.2.2.2 c).1) (fun c => (x.2.2.2.2.2 c).2) a1 a2 a3)) fun q hq => ⟨hq.1.1, hq.1.2.1, rT.of hq.2 (Fo.of hq.2 (by decide)) (S := []) (by decide) (by decide) (by decide) (by decide)⟩).mono fun q hq => hq.1
theorem a_byteAt {s : hs_S} (h : AG s) (a1 a2 a3 : Int32) : Tq (fX12_byteAt 285 a1 a2 a3 s) (fun q => AG q.2) := by
  have e := tX12_byteAt (hs_R s) h.1.2.1 a1 a2 a3 (hs_I s)
  rw [← h.1.1.gm] at e
  obtain ⟨r, e1⟩ := q_byteAt h.2.1.2.2.2.2.1 (fun c => (h.2.1.2.2.2.2.2 c).1) a1 a2 a3
  exact (a_rf h e (Q := fun q => q.2 = hs_I s) ⟨_, e1, rfl⟩ fun q hq => by rw [hq]; exact ⟨h.2.1, fun _ _ => rfl, rT.rf⟩).mono fun q hq => hq.1
theorem a_handler {s : hs_S} (h : AG s) (a1 a2 a3 a4 : Int32) : Tq (fX12_handler 285 a1 a2 a3 a4 s) (fun q => AG q.2) := by
  have e := tX12_handler (hs_R s) h.1.2.1 a1 a2 a3 a4 (hs_I s)
  rw [← h.1.1.gm] at e
  obtain ⟨r, e1⟩ := q_handler h.2.1.2.2.2.2.1 (fun c => (h.2.1.2.2.2.2.2 c).1) a1 a2 a3 a4
  exact (a_rf h e (Q := fun q => q.2 = hs_I s) ⟨_, e1, rfl⟩ fun q hq => by rw [hq]; exact ⟨h.2.1, fun _ _ => rfl, rT.rf⟩).mono fun q hq => hq.1
theorem a_element {s : hs_S} (h : AG s) (a1 a2 : Int32) : Tq (fX12_element 285 a1 a2 s) (fun q => AG q.2) := by
  have e := tX12_element (hs_R s) h.1.2.1 a1 a2 (hs_I s)
  rw [← h.1.1.gm] at e
  obtain ⟨r, e1⟩ := q_element h.2.1.2.2.2.1 a1 a2
  exact (a_rf h e (Q := fun q => q.2 = hs_I s) ⟨_, e1, rfl⟩ fun q hq => by rw [hq]; exact ⟨h.2.1, fun _ _ => rfl, rT.rf⟩).mono fun q hq => hq.1
theorem a_answer {s : hs_S} (h : AG s) : Tq (fX12_answer 285 s) (fun q => AG q.2) := by
  have e := tX12_answer (hs_R s) h.1.2.1 (hs_I s)
  rw [← h.1.1.gm] at e
  exact (a_rf h e (Q := fun q => q.2 = hs_I s) ⟨_, rfl, rfl⟩ fun q hq => by rw [hq]; exact ⟨h.2.1, fun _ _ => rfl, rT.rf⟩).mono fun q hq => hq.1
theorem a_counted {s : hs_S} (h : AG s) : Tq (fX12_counted 285 s) (fun q => AG q.2) := by
  have e := tX12_counted (hs_R s) h.1.2.1 (hs_I s)
  rw [← h.1.1.gm] at e
  exact (a_rf h e (Q := fun q => q.2 = hs_I s) ⟨_, rfl, rfl⟩ fun q hq => by rw [hq]; exact ⟨h.2.1, fun _ _ => rfl, rT.rf⟩).mono fun q hq => hq.1
theorem a_steps {s : hs_S} (h : AG s) : Tq (fX12_steps 285 s) (fun q => AG q.2) := by
  have e := tX12_steps (hs_R s) h.1.2.1 (hs_I s)
  rw [← h.1.1.gm] at e
  exact (a_rf h e (Q := fun q => q.2 = hs_I s) ⟨_, rfl, rfl⟩ fun q hq => by rw [hq]; exact ⟨h.2.1, fun _ _ => rfl, rT.rf⟩).mono fun q hq => hq.1
theorem a_block {s : hs_S} (h : AG s) (a1 a2 a3 : Int32) : Tq (fX12_block 285 a1 a2 a3 s) (fun q => AG q.2) := by
  have e := tX12_block (hs_R s) h.1.2.1 a1 a2 a3 (hs_I s)
  rw [← h.1.1.gm] at e
  obtain ⟨N, p, l, n, hh, c, R, hV⟩ := h.2.1.fv
  obtain ⟨P, hP⟩ := h.2.1.2.1
  exact (a_rf h e ((r_block h.2.1 a1 a2 a3).and (q_block hV hP a1 a2 a3)) fun q hq => ⟨hq.1.1, hq.1.2.1, rT.of hq.2.1 (Fo.of hq.2.1 (by decide)) (S := []) (by decide) (by decide) (by decide) (by decide)⟩).mono fun q hq => hq.1
theorem a_run12 {s : hs_S} (h : AG s) (a1 a2 a3 a4 : Int32) : Tq (fX12_run 285 a1 a2 a3 a4 s) (fun q => AG q.2) := by
  have e := tX12_run (hs_R s) h.1.2.1 a1 a2 a3 a4 (hs_I s)
  rw [← h.1.1.gm] at e
  exact (a_rf h e ((r_run h.2.1 a1 a2 a3 a4).and (q_run (fun c => (h.2.1.2.2.2.2.2 c).1) h.2.1.2.2.2.1 a1 a2 a3 a4)) fun q hq => ⟨hq.1.1, hq.1.2.1, rT.of hq.2.1 hq.2.2.1 (by decide) (by decide) (by decide) (by decide)⟩).mono fun q hq => hq.1
theorem a_run {s : hs_S} (h : AG s) (v1 v2 v3 v4 : Int32) : Tq (fX11_run 0 v1 v2 v3 v4 s) (fun q => AG q.2) := by
  refine (x_run h.1 h.2.2.1 v1 v2 v3 v4).mono fun q hq => ?_
  obtain ⟨c1, c2, c3, c4⟩ := hq
  have e : ∀ a, 285 ≤ a → hs_I q.2 a = hs_I s a := c1.2.1
  refine h.to c1.1 (h.2.1.cl c1) c2 c3 (fun b hb => c4 b (ow_lt b (by omega))) ⟨by rw [e 285 (by omega)], e _ (by omega), e _ (by omega), by rw [e 285 (by omega)], by rw [e 285 (by omega)], by rw [e 285 (by omega)], fun a h1 _ => e a (by omega), fun a h1 _ => e a (by omega)⟩
