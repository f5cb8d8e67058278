theorem s_F.fr {g g' : hm} {N : Nat} {p l n h : Nat → Nat} {c R : Nat → Nat → Nat} {A : List Nat} (x : s_F g N p l n h c R) (hF : Fr A g g') (h4 : g' 285 4 = g 285 4) (h0 : 287 ∉ A ∧ 288 ∉ A ∧ 289 ∉ A ∧ 290 ∉ A ∧ 291 ∉ A ∧ 292 ∉ A) : s_F g' N p l n h c R := by
  obtain ⟨a1, a2, a3, a4, a5, a6⟩ := h0
  refine ⟨by rw [h4]; exact x.1, fun m hm8 => ?_⟩
  obtain ⟨y1, y2, y3, y4, y5, y6⟩ := x.2 m hm8
  exact ⟨by rw [hF _ a1]; exact y1, by rw [hF _ a2]; exact y2, by rw [hF _ a3]; exact y3, by rw [hF _ a4]; exact y4, fun k hk => by rw [hF _ a6]; exact y5 k hk, fun i hi => by rw [hF _ a5]; exact y6 i hi⟩
set_option maxHeartbeats 1000000 in
theorem q_w19 {N : Nat} {p l n h : Nat → Nat} {c R : Nat → Nat → Nat} {P : Nat → Nat} (y : s_VF N p l n h c R) : ∀ (d m f all : Nat) (g : hm), m + d = N → d < f → s_F g N p l n h c R → s_Pr g P → (∀ z, z < m → s_Wm g z (n z) (h z) (c z) (R z) P) →
    Tq (nlX12_rewrite_19 f (nI all) (nI m) g) (fun q => Fr [285, 294, 304, 305, 306, 307, 308, 309, 310, 311] g q.2.2.2 ∧ Fo [31] g q.2.2.2 ∧ ((q.1 = 0 ∧ ∀ z, z < N → s_Wm q.2.2.2 z (n z) (h z) (c z) (R z) P) ∨ q.1 = 1))
  | d, m, 0, all, g, _, hf => absurd hf (Nat.not_lt_zero _)
  | 0, m, f + 1, all, g, hm0, _ => by
    intro x hP hW
    have hN := y.2.1
    rw [nlX12_rewrite_19_s, x.1, if_pos ((lei (by omega) (by omega)).mpr (by omega))]
    exact Tq.some ⟨Fr.rf, Fo.rf, Or.inl ⟨rfl, fun z hz => hW z (by omega)⟩⟩
  | d + 1, m, f + 1, all, g, hm0, hf => by
    intro x hP hW
    have hN := y.2.1
    obtain ⟨G, M⟩ := x.g y (show m < N by omega)
    have hn := G.2.1
    have e1 : (1 : Int32) = s_bI true := rfl
    have e0 : (0 : Int32) = nI 0 := rfl
    rw [nlX12_rewrite_19_s, x.1, if_neg (fun q => absurd ((lei (by omega) (by omega)).mp q) (by omega))]
    refine Tq.bd ((q_lay G M hP true).mono fun q1 h1 => ?_)
    obtain ⟨F1, b, far, S, hb, hbl, hfar, hLo, hLr, h308, hSb, hr⟩ := h1
    have hnB := s_chain_n M.2.2.2.2.1 (n m) 0 (by omega) (by omega) (s_B_0 (c m))
    have hSn := hSb (n m) hnB (Nat.le_refl _)
    rw [hr]
    by_cases c1 : S (n m) ≤ 4000
    rotate_left
    · have u : ¬ nI (S (n m)) ≤ (4000 : Int32) := fun q => c1 ((lei (b := 4000) (by omega) (by decide)).mp q)
      rw [if_neg u]
      exact Tq.some ⟨F1.mono (by decide), Fo.of F1 (by decide), Or.inr rfl⟩
    have u : nI (S (n m)) ≤ (4000 : Int32) := (lei (b := 4000) (by omega) (by decide)).mpr c1
    rw [if_pos u]
    have G1 := G.fr F1 (by decide) (by decide) (by decide) (by decide)
    refine Tq.bv ((q_put M true hLo.1 hSb G1 (hP.fr F1 (by decide)) hb hfar hLr).mono fun q2 h2 => ?_)
    obtain ⟨F2, O2, V2⟩ := h2
    have hi : hs_in (nI m) 8 = true := hin (by omega) (by decide)
    rw [if_pos hi, if_pos hi, cl (show m < 2147483648 by omega), nI_add]
    generalize hg3 : hm_w (hm_w q2 307 m (q2 285 31)) 305 m (nI (S (n m))) = g3
    have F3 : Fr [305, 307] q2 g3 := by rw [← hg3]; exact (Fr.rf.w (by decide)).w (by decide)
    have A3 : ∀ i, g3 305 i = if i = m then nI (S (n m)) else q2 305 i := fun i => by rw [← hg3, hm_w_at, hm_w_ne (by decide)]
    rw [e0]
    refine Tq.bv ((q_w76 (m := m) (e := S (n m)) (by omega) c1 (nI (all + S (n m))) (S (n m)) 0 hs_N g3 (by omega) (by unfold hs_N; omega)).mono fun q4 h4 => ?_)
    obtain ⟨F4, V4, W4⟩ := h4
    have FA : Fr [285, 294, 304, 305, 306, 307, 308, 309, 310, 311] g q4 := (((F1.mono (by decide)).trans (F2.mono (by decide))).trans (F3.mono (by decide))).trans (F4.mono (by decide))
    have G4 := G.fr FA (by decide) (by decide) (by decide) (by decide)
    refine Tq.bv ((q_w111 (fun z hz i hi => (M.r3 hz hi).1) (nI (all + S (n m))) (h m) 0 hs_N q4 (by omega) (by have := G.2.2.1; unfold hs_N; omega) G4).mono fun q5 h5 => ?_)
    obtain ⟨F5, V5, W5⟩ := h5
    have FB : Fr [285, 294, 304, 305, 306, 307, 308, 309, 310, 311] g q5 := FA.trans (F5.mono (by decide))
    have OB : Fo [31] g q5 := (((Fo.of F1 (by decide)).trans O2).trans (Fo.of F3 (by decide))).trans ((Fo.of F4 (by decide)).trans (Fo.of F5 (by decide)))
    have x5 : s_F q5 N p l n h c R := x.fr FB (OB 4 (by decide)) (by decide)
    rw [nI_1]
    have s308 : ∀ i, q4 308 i = q1.2 308 i := fun i => by rw [F4 308 (by decide), F3 308 (by decide), F2 308 (by decide)]
    have s304 : ∀ i, i < 4001 * m → q5 304 i = g 304 i := fun i hi => by rw [F5 304 (by decide), W4 i (by omega), F3 304 (by decide), F2 304 (by decide), F1 304 (by decide)]
    have s305 : ∀ i, i ≠ m → q5 305 i = g 305 i := fun i hi => by rw [F5 305 (by decide), F4 305 (by decide), A3, if_neg hi, F2 305 (by decide), F1 305 (by decide)]
    have s306 : ∀ i, i < 32 * m → q5 306 i = g 306 i := fun i hi => by rw [W5 i (by omega), F4 306 (by decide), F3 306 (by decide), F2 306 (by decide), F1 306 (by decide)]
    have st : ∀ j, s_B (c m) j → j ≤ n m → q1.2 308 j = nI (S j) := by
      intro j j1 j2
      by_cases ej : j = n m
      · rw [ej]; exact h308
      · exact (hLr j j1 (Nat.zero_le j) (by omega)).1
    refine (q_w19 y d (m + 1) f (all + S (n m)) q5 (by omega) (by omega) x5 (hP.fr FB (by decide)) (fun z hz => ?_)).mono fun q hq => ⟨FB.trans hq.1, OB.trans hq.2.1, hq.2.2⟩
    by_cases ez : z = m
    · subst ez
      refine ⟨b, far, S, hbl, hLo, c1, ?_, fun j j1 j2 o ho => ?_, fun i hi => ⟨fun e he => ?_, ?_⟩⟩
      · rw [F5 305 (by decide), F4 305 (by decide), A3, if_pos rfl]
      · have lt := hLo.lt M.2.2.2.2.1 j1 j2 ho
        rw [F5 304 (by decide), V4 _ (Nat.zero_le _) lt, F3 311 (by decide)]
        exact V2 j j1 j2 o ho
      · obtain ⟨r1, r2⟩ := M.r3 hi he
        rw [(V5 i (Nat.zero_le i) hi).1 e he, s308]
        exact st _ r2 r1
      · exact (V5 i (Nat.zero_le i) hi).2
    · have M' := (x.g y (show z < N by omega)).2
      exact (hW z (by omega)).fr M' (fun i hi => s304 i (by omega)) (s305 z ez) (fun i hi => s306 i (by omega))
/-- the written code is one of a FILE that is right, with these methods, parameters, locals and handlers -/
def s_WV (g : hm) : Prop := ∃ (N : Nat) (p l n h : Nat → Nat) (c R : Nat → Nat → Nat) (P : Nat → Nat), g 285 4 = nI N ∧ (∀ m, m < N → g 287 m = nI (p m) ∧ g 288 m = nI (l m) ∧ g 290 m = nI (h m)) ∧ s_VF N p l n h c R ∧ (∀ k, k < 256 → P k ≤ 1000) ∧ ∀ m, m < N → s_Wm g m (n m) (h m) (c m) (R m) P ∧ ∀ k, k < n m → c m k < 256
/-- rewrite() -/
theorem q_rewrite {g : hm} {N : Nat} {p l n h : Nat → Nat} {c R : Nat → Nat → Nat} {P : Nat → Nat} (hV : ¬ g 285 3 = 0 → s_F g N p l n h c R ∧ s_VF N p l n h c R) (hP : s_Pr g P) :
    Tq (nX12_rewrite g) (fun q => Fr [285, 294, 304, 305, 306, 307, 308, 309, 310, 311] g q.2 ∧ Fo [22, 31] g q.2 ∧ ((g 285 3 = 0 ∧ q = (-2, g)) ∨ (¬ g 285 3 = 0 ∧ (q.2 285 22 = 0 ∨ (q.2 285 22 = 1 ∧ s_WV q.2 ∧ ∀ m, m < N → s_Wm q.2 m (n m) (h m) (c m) (R m) P))))) := by
  unfold nX12_rewrite
  by_cases c0 : g 285 3 = 0
  · rw [if_pos c0]
    exact Tq.some ⟨Fr.rf, Fo.rf, Or.inl ⟨c0, rfl⟩⟩
  obtain ⟨x, y⟩ := hV c0
  have hN := y.2.1
  have e0 : (0 : Int32) = nI 0 := rfl
  rw [if_neg c0]
  generalize hg1 : hm_w g 285 22 (0 : Int32) = g1
  have F1 : Fr [285] g g1 := by rw [← hg1]; exact Fr.rf.w (by decide)
  have O1 : Fo [22, 31] g g1 := by rw [← hg1]; exact Fo.rf.w (by decide)
  have a22 : g1 285 22 = 0 := by rw [← hg1, hm_w_eq]
  rw [e0]
  refine Tq.b4 ((q_w19 (P := P) y N 0 hs_N 0 g1 (by omega) (by unfold hs_N; omega) (x.fr F1 (O1 4 (by decide)) (by decide)) (hP.fr F1 (by decide)) (fun z hz => absurd hz (Nat.not_lt_zero z))).mono fun q hq => ?_)
  obtain ⟨F2, O2, alt⟩ := hq
  have FA : Fr [285, 294, 304, 305, 306, 307, 308, 309, 310, 311] g q.2.2.2 := (F1.mono (by decide)).trans F2
  have OA : Fo [22, 31] g q.2.2.2 := O1.trans (fun j hj => O2 j (fun e => hj (by simp only [List.mem_cons, List.not_mem_nil, or_false] at e; rw [e]; decide)))
  rcases alt with ⟨q0, hW⟩ | q1
  · rw [if_pos q0]
    generalize hg3 : hm_w q.2.2.2 285 22 (1 : Int32) = g3
    have F3 : Fr [285] q.2.2.2 g3 := by rw [← hg3]; exact Fr.rf.w (by decide)
    have FB : Fr [285, 294, 304, 305, 306, 307, 308, 309, 310, 311] g g3 := FA.trans (F3.mono (by decide))
    have OB : Fo [22, 31] g g3 := by rw [← hg3]; exact OA.w (by decide)
    have a22' : g3 285 22 = 1 := by rw [← hg3, hm_w_eq]
    have W3 : ∀ m, m < N → s_Wm g3 m (n m) (h m) (c m) (R m) P := fun m hm8 => (hW m hm8).fr (x.g y hm8).2 (fun i _ => by rw [F3 304 (by decide)]) (by rw [F3 305 (by decide)]) (fun i _ => by rw [F3 306 (by decide)])
    have x3 : s_F g3 N p l n h c R := x.fr FB (OB 4 (by decide)) (by decide)
    exact Tq.some ⟨FB, OB, Or.inr ⟨c0, Or.inr ⟨a22', ⟨N, p, l, n, h, c, R, P, x3.1, fun m hm8 => ⟨(x3.2 m hm8).1, (x3.2 m hm8).2.1, (x3.2 m hm8).2.2.2.1⟩, y, fun k hk => (hP k hk).1, fun m hm8 => ⟨W3 m hm8, fun k hk => ((x.2 m hm8).2.2.2.2.1 k hk).2⟩⟩, W3⟩⟩⟩
  · rw [q1, if_neg (by decide)]
    exact Tq.some ⟨FA, OA, Or.inr ⟨c0, Or.inl (by show q.2.2.2 285 22 = 0; rw [O2 22 (by decide)]; exact a22)⟩⟩
