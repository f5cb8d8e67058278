/-! THE REFERENCE'S UNWRITING, EXACTLY -/
def s_Un (g : hm) (m n h : Nat) (c R P : Nat → Nat) : Prop := ∃ (b far : Nat → Bool) (S : Nat → Nat), (∀ i, i ≤ n → (b i = true ↔ s_bl c n h R i)) ∧ s_Lo c (s_pl P c n b false) n far S ∧ S n ≤ 2000 ∧ g 289 m = nI (S n) ∧
  (∀ j, s_B c j → j < n → ∀ o, o < s_ln c far j → g 292 (2001 * m + (S j + o)) = nI (s_em P c n b false far S j o)) ∧
  ∀ z, z < h → (∀ i, i < 3 → g 291 (32 * m + (4 * z + i)) = nI (S (R (4 * z + i)))) ∧ g 291 (32 * m + (4 * z + 3)) = nI (R (4 * z + 3))
theorem s_Un.fr {g g' : hm} {m n h l N : Nat} {c R P : Nat → Nat} (hM : s_Mt n l N h c R) (x : s_Un g m n h c R P) (h1 : ∀ i, 2001 * m ≤ i → i < 2001 * m + 2001 → g' 292 i = g 292 i) (h2 : g' 289 m = g 289 m) (h3 : ∀ i, 32 * m ≤ i → i < 32 * m + 32 → g' 291 i = g 291 i) : s_Un g' m n h c R P := by
  obtain ⟨b, far, S, x1, x2, x3, x4, x5, x6⟩ := x
  have hh := hM.2.2.2.1
  refine ⟨b, far, S, x1, x2, x3, by rw [h2]; exact x4, fun j j1 j2 o ho => ?_, fun z hz => ⟨fun i hi => ?_, ?_⟩⟩
  · have := x2.lt hM.2.2.2.2.1 j1 j2 (show o < s_pl P c n b false j + s_ln c far j by omega)
    rw [h1 _ (by omega) (by omega)]
    exact x5 j j1 j2 o ho
  · rw [h3 _ (by omega) (by omega)]
    exact (x6 z hz).1 i hi
  · rw [h3 _ (by omega) (by omega)]
    exact (x6 z hz).2
theorem q_uX {N m all n h l : Nat} {c R P : Nat → Nat} {g : hm} (hm0 : m < N) (hN : N ≤ 8) (h4 : g 285 4 = nI N) (G' : s_G g m n h c R) (M : s_Mt n l N h c R) (hP : s_Pr g P) (f : Nat) :
    ∃ (e : Nat) (g' : hm), nlX12_unwrite_14 (f + 1) (nI all) (nI m) g = nlX12_unwrite_14 f (nI (all + e)) (nI (m + 1)) g' ∧ e ≤ 2000 ∧ Fr [285, 289, 291, 292, 294, 308, 309, 310, 311] g g' ∧ Fo [31] g g' ∧ s_Un g' m n h c R P ∧ g' 289 m = nI e ∧ (∀ z, z ≠ m → g' 289 z = g 289 z) ∧ (∀ i, (i < 2001 * m ∨ 2001 * m + 2001 ≤ i) → g' 292 i = g 292 i) ∧ ∀ i, (i < 32 * m ∨ 32 * m + 32 ≤ i) → g' 291 i = g 291 i := by
  obtain ⟨hm', hn, hh, gn, gh, hC, hR⟩ := id G'
  have e0 : (0 : Int32) = s_bI false := rfl
  obtain ⟨q1, l1, F1, b, far, S, hb, hbl, hfar, hLo, hLr, h308, hSb, hr⟩ := q_lay G' M hP false
  have G1 := G'.fr F1 (by decide) (by decide) (by decide) (by decide)
  obtain ⟨q2, l2, F2, O2, V2⟩ := q_put M false hLo.1 hSb G1 (hP.fr F1 (by decide)) hb hfar hLr
  have hc : ∀ k, k < n → c k < 256 := fun k hk => (hC k hk).2
  have hpl := s_pl_f P c n b
  obtain ⟨sh1, sh2, sh3⟩ := hLo.short M hc hpl
  have hnB := s_chain_n M.2.2.2.2.1 n 0 (by omega) (by omega) (s_B_0 c)
  have hSn := sh3 n hnB (Nat.le_refl _)
  have gh2 : q2 290 m = nI h := by rw [F2 290 (by decide), F1 290 (by decide)]; exact gh
  have hR2 : ∀ i, 4 * 0 ≤ i → i < 4 * h → q2 291 (32 * m + i) = nI (R i) := fun i _ hi => by rw [F2 291 (by decide), F1 291 (by decide)]; exact (hR i hi).1
  obtain ⟨q3, l3, F3, V3, W3⟩ := q_u42 (n := n) hm' hn hh (fun z hz i hi => (M.r3 hz hi).1) (nI (all + S n)) (nI (S n)) h 0 hs_N q2 (by omega) (by unfold hs_N; omega) gh2 hR2
  obtain ⟨q4, l4, F4, V4, W4⟩ := q_u113 (m := m) (e := S n) hm' (by omega) (nI (all + S n)) (S n) 0 hs_N q3 (by omega) (by unfold hs_N; omega)
  generalize hg5 : hm_w q4 289 m (nI (S n)) = g5
  have F5 : Fr [289] q4 g5 := by rw [← hg5]; exact Fr.rf.w (by decide)
  have A5 : ∀ i, g5 289 i = if i = m then nI (S n) else q4 289 i := fun i => by rw [← hg5, hm_w_at]
  have FA : Fr [285, 289, 291, 292, 294, 308, 309, 310, 311] g g5 := ((((F1.mono (by decide)).trans (F2.mono (by decide))).trans (F3.mono (by decide))).trans (F4.mono (by decide))).trans (F5.mono (by decide))
  have OA : Fo [31] g g5 := ((((Fo.of F1 (by decide)).trans O2).trans (Fo.of F3 (by decide))).trans (Fo.of F4 (by decide))).trans (Fo.of F5 (by decide))
  refine ⟨S n, g5, ?_, by omega, FA, OA, ⟨b, far, S, hbl, hLo, by omega, by rw [A5, if_pos rfl], fun j j1 j2 o ho => ?_, fun z hz => ?_⟩, by rw [A5, if_pos rfl], fun z hz => ?_, fun i hi => ?_, fun i hi => ?_⟩
  · rw [nlX12_unwrite_14, h4, if_neg (fun q => absurd ((lei (by omega) (by omega)).mp q) (by omega)), e0, l1, hm_bd_s, l2, hm_bv_s, hr, nI_add, show s_bI false = nI 0 from rfl, l3, hm_bv_s, l4, hm_bv_s, if_pos (hin hm' (by decide)), nI_1, cl (show m < 2147483648 by omega), hg5]
  · have lt := hLo.lt M.2.2.2.2.1 j1 j2 (show o < s_pl P c n b false j + s_ln c far j by omega)
    rw [F5 292 (by decide), V4 _ (Nat.zero_le _) lt, F3 311 (by decide)]
    exact V2 j j1 j2 o (by omega)
  · obtain ⟨z1, z2⟩ := V3 z (Nat.zero_le _) hz
    refine ⟨fun i hi => ?_, ?_⟩
    · rw [F5 291 (by decide), F4 291 (by decide), z1 i hi, F2 308 (by decide)]
      obtain ⟨r1, r2⟩ := M.r3 hz hi
      by_cases en : R (4 * z + i) = n
      · rw [en]; exact h308
      · exact (hLr _ r2 (Nat.zero_le _) (by omega)).1
    · rw [F5 291 (by decide), F4 291 (by decide)]; exact z2
  · rw [A5, if_neg hz, F4 289 (by decide), F3 289 (by decide), F2 289 (by decide), F1 289 (by decide)]
  · rw [F5 292 (by decide), W4 i (by omega), F3 292 (by decide), F2 292 (by decide), F1 292 (by decide)]
  · rw [F5 291 (by decide), F4 291 (by decide), W3 i (by omega), F2 291 (by decide), F1 291 (by decide)]
theorem q_u14X {N : Nat} {l n h : Nat → Nat} {c R : Nat → Nat → Nat} {P : Nat → Nat} (hN : N ≤ 8) (hM : ∀ z, z < N → s_Mt (n z) (l z) N (h z) (c z) (R z)) : ∀ (d m f all : Nat) (g : hm), m + d = N → d < f → g 285 4 = nI N → (∀ z, m ≤ z → z < N → s_G g z (n z) (h z) (c z) (R z)) → s_Pr g P → (∀ z, z < m → s_Un g z (n z) (h z) (c z) (R z) P) → all = s_to (fun z => (g 289 z).toNatClampNeg) m →
    Tq (nlX12_unwrite_14 f (nI all) (nI m) g) (fun q => Fr [285, 289, 291, 292, 294, 308, 309, 310, 311] g q.2 ∧ Fo [31] g q.2 ∧ q.1 = nI (s_to (fun z => (q.2 289 z).toNatClampNeg) N) ∧ ∀ z, z < N → s_Un q.2 z (n z) (h z) (c z) (R z) P)
  | d, m, 0, all, g, _, hf, _, _, _, _, _ => absurd hf (Nat.not_lt_zero _)
  | 0, m, f + 1, all, g, hm0, _, h4, _, _, hU, hall => by
    rw [nlX12_unwrite_14, h4, if_pos ((lei (by omega) (by omega)).mpr (by omega))]
    exact Tq.some ⟨Fr.rf, Fo.rf, by rw [hall, show m = N by omega], fun z hz => hU z (by omega)⟩
  | d + 1, m, f + 1, all, g, hm0, hf, h4, hG, hP, hU, hall => by
    obtain ⟨e, g', e1, e2, F, O, U, u1, u2, u3, u4⟩ := q_uX (all := all) (show m < N by omega) hN h4 (hG m (Nat.le_refl _) (by omega)) (hM m (by omega)) hP f
    rw [e1]
    refine (q_u14X hN hM d (m + 1) f (all + e) g' (by omega) (by omega) (by rw [O 4 (by decide)]; exact h4) (fun z z1 z2 => ?_) (hP.fr F (by decide)) (fun z hz => ?_) ?_).mono fun q hq => ⟨F.trans hq.1, O.trans hq.2.1, hq.2.2⟩
    · obtain ⟨x1, x2, x3, x4, x5, x6, x7⟩ := hG z (by omega) z2
      exact ⟨x1, x2, x3, by rw [u2 z (by omega)]; exact x4, by rw [F 290 (by decide)]; exact x5, fun k hk => by rw [u3 _ (by omega)]; exact x6 k hk, fun i hi => by rw [u4 _ (by omega)]; exact x7 i hi⟩
    · by_cases ez : z = m
      · rw [ez]; exact U
      · exact (hU z (by omega)).fr (hM z (by omega)) (fun i i1 i2 => u3 i (by omega)) (u2 z ez) (fun i i1 i2 => u4 i (by omega))
    · show all + e = s_to (fun z => (g' 289 z).toNatClampNeg) m + (g' 289 m).toNatClampNeg
      rw [u1, cl (show e < 2147483648 by omega), hall]
      congr 1
      refine s_to_cg m fun z hz => ?_
      show (g 289 z).toNatClampNeg = (g' 289 z).toNatClampNeg
      rw [u2 z (by omega)]
/-- unwrite() of the reference -/
theorem q_unwriteX {g : hm} {t : Nat} {u P : Nat → Nat} (h22 : ¬ g 285 22 = 0) (hac : s_AC u t) (hF : s_Fu g u) (hP : s_Pr g P) :
    Tq (nX12_unwrite g) (fun q => Fr [285, 289, 291, 292, 294, 308, 309, 310, 311] g q.2 ∧ Fo [31] g q.2 ∧ q.1 = nI (s_to (fun z => (q.2 289 z).toNatClampNeg) (u 0)) ∧ ∀ z, z < u 0 → s_Un q.2 z (s_n u (s_off u z)) (s_h u (s_off u z)) (s_c u (s_off u z)) (s_R u (s_off u z)) P) := by
  unfold nX12_unwrite
  have e0 : (0 : Int32) = nI 0 := rfl
  rw [if_neg h22, e0]
  refine Tq.bd ((q_u14X (P := P) (l := fun m => u (s_off u m + 1)) hac.2.2.1 (fun z hz => hac.mt hz) (u 0) 0 hs_N 0 g (by omega) (by have := hac.2.2.1; unfold hs_N; omega) hF.1 (fun z _ hz => (hF.g hac.v hz).1) hP (fun z hz => absurd hz (Nat.not_lt_zero _)) rfl).mono fun q hq => ?_)
  exact Tq.some hq
