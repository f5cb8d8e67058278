/-! EVERY METHOD OF THE CLASS ANSWERS (wip/gen/cls.py) -/
theorem zlX1_wrongPlace_73 {s : Nat} {b : Bool} : ∀ (n : Nat) (v0 : Nat) (v1 : Nat) (v2 : Nat) (v3 : Int32) (g : hs_S), WT g → gm_k v0 = 1 → gm_k v1 = 0 → gm_k v2 = 6 → cm v3 ≤ n → Tq (lX1_wrongPlace_73 n v0 v1 v2 v3 g) (Zs3 s b g tt2)
  | 0, v0, v1, v2, v3, g, _, _, _, _, hc => absurd hc (by have := cm_pos v3; omega)
  | n + 1, v0, v1, v2, v3, g, w, k_v0, k_v1, k_v2, hc => by
    rw [lX1_wrongPlace_73]
    refine Tq.ck (w.k k_v2) ?_
    refine Tq.br (fun c5 => ?_) (fun c6 => ?_)
    · exact Tq.some ⟨⟨w, cU.rf⟩, trivial⟩
    · refine Tq.ck (w.k k_v0) ?_
      refine Tq.cst (zfX1_findLowest (s := s) (b := b) w k_v0) fun y1 g2 w7 u8 f9 => ?_
      refine Tq.br (fun c10 => ?_) (fun c11 => ?_)
      · exact Tq.some ⟨⟨w7, (cU.rf.trans u8)⟩, trivial⟩
      · refine Tq.ck (w7.k k_v0) ?_
        refine Tq.cst (zfX1_goOn (s := s) (b := b) w7 k_v0 k_v1 k_v2) fun y3 g4 w12 u13 f14 => ?_
        refine Tq.br (fun c15 => ?_) (fun c16 => ?_)
        · exact Zs3.tr ((cU.rf.trans u8).trans u13) (zlX1_wrongPlace_73 (s := s) (b := b) n _ _ _ _ _ w12 k_v0 k_v1 k_v2 (Nat.le_of_lt_succ (Nat.lt_of_lt_of_le (cm_s c6) hc)))
        · exact Tq.some ⟨⟨w12, ((cU.rf.trans u8).trans u13)⟩, trivial⟩
theorem zfX1_wrongPlace {s : Nat} {b : Bool} {g : hs_S} {v0 : Nat} {v1 : Nat} {v2 : Nat} (w : WT g) (k_v0 : gm_k v0 = 1) (k_v1 : gm_k v1 = 0) (k_v2 : gm_k v2 = 6) : Tq (fX1_wrongPlace v0 v1 v2 g) (Zs s b g tt) := by
  unfold fX1_wrongPlace jX1_wrongPlace_119
  refine Tq.ck (w.k k_v0) ?_
  refine Tq.ck (w.f1_0 k_v0).1 ?_
  refine Tq.csv (zfJ7_fill_53178 (s := s) (b := b) w (w.f1_0 k_v0).2) fun g1 w11 u12 => ?_
  refine Tq.ck (w11.k k_v0) ?_
  refine Tq.ck (w11.f1_1 k_v0).1 ?_
  refine Tq.csv (zfJ7_fill_53178 (s := s) (b := b) w11 (w11.f1_1 k_v0).2) fun g2 w13 u14 => ?_
  refine Tq.ck (w13.k k_v0) ?_
  refine Tq.ck (w13.f1_0 k_v0).1 ?_
  refine Tq.csv (zfX9_put (s := s) (b := b) (w13.w (oW.k k_v0 (by decide) (by decide) (by decide) : oW s b _ _ _)) (w13.f1_0 k_v0).2) fun g3 w15 u16 => ?_
  refine Tq.cst (zlX1_wrongPlace_32 (s := s) (b := b) hs_N _ _ _ _ _ w15 k_v0 k_v2 (cm_N _)) fun y4 g5 w17 u18 f19 => ?_
  refine Tq.br (fun c20 => ?_) (fun c21 => ?_)
  · refine Tq.cs3 (zlX1_wrongPlace_73 (s := s) (b := b) hs_N _ _ _ _ _ w17 k_v0 k_v1 k_v2 (cm_N _)) fun y6 y7 g8 w22 u23 f24 => ?_
    refine Tq.br (fun c25 => ?_) (fun c26 => ?_)
    · refine Tq.ck (w22.k k_v0) ?_
      refine Tq.cro (zfX1_greatest w22 k_v0) fun y9 f27 => ?_
      refine Tq.ck (w22.k k_v2) ?_
      exact Tq.some ⟨⟨(w22.w (oW.m k_v2 (by decide) : oW s b _ _ _)), (((((((cU.rf.trans u12).trans u14).w (oW.k k_v0 (by decide) (by decide) (by decide))).trans u16).trans u18).trans u23).w (oW.m k_v2 (by decide)))⟩, trivial⟩
    · exact Tq.some ⟨⟨w22, ((((((cU.rf.trans u12).trans u14).w (oW.k k_v0 (by decide) (by decide) (by decide))).trans u16).trans u18).trans u23)⟩, trivial⟩
  · exact Tq.some ⟨⟨w17, (((((cU.rf.trans u12).trans u14).w (oW.k k_v0 (by decide) (by decide) (by decide))).trans u16).trans u18)⟩, trivial⟩
theorem zlX1_firstWrong_2 {s : Nat} {b : Bool} : ∀ (n : Nat) (v0 : Nat) (v1 : Nat) (v2 : Int32) (g : hs_S), WT g → gm_k v0 = 1 → gm_k v1 = 0 → cm v2 ≤ n → Tq (lX1_firstWrong_2 n v0 v1 v2 g) (Zs4 s b g tt3)
  | 0, v0, v1, v2, g, _, _, _, hc => absurd hc (by have := cm_pos v2; omega)
  | n + 1, v0, v1, v2, g, w, k_v0, k_v1, hc => by
    rw [lX1_firstWrong_2]
    refine Tq.ck (w.k k_v1) ?_
    refine Tq.br (fun c5 => ?_) (fun c6 => ?_)
    · exact Tq.some ⟨⟨w, cU.rf⟩, trivial⟩
    · refine Tq.cro (zfX0_method w k_v1) fun y1 f7 => ?_
      refine Tq.ck (w.k k_v0) ?_
      refine Tq.cst (zfX1_wrongPlace (s := s) (b := b) w k_v0 k_v1 f7) fun y3 g4 w8 u9 f10 => ?_
      refine Tq.br (fun c11 => ?_) (fun c12 => ?_)
      · exact Zs4.tr (cU.rf.trans u9) (zlX1_firstWrong_2 (s := s) (b := b) n _ _ _ _ w8 k_v0 k_v1 (Nat.le_of_lt_succ (Nat.lt_of_lt_of_le (cm_s c6) hc)))
      · exact Tq.some ⟨⟨w8, (cU.rf.trans u9)⟩, trivial⟩
theorem zfX1_firstWrong {s : Nat} {b : Bool} {g : hs_S} {v0 : Nat} {v1 : Nat} (w : WT g) (k_v0 : gm_k v0 = 1) (k_v1 : gm_k v1 = 0) : Tq (fX1_firstWrong v0 v1 g) (Zs s b g tt) := by
  unfold fX1_firstWrong
  refine Tq.cs4 (zlX1_firstWrong_2 (s := s) (b := b) hs_N _ _ _ _ w k_v0 k_v1 (cm_N _)) fun y1 y2 y3 g4 w7 u8 f9 => ?_
  refine Tq.br (fun c10 => ?_) (fun c11 => ?_)
  · exact Tq.some ⟨⟨w7, (cU.rf.trans u8)⟩, trivial⟩
  · refine Tq.ck (w7.k k_v1) ?_
    refine Tq.cro (zfX0_method w7 k_v1) fun y5 f12 => ?_
    refine Tq.ck (w7.k f12) ?_
    exact Tq.some ⟨⟨w7, (cU.rf.trans u8)⟩, trivial⟩
/-- which METHOD of a set -/
def mth (R : Nat → Nat → Nat) (a : Nat) (v : Int32) : Nat := if v < 0 then R a 2 - 1 else if (8 : Int32) ≤ v then R a 2 - 1 else R (R a 1 - 1) v.toNatClampNeg - 1
theorem mth_eq {s : Nat} {b : Bool} {g q : hs_S} {a : Nat} {v : Int32} (u : cU s b g q) (w : WT g) (k : gm_k a = 0) : mth (hs_R q) a v = mth (hs_R g) a v := by
  unfold mth
  rw [u.2 a (by rw [k]; decide), u.2 (hs_R g a 1 - 1) (by rw [(w.f0_1 k).2.1]; decide)]
theorem xfX0_method {g : hs_S} {v0 : Nat} {v1 : Int32} (w : WT g) (k0 : gm_k v0 = 0) : ∃ r, fX0_method v0 v1 g = some (r, g) ∧ gm_k r = 6 ∧ r = mth (hs_R g) v0 v1 := by
  obtain ⟨h1, h2, h3, h4⟩ := w.f0_1 k0
  obtain ⟨f1, f2⟩ := w.f0_2 k0
  unfold fX0_method mth
  by_cases c1 : v1 < 0
  · rw [if_pos c1, if_pos c1, if_pos (w.k k0), if_pos f1]
    exact ⟨_, rfl, f2, rfl⟩
  rw [if_neg c1, if_neg c1]
  by_cases c2 : (8 : Int32) ≤ v1
  · rw [if_pos c2, if_pos c2, if_pos (w.k k0), if_pos f1]
    exact ⟨_, rfl, f2, rfl⟩
  rw [if_neg c2, if_neg c2]
  have hi : hs_in v1 8 = true := in_lit (by decide) c1 c2
  have hj : v1.toNatClampNeg < 8 := by
    simp only [hs_in, Bool.and_eq_true, decide_eq_true_eq] at hi
    exact hi.2
  rw [if_pos (w.k k0), if_pos h1, if_pos (w.k h2), w.ln, h3, if_pos hi, if_pos (h4 _ hj).1]
  exact ⟨_, rfl, (h4 _ hj).2, rfl⟩
theorem zlX2_firstWrong_40 {s : Nat} : ∀ (n : Nat) (v0 : Nat) (v1 : Nat) (v2 : Int32) (v3 : Int32) (g : hs_S), WT g → gm_k v0 = 2 → gm_k v1 = 0 → 0 ≤ v2.toInt → v2.toInt < 100000 → cm v3 ≤ n → Tq (lX2_firstWrong_40 n v0 v1 v2 v3 g) (Zs4 s false g tt3)
  | 0, v0, v1, v2, v3, g, _, _, _, _, _, hc => absurd hc (by have := cm_pos v3; omega)
  | n + 1, v0, v1, v2, v3, g, w, k_v0, k_v1, h0, h1, hc => by
    rw [lX2_firstWrong_40]
    refine Tq.ck (w.k k_v1) (Tq.br (fun _ => Tq.some ⟨⟨w, cU.rf⟩, trivial⟩) (fun c => ?_))
    obtain ⟨r8, e8, k8, h8⟩ := xfX0_method (v1 := v3) w k_v1
    rw [e8]
    show Tq (if hs_kd g v0 = 2 then _ else none) _
    refine Tq.ck (w.k k_v0) ?_
    obtain ⟨⟨r12, g11⟩, e, ⟨w11, u11⟩, h11⟩ := zfX2_wrongInMethod (s := s) w k_v0 k_v1 k8 h0 h1
    rw [e]
    show Tq (if r12 = (-1 : Int32) then _ else _) _
    refine Tq.br (fun c2 => ?_) (fun _ => Tq.some ⟨⟨w11, u11⟩, trivial⟩)
    have h11' : 0 ≤ (en g11 r8).toInt ∧ (en g11 r8).toInt ≤ 32000 := h11 c2
    have hm16 := mth_eq (v := v3) u11 w k_v1
    refine Tq.ck (w11.k k_v1) ?_
    obtain ⟨r16, e16, k16, m16⟩ := xfX0_method (v1 := v3) w11 k_v1
    rw [e16]
    have er : r16 = r8 := by rw [m16, hm16, h8]
    subst er
    show Tq (if hs_kd g11 v0 = 2 then _ else none) _
    refine Tq.ck (w11.k k_v0) (Tq.cro (zfX2_endOf w11 k_v0 k16) fun r20 e20 => ?_)
    rw [e20]
    exact Zs4.tr u11 (zlX2_firstWrong_40 n v0 v1 _ _ g11 w11 k_v0 k_v1 h11'.1 (Int.lt_of_le_of_lt h11'.2 (by decide)) (Nat.le_of_lt_succ (Nat.lt_of_lt_of_le (cm_s c) hc)))
theorem zfX2_firstWrong {s : Nat} {g : hs_S} {v0 : Nat} {v1 : Nat} (w : WT g) (k_v0 : gm_k v0 = 2) (k_v1 : gm_k v1 = 0) : Tq (fX2_firstWrong v0 v1 g) (Zs s false g tt) := by
  unfold fX2_firstWrong
  refine Tq.ck (w.k k_v1) ?_
  refine Tq.cro (zfX0_valueAt w k_v1) fun y1 f9 => ?_
  refine Tq.ck (w.k k_v1) ?_
  refine Tq.br (fun c10 => ?_) (fun c11 => ?_)
  · exact Tq.some ⟨⟨(w.w (oW.n k_v1 (by decide) : oW s false _ _ _)), (cU.rf.w (oW.n k_v1 (by decide)))⟩, trivial⟩
  · refine Tq.br (fun c12 => ?_) (fun c13 => ?_)
    · exact Tq.some ⟨⟨(w.w (oW.n k_v1 (by decide) : oW s false _ _ _)), (cU.rf.w (oW.n k_v1 (by decide)))⟩, trivial⟩
    · refine Tq.br (fun c14 => ?_) (fun c15 => ?_)
      · refine Tq.cs4 (zlX2_firstWrong_40 (s := s) hs_N _ _ _ _ _ (w.w (oW.n k_v1 (by decide) : oW s false _ _ _)) k_v0 k_v1 (by decide) (by decide) (cm_N _)) fun y3 y4 y5 g6 w16 u17 f18 => ?_
        refine Tq.br (fun c19 => ?_) (fun c20 => ?_)
        · refine Tq.ck (w16.k k_v1) ?_
          refine Tq.br (fun c21 => ?_) (fun c22 => ?_)
          · refine Tq.ck (w16.k k_v0) ?_
            refine Tq.ck (w16.f2_0 k_v0).1 ?_
            refine Tq.ck (w16.k (w16.f2_0 k_v0).2) ?_
            refine Tq.cst (zfX1_firstWrong (s := s) (b := false) w16 (w16.f2_0 k_v0).2 k_v1) fun y7 g8 w23 u24 f25 => ?_
            exact Tq.some ⟨⟨w23, (((cU.rf.w (oW.n k_v1 (by decide))).trans u17).trans u24)⟩, trivial⟩
          · exact Tq.some ⟨⟨w16, ((cU.rf.w (oW.n k_v1 (by decide))).trans u17)⟩, trivial⟩
        · exact Tq.some ⟨⟨w16, ((cU.rf.w (oW.n k_v1 (by decide))).trans u17)⟩, trivial⟩
      · exact Tq.some ⟨⟨(w.w (oW.n k_v1 (by decide) : oW s false _ _ _)), (cU.rf.w (oW.n k_v1 (by decide)))⟩, trivial⟩
theorem zfX8_of {g : hs_S} {v0 : Nat} {v1 : Int32} (w : WT g) (k_v0 : gm_k v0 = 7) : Tq (fX8_of v0 v1 g) (Zr g tt) := by
  unfold fX8_of
  refine Tq.ck (w.k k_v0) ?_
  refine Tq.ck (w.f7_0 k_v0).1 ?_
  refine Tq.cro (zfX9_at w ((congrArg gm_k (w.f7_0 k_v0).2).trans gm_k_90)) fun y1 f3 => ?_
  exact Tq.some ⟨rfl, trivial⟩
theorem zlX7_sumFrom_5 : ∀ (n : Nat) (v0 : Nat) (v1 : Int32) (v2 : Nat) (v3 : Int32) (v4 : Int32) (g : hs_S), WT g → gm_k v0 = 6 → gm_k v2 = 7 → cm v4 ≤ n → Tq (lX7_sumFrom_5 n v0 v1 v2 v3 v4 g) (Zr3 g tt2)
  | 0, v0, v1, v2, v3, v4, g, _, _, _, hc => absurd hc (by have := cm_pos v4; omega)
  | n + 1, v0, v1, v2, v3, v4, g, w, k_v0, k_v2, hc => by
    rw [lX7_sumFrom_5]
    unfold jX7_sumFrom_32 jX7_sumFrom_54
    refine Tq.ck (w.k k_v0) ?_
    refine Tq.br (fun c15 => ?_) (fun c16 => ?_)
    · exact Tq.some ⟨rfl, trivial⟩
    · refine Tq.br (fun c17 => ?_) (fun c18 => ?_)
      · refine Tq.ck (w.k k_v0) ?_
        refine Tq.cro (zfX7_begins w k_v0) fun y3 f19 => ?_
        refine Tq.br (fun c20 => ?_) (fun c21 => ?_)
        · exact (zlX7_sumFrom_5 n _ _ _ _ _ _ w k_v0 k_v2 (Nat.le_of_lt_succ (Nat.lt_of_lt_of_le (cm_s c16) hc)))
        · refine Tq.ck (w.k k_v0) ?_
          refine Tq.cro (zfX7_valueAt w k_v0) fun y5 f22 => ?_
          refine Tq.ck (w.k k_v2) ?_
          refine Tq.cro (zfX8_of w k_v2) fun y7 f23 => ?_
          exact (zlX7_sumFrom_5 n _ _ _ _ _ _ w k_v0 k_v2 (Nat.le_of_lt_succ (Nat.lt_of_lt_of_le (cm_s c16) hc)))
      · refine Tq.cro (zfX7_beginsBlock w k_v0) fun y1 f24 => ?_
        refine Tq.br (fun c25 => ?_) (fun c26 => ?_)
        · refine Tq.ck (w.k k_v0) ?_
          refine Tq.cro (zfX7_begins w k_v0) fun y9 f27 => ?_
          refine Tq.br (fun c28 => ?_) (fun c29 => ?_)
          · exact (zlX7_sumFrom_5 n _ _ _ _ _ _ w k_v0 k_v2 (Nat.le_of_lt_succ (Nat.lt_of_lt_of_le (cm_s c16) hc)))
          · refine Tq.ck (w.k k_v0) ?_
            refine Tq.cro (zfX7_valueAt w k_v0) fun y11 f30 => ?_
            refine Tq.ck (w.k k_v2) ?_
            refine Tq.cro (zfX8_of w k_v2) fun y13 f31 => ?_
            exact (zlX7_sumFrom_5 n _ _ _ _ _ _ w k_v0 k_v2 (Nat.le_of_lt_succ (Nat.lt_of_lt_of_le (cm_s c16) hc)))
        · exact Tq.some ⟨rfl, trivial⟩
theorem zfX7_sumFrom {g : hs_S} {v0 : Nat} {v1 : Int32} {v2 : Nat} (w : WT g) (k_v0 : gm_k v0 = 6) (k_v2 : gm_k v2 = 7) : Tq (fX7_sumFrom v0 v1 v2 g) (Zr g tt) := by
  unfold fX7_sumFrom
  refine Tq.cr3 (zlX7_sumFrom_5 hs_N _ _ _ _ _ _ w k_v0 k_v2 (cm_N _)) fun y1 y2 f4 => ?_
  refine Tq.br (fun c5 => ?_) (fun c6 => ?_)
  · exact Tq.some ⟨rfl, trivial⟩
  · exact Tq.some ⟨rfl, trivial⟩
theorem zlX5_takeSums_10 {s : Nat} {b : Bool} : ∀ (n : Nat) (v0 : Nat) (v1 : Nat) (v2 : Nat) (v3 : Int32) (g : hs_S), WT g → gm_k v0 = 4 → gm_k v1 = 6 → gm_k v2 = 7 → cm v3 ≤ n → Tq (lX5_takeSums_10 n v0 v1 v2 v3 g) (Zv s b g)
  | 0, v0, v1, v2, v3, g, _, _, _, _, hc => absurd hc (by have := cm_pos v3; omega)
  | n + 1, v0, v1, v2, v3, g, w, k_v0, k_v1, k_v2, hc => by
    rw [lX5_takeSums_10]
    unfold jX5_takeSums_47
    refine Tq.ck (w.k k_v0) ?_
    refine Tq.br (fun c6 => ?_) (fun c7 => ?_)
    · exact Tq.some ⟨w, cU.rf⟩
    · refine Tq.ck (w.k k_v1) ?_
      refine Tq.br (fun c8 => ?_) (fun c9 => ?_)
      · exact Tq.some ⟨w, cU.rf⟩
      · refine Tq.cro (zfX7_beginsBlock w k_v1) fun y1 f10 => ?_
        refine Tq.br (fun c11 => ?_) (fun c12 => ?_)
        · exact Zv.tr cU.rf (zlX5_takeSums_10 (s := s) (b := b) n _ _ _ _ _ w k_v0 k_v1 k_v2 (Nat.le_of_lt_succ (Nat.lt_of_lt_of_le (cm_s c9) hc)))
        · refine Tq.ck (w.k k_v0) ?_
          refine Tq.ck (w.f4_0 k_v0).1 ?_
          refine Tq.ck (w.k k_v1) ?_
          refine Tq.cro (zfX7_sumFrom w k_v1 k_v2) fun y3 f13 => ?_
          refine Tq.csv (zfX9_put (s := s) (b := b) w (w.f4_0 k_v0).2) fun g5 w14 u15 => ?_
          exact Zv.tr (cU.rf.trans u15) (zlX5_takeSums_10 (s := s) (b := b) n _ _ _ _ _ w14 k_v0 k_v1 k_v2 (Nat.le_of_lt_succ (Nat.lt_of_lt_of_le (cm_s c9) hc)))
theorem zfX5_takeSums {s : Nat} {b : Bool} {g : hs_S} {v0 : Nat} {v1 : Nat} {v2 : Nat} (w : WT g) (k_v0 : gm_k v0 = 4) (k_v1 : gm_k v1 = 6) (k_v2 : gm_k v2 = 7) : Tq (fX5_takeSums v0 v1 v2 g) (Zv s b g) := by
  unfold fX5_takeSums
  refine Tq.ck (w.k k_v0) ?_
  refine Tq.ck (w.f4_0 k_v0).1 ?_
  refine Tq.csv (zfJ7_fill_53178 (s := s) (b := b) w (w.f4_0 k_v0).2) fun g1 w3 u4 => ?_
  refine Tq.csv (zlX5_takeSums_10 (s := s) (b := b) hs_N _ _ _ _ _ w3 k_v0 k_v1 k_v2 (cm_N _)) fun g2 w5 u6 => ?_
  exact Tq.some ⟨w5, ((cU.rf.trans u4).trans u6)⟩
theorem zfX5_sumBytes {g : hs_S} {v0 : Nat} {v1 : Int32} (w : WT g) (k_v0 : gm_k v0 = 4) : Tq (fX5_sumBytes v0 v1 g) (Zr g tt) := by
  unfold fX5_sumBytes
  refine Tq.ck (w.k k_v0) ?_
  refine Tq.ck (w.f4_0 k_v0).1 ?_
  refine Tq.cro (zfX9_at w (w.f4_0 k_v0).2.1) fun y1 f3 => ?_
  refine Tq.br (fun c4 => ?_) (fun c5 => ?_)
  · exact Tq.some ⟨rfl, trivial⟩
  · exact Tq.some ⟨rfl, trivial⟩
theorem zfX5_paysTop {g : hs_S} {v0 : Nat} {v1 : Nat} {v2 : Int32} (w : WT g) (k_v0 : gm_k v0 = 4) (k_v1 : gm_k v1 = 6) : Tq (fX5_paysTop v0 v1 v2 g) (Zr g tt) := by
  unfold fX5_paysTop
  refine Tq.ck (w.k k_v0) ?_
  refine Tq.br (fun c3 => ?_) (fun c4 => ?_)
  · exact Tq.some ⟨rfl, trivial⟩
  · refine Tq.ck (w.k k_v1) ?_
    refine Tq.cro (zfX7_valueAt w k_v1) fun y1 f5 => ?_
    refine Tq.br (fun c6 => ?_) (fun c7 => ?_)
    · exact Tq.some ⟨rfl, trivial⟩
    · exact Tq.some ⟨rfl, trivial⟩
theorem zfX5_bytesAhead {g : hs_S} {v0 : Nat} {v1 : Nat} {v2 : Int32} (w : WT g) (k_v0 : gm_k v0 = 4) (k_v1 : gm_k v1 = 6) : Tq (fX5_bytesAhead v0 v1 v2 g) (Zr g tt) := by
  unfold fX5_bytesAhead
  refine Tq.ck (w.k k_v0) ?_
  refine Tq.cro (zfX5_sumBytes w k_v0) fun y1 f5 => ?_
  refine Tq.ck (w.k k_v0) ?_
  refine Tq.cro (zfX5_paysTop w k_v0 k_v1) fun y3 f6 => ?_
  refine Tq.br (fun c7 => ?_) (fun c8 => ?_)
  · exact Tq.some ⟨rfl, trivial⟩
  · exact Tq.some ⟨rfl, trivial⟩
theorem zfX5_isLong {g : hs_S} {v0 : Nat} {v1 : Int32} (w : WT g) (k_v0 : gm_k v0 = 4) : Tq (fX5_isLong v0 v1 g) (Zr g tt) := by
  unfold fX5_isLong
  refine Tq.ck (w.k k_v0) ?_
  refine Tq.ck (w.f4_3 k_v0).1 ?_
  refine Tq.cro (zfX9_at w (w.f4_3 k_v0).2.1) fun y1 f3 => ?_
  refine Tq.br (fun c4 => ?_) (fun c5 => ?_)
  · exact Tq.some ⟨rfl, trivial⟩
  · exact Tq.some ⟨rfl, trivial⟩
theorem zfX5_bytesOf {g : hs_S} {v0 : Nat} {v1 : Nat} {v2 : Int32} (w : WT g) (k_v0 : gm_k v0 = 4) (k_v1 : gm_k v1 = 6) : Tq (fX5_bytesOf v0 v1 v2 g) (Zr g tt) := by
  unfold fX5_bytesOf
  refine Tq.ck (w.k k_v1) ?_
  refine Tq.cro (zfX7_valueAt w k_v1) fun y1 f13 => ?_
  refine Tq.cro (zfX4_isJump w ) fun y3 f14 => ?_
  refine Tq.br (fun c15 => ?_) (fun c16 => ?_)
  · refine Tq.cro (zfX4_sizeOf w ) fun y5 f17 => ?_
    exact Tq.some ⟨rfl, trivial⟩
  · refine Tq.ck (w.k k_v0) ?_
    refine Tq.cro (zfX5_isLong w k_v0) fun y7 f18 => ?_
    refine Tq.br (fun c19 => ?_) (fun c20 => ?_)
    · exact Tq.some ⟨rfl, trivial⟩
    · refine Tq.cro (zfX4_isBranch w ) fun y9 f21 => ?_
      refine Tq.br (fun c22 => ?_) (fun c23 => ?_)
      · refine Tq.cro (zfX4_sizeOf w ) fun y11 f24 => ?_
        exact Tq.some ⟨rfl, trivial⟩
      · exact Tq.some ⟨rfl, trivial⟩
theorem zlX5_placeAll_4 {s : Nat} {b : Bool} : ∀ (n : Nat) (v0 : Nat) (v1 : Nat) (v2 : Int32) (v3 : Int32) (g : hs_S), WT g → gm_k v0 = 4 → gm_k v1 = 6 → cm v3 ≤ n → Tq (lX5_placeAll_4 n v0 v1 v2 v3 g) (Zs s b g tt)
  | 0, v0, v1, v2, v3, g, _, _, _, hc => absurd hc (by have := cm_pos v3; omega)
  | n + 1, v0, v1, v2, v3, g, w, k_v0, k_v1, hc => by
    rw [lX5_placeAll_4]
    unfold jX5_placeAll_45
    refine Tq.ck (w.k k_v1) ?_
    refine Tq.br (fun c8 => ?_) (fun c9 => ?_)
    · exact Tq.some ⟨⟨w, cU.rf⟩, trivial⟩
    · refine Tq.cro (zfX7_begins w k_v1) fun y1 f10 => ?_
      refine Tq.br (fun c11 => ?_) (fun c12 => ?_)
      · exact Zs.tr cU.rf (zlX5_placeAll_4 (s := s) (b := b) n _ _ _ _ _ w k_v0 k_v1 (Nat.le_of_lt_succ (Nat.lt_of_lt_of_le (cm_s c9) hc)))
      · refine Tq.ck (w.k k_v0) ?_
        refine Tq.ck (w.f4_1 k_v0).1 ?_
        refine Tq.csv (zfX9_put (s := s) (b := b) w (w.f4_1 k_v0).2) fun g3 w13 u14 => ?_
        refine Tq.ck (w13.k k_v0) ?_
        refine Tq.cro (zfX5_bytesAhead w13 k_v0 k_v1) fun y4 f15 => ?_
        refine Tq.ck (w13.k k_v0) ?_
        refine Tq.cro (zfX5_bytesOf w13 k_v0 k_v1) fun y6 f16 => ?_
        exact Zs.tr (cU.rf.trans u14) (zlX5_placeAll_4 (s := s) (b := b) n _ _ _ _ _ w13 k_v0 k_v1 (Nat.le_of_lt_succ (Nat.lt_of_lt_of_le (cm_s c9) hc)))
theorem zfX5_placeAll {s : Nat} {b : Bool} {g : hs_S} {v0 : Nat} {v1 : Nat} (w : WT g) (k_v0 : gm_k v0 = 4) (k_v1 : gm_k v1 = 6) : Tq (fX5_placeAll v0 v1 g) (Zs s b g tt) := by
  unfold fX5_placeAll
  refine Tq.cst (zlX5_placeAll_4 (s := s) (b := b) hs_N _ _ _ _ _ w k_v0 k_v1 (cm_N _)) fun y1 g2 w4 u5 f6 => ?_
  refine Tq.ck (w4.k k_v0) ?_
  refine Tq.ck (w4.f4_1 k_v0).1 ?_
  refine Tq.ck (w4.k k_v1) ?_
  refine Tq.csv (zfX9_put (s := s) (b := b) w4 (w4.f4_1 k_v0).2) fun g3 w7 u8 => ?_
  exact Tq.some ⟨⟨w7, ((cU.rf.trans u5).trans u8)⟩, trivial⟩
theorem zfX5_wayOf {g : hs_S} {v0 : Nat} {v1 : Nat} {v2 : Int32} (w : WT g) (k_v0 : gm_k v0 = 4) (k_v1 : gm_k v1 = 6) : Tq (fX5_wayOf v0 v1 v2 g) (Zr g tt) := by
  unfold fX5_wayOf
  refine Tq.ck (w.k k_v0) ?_
  refine Tq.ck (w.f4_1 k_v0).1 ?_
  refine Tq.cro (zfX9_at w (w.f4_1 k_v0).2.1) fun y1 f9 => ?_
  refine Tq.ck (w.k k_v0) ?_
  refine Tq.cro (zfX5_sumBytes w k_v0) fun y3 f10 => ?_
  refine Tq.ck (w.k k_v0) ?_
  refine Tq.ck (w.f4_1 k_v0).1 ?_
  refine Tq.ck (w.k k_v1) ?_
  refine Tq.cro (zfX7_targetOf w k_v1) fun y5 f11 => ?_
  refine Tq.cro (zfX9_at w (w.f4_1 k_v0).2.1) fun y7 f12 => ?_
  exact Tq.some ⟨rfl, trivial⟩
theorem zlX5_lengthen_4 {s : Nat} {b : Bool} : ∀ (n : Nat) (v0 : Nat) (v1 : Nat) (v2 : Int32) (v3 : Int32) (g : hs_S), WT g → gm_k v0 = 4 → gm_k v1 = 6 → hs_01 v2 = true → cm v3 ≤ n → Tq (lX5_lengthen_4 n v0 v1 v2 v3 g) (Zs s b g (fun r => hs_01 r = true))
  | 0, v0, v1, v2, v3, g, _, _, _, _, hc => absurd hc (by have := cm_pos v3; omega)
  | n + 1, v0, v1, v2, v3, g, w, k_v0, k_v1, h_any, hc => by
    rw [lX5_lengthen_4]
    unfold jX5_lengthen_60 jX5_lengthen_71
    refine Tq.ck (w.k k_v1) ?_
    refine Tq.br (fun c10 => ?_) (fun c11 => ?_)
    · exact Tq.some ⟨⟨w, cU.rf⟩, h_any⟩
    · refine Tq.cro (zfX7_jumpsAt w k_v1) fun y1 f12 => ?_
      refine Tq.br (fun c13 => ?_) (fun c14 => ?_)
      · exact Zs.tr cU.rf (zlX5_lengthen_4 (s := s) (b := b) n _ _ _ _ _ w k_v0 k_v1 h_any (Nat.le_of_lt_succ (Nat.lt_of_lt_of_le (cm_s c11) hc)))
      · refine Tq.ck (w.k k_v0) ?_
        refine Tq.cro (zfX5_wayOf w k_v0 k_v1) fun y3 f15 => ?_
        refine Tq.ck (w.k k_v0) ?_
        refine Tq.ck (w.f4_2 k_v0).1 ?_
        refine Tq.csv (zfX9_put (s := s) (b := b) w (w.f4_2 k_v0).2) fun g5 w16 u17 => ?_
        refine Tq.ck (w16.k k_v0) ?_
        refine Tq.cro (zfX5_isLong w16 k_v0) fun y6 f18 => ?_
        refine Tq.br (fun c19 => ?_) (fun c20 => ?_)
        · refine Tq.br (fun c21 => ?_) (fun c22 => ?_)
          · refine Tq.ck (w16.k k_v0) ?_
            refine Tq.ck (w16.f4_3 k_v0).1 ?_
            refine Tq.csv (zfX9_put (s := s) (b := b) w16 (w16.f4_3 k_v0).2) fun g8 w23 u24 => ?_
            exact Zs.tr ((cU.rf.trans u17).trans u24) (zlX5_lengthen_4 (s := s) (b := b) n _ _ _ _ _ w23 k_v0 k_v1 (by decide) (Nat.le_of_lt_succ (Nat.lt_of_lt_of_le (cm_s c11) hc)))
          · refine Tq.br (fun c25 => ?_) (fun c26 => ?_)
            · exact Zs.tr (cU.rf.trans u17) (zlX5_lengthen_4 (s := s) (b := b) n _ _ _ _ _ w16 k_v0 k_v1 h_any (Nat.le_of_lt_succ (Nat.lt_of_lt_of_le (cm_s c11) hc)))
            · refine Tq.ck (w16.k k_v0) ?_
              refine Tq.ck (w16.f4_3 k_v0).1 ?_
              refine Tq.csv (zfX9_put (s := s) (b := b) w16 (w16.f4_3 k_v0).2) fun g9 w27 u28 => ?_
              exact Zs.tr ((cU.rf.trans u17).trans u28) (zlX5_lengthen_4 (s := s) (b := b) n _ _ _ _ _ w27 k_v0 k_v1 (by decide) (Nat.le_of_lt_succ (Nat.lt_of_lt_of_le (cm_s c11) hc)))
        · exact Zs.tr (cU.rf.trans u17) (zlX5_lengthen_4 (s := s) (b := b) n _ _ _ _ _ w16 k_v0 k_v1 h_any (Nat.le_of_lt_succ (Nat.lt_of_lt_of_le (cm_s c11) hc)))
theorem zfX5_lengthen {s : Nat} {b : Bool} {g : hs_S} {v0 : Nat} {v1 : Nat} (w : WT g) (k_v0 : gm_k v0 = 4) (k_v1 : gm_k v1 = 6) : Tq (fX5_lengthen v0 v1 g) (Zs s b g tt) := by
  unfold fX5_lengthen
  refine Tq.cst (zlX5_lengthen_4 (s := s) (b := b) hs_N _ _ _ _ _ w k_v0 k_v1 (by decide) (cm_N _)) fun y1 g2 w3 u4 f5 => ?_
  refine Tq.ck f5 ?_
  exact Tq.some ⟨⟨w3, (cU.rf.trans u4)⟩, trivial⟩
theorem zlX5_plan_29 {s : Nat} {b : Bool} : ∀ (n : Nat) (v0 : Nat) (v1 : Nat) (v4 : Int32) (v5 : Int32) (g : hs_S), WT g → gm_k v0 = 4 → gm_k v1 = 6 → cm v5 ≤ n → Tq (lX5_plan_29 n v0 v1 v4 v5 g) (Zs s b g tt)
  | 0, v0, v1, v4, v5, g, _, _, _, hc => absurd hc (by have := cm_pos v5; omega)
  | n + 1, v0, v1, v4, v5, g, w, k_v0, k_v1, hc => by
    rw [lX5_plan_29]
    refine Tq.ck (w.k k_v1) ?_
    refine Tq.br (fun c5 => ?_) (fun c6 => ?_)
    · exact Tq.some ⟨⟨w, cU.rf⟩, trivial⟩
    · refine Tq.ck (w.k k_v0) ?_
      refine Tq.cst (zfX5_lengthen (s := s) (b := b) w k_v0 k_v1) fun y1 g2 w7 u8 f9 => ?_
      refine Tq.br (fun c10 => ?_) (fun c11 => ?_)
      · exact Tq.some ⟨⟨w7, (cU.rf.trans u8)⟩, trivial⟩
      · refine Tq.ck (w7.k k_v0) ?_
        refine Tq.cst (zfX5_placeAll (s := s) (b := b) w7 k_v0 k_v1) fun y3 g4 w12 u13 f14 => ?_
        exact Zs.tr ((cU.rf.trans u8).trans u13) (zlX5_plan_29 (s := s) (b := b) n _ _ _ _ _ w12 k_v0 k_v1 (Nat.le_of_lt_succ (Nat.lt_of_lt_of_le (cm_s c6) hc)))
theorem zfX5_plan {s : Nat} {b : Bool} {g : hs_S} {v0 : Nat} {v1 : Nat} {v2 : Nat} {v3 : Int32} (w : WT g) (k_v0 : gm_k v0 = 4) (k_v1 : gm_k v1 = 6) (k_v2 : gm_k v2 = 7) (h_p : hs_01 v3 = true) : Tq (fX5_plan v0 v1 v2 v3 g) (Zs s b g tt) := by
  unfold fX5_plan
  refine Tq.ck (w.k k_v0) ?_
  refine Tq.ck h_p ?_
  refine Tq.csv (zfX5_takeSums (s := s) (b := b) (w.w (oW.k k_v0 (by decide) (by decide) (by decide) : oW s b _ _ _)) k_v0 k_v1 k_v2) fun g1 w7 u8 => ?_
  refine Tq.ck (w7.k k_v0) ?_
  refine Tq.ck (w7.f4_3 k_v0).1 ?_
  refine Tq.csv (zfJ7_fill_53178 (s := s) (b := b) w7 (w7.f4_3 k_v0).2) fun g2 w9 u10 => ?_
  refine Tq.ck (w9.k k_v0) ?_
  refine Tq.cst (zfX5_placeAll (s := s) (b := b) w9 k_v0 k_v1) fun y3 g4 w11 u12 f13 => ?_
  refine Tq.cst (zlX5_plan_29 (s := s) (b := b) hs_N _ _ _ _ _ w11 k_v0 k_v1 (cm_N _)) fun y5 g6 w14 u15 f16 => ?_
  exact Tq.some ⟨⟨w14, (((((cU.rf.w (oW.k k_v0 (by decide) (by decide) (by decide))).trans u8).trans u10).trans u12).trans u15)⟩, trivial⟩
theorem zfX0_appendPair {s : Nat} {b : Bool} {g : hs_S} {v0 : Nat} {v1 : Int32} (w : WT g) (k_v0 : gm_k v0 = 0) (e_s : v0 = s) : Tq (fX0_appendPair v0 v1 g) (Zv s b g) := by
  unfold fX0_appendPair
  refine Tq.ck (w.k k_v0) ?_
  refine Tq.csv (zfX0_append (s := s) (b := b) w k_v0 e_s) fun g1 w3 u4 => ?_
  refine Tq.ck (w3.k k_v0) ?_
  refine Tq.csv (zfX0_append (s := s) (b := b) w3 k_v0 e_s) fun g2 w5 u6 => ?_
  exact Tq.some ⟨w5, ((cU.rf.trans u4).trans u6)⟩
theorem zfX4_opposite {g : hs_S} {v0 : Int32} (w : WT g)  : Tq (fX4_opposite v0 g) (Zr g tt) := by
  unfold fX4_opposite
  exact Tq.some ⟨rfl, trivial⟩
theorem zfX5_writeJump {s : Nat} {b : Bool} {g : hs_S} {v0 : Nat} {v1 : Nat} {v2 : Int32} {v3 : Nat} {v4 : Nat} (w : WT g) (k_v0 : gm_k v0 = 4) (k_v1 : gm_k v1 = 6) (k_v3 : gm_k v3 = 0) (k_v4 : gm_k v4 = 6) (e_s : v3 = s) : Tq (fX5_writeJump v0 v1 v2 v3 v4 g) (Zv s b g) := by
  unfold fX5_writeJump jX5_writeJump_42 jX5_writeJump_102
  refine Tq.ck (w.k k_v1) ?_
  refine Tq.cro (zfX7_valueAt w k_v1) fun y1 f23 => ?_
  refine Tq.ck (w.k k_v0) ?_
  refine Tq.ck (w.f4_2 k_v0).1 ?_
  refine Tq.cro (zfX9_at w (w.f4_2 k_v0).2.1) fun y3 f24 => ?_
  refine Tq.ck (w.k k_v0) ?_
  refine Tq.cro (zfX5_isLong w k_v0) fun y5 f25 => ?_
  refine Tq.br (fun c26 => ?_) (fun c27 => ?_)
  · refine Tq.cro (zfX4_isBranch w ) fun y7 f28 => ?_
    refine Tq.br (fun c29 => ?_) (fun c30 => ?_)
    · refine Tq.ck (w.k k_v3) ?_
      refine Tq.csv (zfX0_append (s := s) (b := b) w k_v3 e_s) fun g15 w31 u32 => ?_
      refine Tq.ck (w31.k k_v3) ?_
      refine Tq.csv (zfX0_append (s := s) (b := b) w31 k_v3 e_s) fun g16 w33 u34 => ?_
      exact Tq.some ⟨w33, ((cU.rf.trans u32).trans u34)⟩
    · refine Tq.ck (w.k k_v3) ?_
      refine Tq.csv (zfX0_append (s := s) (b := b) w k_v3 e_s) fun g17 w35 u36 => ?_
      refine Tq.ck (w35.k k_v3) ?_
      refine Tq.csv (zfX0_append (s := s) (b := b) w35 k_v3 e_s) fun g18 w37 u38 => ?_
      exact Tq.some ⟨w37, ((cU.rf.trans u36).trans u38)⟩
  · refine Tq.cro (zfX4_isBranch w ) fun y9 f39 => ?_
    refine Tq.br (fun c40 => ?_) (fun c41 => ?_)
    · refine Tq.ck (w.k k_v4) ?_
      refine Tq.ck (w.k k_v3) ?_
      refine Tq.csv (zfX0_append (s := s) (b := b) (w.w (oW.m k_v4 (by decide) : oW s b _ _ _)) k_v3 e_s) fun g19 w42 u43 => ?_
      refine Tq.ck (w42.k k_v3) ?_
      refine Tq.csv (zfX0_appendPair (s := s) (b := b) w42 k_v3 e_s) fun g20 w44 u45 => ?_
      exact Tq.some ⟨w44, (((cU.rf.w (oW.m k_v4 (by decide))).trans u43).trans u45)⟩
    · refine Tq.cro (zfX4_opposite w ) fun y11 f46 => ?_
      refine Tq.ck (w.k k_v3) ?_
      refine Tq.csv (zfX0_append (s := s) (b := b) w k_v3 e_s) fun g13 w47 u48 => ?_
      refine Tq.ck (w47.k k_v3) ?_
      refine Tq.csv (zfX0_append (s := s) (b := b) w47 k_v3 e_s) fun g14 w49 u50 => ?_
      refine Tq.ck (w49.k k_v4) ?_
      refine Tq.ck (w49.k k_v3) ?_
      refine Tq.csv (zfX0_append (s := s) (b := b) (w49.w (oW.m k_v4 (by decide) : oW s b _ _ _)) k_v3 e_s) fun g21 w51 u52 => ?_
      refine Tq.ck (w51.k k_v3) ?_
      refine Tq.csv (zfX0_appendPair (s := s) (b := b) w51 k_v3 e_s) fun g22 w53 u54 => ?_
      exact Tq.some ⟨w53, (((((cU.rf.trans u48).trans u50).w (oW.m k_v4 (by decide))).trans u52).trans u54)⟩
theorem zlX5_writeInstruction_84 {s : Nat} {b : Bool} : ∀ (n : Nat) (v1 : Nat) (v2 : Int32) (v3 : Nat) (v6 : Int32) (v7 : Int32) (g : hs_S), WT g → gm_k v1 = 6 → gm_k v3 = 0 → v3 = s → cm v7 ≤ n → Tq (lX5_writeInstruction_84 n v1 v2 v3 v6 v7 g) (Zv s b g)
  | 0, v1, v2, v3, v6, v7, g, _, _, _, _, hc => absurd hc (by have := cm_pos v7; omega)
  | n + 1, v1, v2, v3, v6, v7, g, w, k_v1, k_v3, e_s, hc => by
    rw [lX5_writeInstruction_84]
    refine Tq.br (fun c4 => ?_) (fun c5 => ?_)
    · exact Tq.some ⟨w, cU.rf⟩
    · refine Tq.ck (w.k k_v1) ?_
      refine Tq.cro (zfX7_valueAt w k_v1) fun y1 f6 => ?_
      refine Tq.ck (w.k k_v3) ?_
      refine Tq.csv (zfX0_append (s := s) (b := b) w k_v3 e_s) fun g3 w7 u8 => ?_
      exact Zv.tr (cU.rf.trans u8) (zlX5_writeInstruction_84 (s := s) (b := b) n _ _ _ _ _ _ w7 k_v1 k_v3 e_s (Nat.le_of_lt_succ (Nat.lt_of_lt_of_le (cm_s c5) hc)))
theorem zfX5_writeInstruction {s : Nat} {b : Bool} {g : hs_S} {v0 : Nat} {v1 : Nat} {v2 : Int32} {v3 : Nat} {v4 : Nat} (w : WT g) (k_v0 : gm_k v0 = 4) (k_v1 : gm_k v1 = 6) (k_v3 : gm_k v3 = 0) (k_v4 : gm_k v4 = 6) (e_s : v3 = s) : Tq (fX5_writeInstruction v0 v1 v2 v3 v4 g) (Zv s b g) := by
  unfold fX5_writeInstruction jX5_writeInstruction_37 jX5_writeInstruction_53
  refine Tq.ck (w.k k_v0) ?_
  refine Tq.ck (w.f4_0 k_v0).1 ?_
  refine Tq.cro (zfX9_at w (w.f4_0 k_v0).2.1) fun y1 f44 => ?_
  refine Tq.br (fun c45 => ?_) (fun c46 => ?_)
  · refine Tq.ck (w.k k_v0) ?_
    refine Tq.cro (zfX5_paysTop w k_v0 k_v1) fun y6 f47 => ?_
    refine Tq.br (fun c48 => ?_) (fun c49 => ?_)
    · refine Tq.ck (w.k k_v1) ?_
      refine Tq.cro (zfX7_valueAt w k_v1) fun y9 f50 => ?_
      refine Tq.cro (zfX4_isJump w ) fun y11 f51 => ?_
      refine Tq.br (fun c52 => ?_) (fun c53 => ?_)
      · refine Tq.ck (w.k k_v1) ?_
        refine Tq.cro (zfX7_sizeAt w k_v1) fun y13 f54 => ?_
        refine Tq.csv (zlX5_writeInstruction_84 (s := s) (b := b) hs_N _ _ _ _ _ _ w k_v1 k_v3 e_s (cm_N _)) fun g15 w55 u56 => ?_
        exact Tq.some ⟨w55, (cU.rf.trans u56)⟩
      · refine Tq.ck (w.k k_v0) ?_
        refine Tq.csv (zfX5_writeJump (s := s) (b := b) w k_v0 k_v1 k_v3 k_v4 e_s) fun g16 w57 u58 => ?_
        exact Tq.some ⟨w57, (cU.rf.trans u58)⟩
    · refine Tq.ck (w.k k_v3) ?_
      refine Tq.csv (zfX0_append (s := s) (b := b) w k_v3 e_s) fun g8 w59 u60 => ?_
      refine Tq.ck (w59.k k_v1) ?_
      refine Tq.cro (zfX7_valueAt w59 k_v1) fun y17 f61 => ?_
      refine Tq.cro (zfX4_isJump w59 ) fun y19 f62 => ?_
      refine Tq.br (fun c63 => ?_) (fun c64 => ?_)
      · refine Tq.ck (w59.k k_v1) ?_
        refine Tq.cro (zfX7_sizeAt w59 k_v1) fun y21 f65 => ?_
        refine Tq.csv (zlX5_writeInstruction_84 (s := s) (b := b) hs_N _ _ _ _ _ _ w59 k_v1 k_v3 e_s (cm_N _)) fun g23 w66 u67 => ?_
        exact Tq.some ⟨w66, ((cU.rf.trans u60).trans u67)⟩
      · refine Tq.ck (w59.k k_v0) ?_
        refine Tq.csv (zfX5_writeJump (s := s) (b := b) w59 k_v0 k_v1 k_v3 k_v4 e_s) fun g24 w68 u69 => ?_
        exact Tq.some ⟨w68, ((cU.rf.trans u60).trans u69)⟩
  · refine Tq.ck (w.k k_v3) ?_
    refine Tq.csv (zfX0_append (s := s) (b := b) w k_v3 e_s) fun g3 w70 u71 => ?_
    refine Tq.ck (w70.k k_v3) ?_
    refine Tq.csv (zfX0_appendPair (s := s) (b := b) w70 k_v3 e_s) fun g4 w72 u73 => ?_
    refine Tq.ck (w72.k k_v3) ?_
    refine Tq.csv (zfX0_appendPair (s := s) (b := b) w72 k_v3 e_s) fun g5 w74 u75 => ?_
    refine Tq.ck (w74.k k_v0) ?_
    refine Tq.cro (zfX5_paysTop w74 k_v0 k_v1) fun y25 f76 => ?_
    refine Tq.br (fun c77 => ?_) (fun c78 => ?_)
    · refine Tq.ck (w74.k k_v1) ?_
      refine Tq.cro (zfX7_valueAt w74 k_v1) fun y28 f79 => ?_
      refine Tq.cro (zfX4_isJump w74 ) fun y30 f80 => ?_
      refine Tq.br (fun c81 => ?_) (fun c82 => ?_)
      · refine Tq.ck (w74.k k_v1) ?_
        refine Tq.cro (zfX7_sizeAt w74 k_v1) fun y32 f83 => ?_
        refine Tq.csv (zlX5_writeInstruction_84 (s := s) (b := b) hs_N _ _ _ _ _ _ w74 k_v1 k_v3 e_s (cm_N _)) fun g34 w84 u85 => ?_
        exact Tq.some ⟨w84, ((((cU.rf.trans u71).trans u73).trans u75).trans u85)⟩
      · refine Tq.ck (w74.k k_v0) ?_
        refine Tq.csv (zfX5_writeJump (s := s) (b := b) w74 k_v0 k_v1 k_v3 k_v4 e_s) fun g35 w86 u87 => ?_
        exact Tq.some ⟨w86, ((((cU.rf.trans u71).trans u73).trans u75).trans u87)⟩
    · refine Tq.ck (w74.k k_v3) ?_
      refine Tq.csv (zfX0_append (s := s) (b := b) w74 k_v3 e_s) fun g27 w88 u89 => ?_
      refine Tq.ck (w88.k k_v1) ?_
      refine Tq.cro (zfX7_valueAt w88 k_v1) fun y36 f90 => ?_
      refine Tq.cro (zfX4_isJump w88 ) fun y38 f91 => ?_
      refine Tq.br (fun c92 => ?_) (fun c93 => ?_)
      · refine Tq.ck (w88.k k_v1) ?_
        refine Tq.cro (zfX7_sizeAt w88 k_v1) fun y40 f94 => ?_
        refine Tq.csv (zlX5_writeInstruction_84 (s := s) (b := b) hs_N _ _ _ _ _ _ w88 k_v1 k_v3 e_s (cm_N _)) fun g42 w95 u96 => ?_
        exact Tq.some ⟨w95, (((((cU.rf.trans u71).trans u73).trans u75).trans u89).trans u96)⟩
      · refine Tq.ck (w88.k k_v0) ?_
        refine Tq.csv (zfX5_writeJump (s := s) (b := b) w88 k_v0 k_v1 k_v3 k_v4 e_s) fun g43 w97 u98 => ?_
        exact Tq.some ⟨w97, (((((cU.rf.trans u71).trans u73).trans u75).trans u89).trans u98)⟩
theorem zlX5_moveHandlers_21 {s : Nat} {b : Bool} : ∀ (n : Nat) (v0 : Nat) (v1 : Nat) (v2 : Nat) (v3 : Int32) (v4 : Int32) (g : hs_S), WT g → gm_k v0 = 4 → gm_k v1 = 6 → gm_k v2 = 6 → cm v4 ≤ n → Tq (lX5_moveHandlers_21 n v0 v1 v2 v3 v4 g) (Zv s b g)
  | 0, v0, v1, v2, v3, v4, g, _, _, _, _, hc => absurd hc (by have := cm_pos v4; omega)
  | n + 1, v0, v1, v2, v3, v4, g, w, k_v0, k_v1, k_v2, hc => by
    rw [lX5_moveHandlers_21]
    refine Tq.br (fun c6 => ?_) (fun c7 => ?_)
    · exact Tq.some ⟨w, cU.rf⟩
    · refine Tq.ck (w.k k_v1) ?_
      refine Tq.cro (zfX7_handlerNumber w k_v1) fun y1 f8 => ?_
      refine Tq.ck (w.k k_v0) ?_
      refine Tq.ck (w.f4_1 k_v0).1 ?_
      refine Tq.cro (zfX9_at w (w.f4_1 k_v0).2.1) fun y3 f9 => ?_
      refine Tq.ck (w.k k_v2) ?_
      refine Tq.csv (zfX7_setHandlerNumber (s := s) (b := b) w k_v2) fun g5 w10 u11 => ?_
      exact Zv.tr (cU.rf.trans u11) (zlX5_moveHandlers_21 (s := s) (b := b) n _ _ _ _ _ _ w10 k_v0 k_v1 k_v2 (Nat.le_of_lt_succ (Nat.lt_of_lt_of_le (cm_l c7 (by decide)) hc)))
theorem zlX5_moveHandlers_10 {s : Nat} {b : Bool} : ∀ (n : Nat) (v0 : Nat) (v1 : Nat) (v2 : Nat) (v3 : Int32) (g : hs_S), WT g → gm_k v0 = 4 → gm_k v1 = 6 → gm_k v2 = 6 → cm v3 ≤ n → Tq (lX5_moveHandlers_10 n v0 v1 v2 v3 g) (Zv s b g)
  | 0, v0, v1, v2, v3, g, _, _, _, _, hc => absurd hc (by have := cm_pos v3; omega)
  | n + 1, v0, v1, v2, v3, g, w, k_v0, k_v1, k_v2, hc => by
    rw [lX5_moveHandlers_10]
    refine Tq.ck (w.k k_v1) ?_
    refine Tq.br (fun c5 => ?_) (fun c6 => ?_)
    · exact Tq.some ⟨w, cU.rf⟩
    · refine Tq.csv (zlX5_moveHandlers_21 (s := s) (b := b) hs_N _ _ _ _ _ _ w k_v0 k_v1 k_v2 (cm_N _)) fun g1 w7 u8 => ?_
      refine Tq.ck (w7.k k_v1) ?_
      refine Tq.cro (zfX7_handlerNumber w7 k_v1) fun y2 f9 => ?_
      refine Tq.ck (w7.k k_v2) ?_
      refine Tq.csv (zfX7_setHandlerNumber (s := s) (b := b) w7 k_v2) fun g4 w10 u11 => ?_
      exact Zv.tr ((cU.rf.trans u8).trans u11) (zlX5_moveHandlers_10 (s := s) (b := b) n _ _ _ _ _ w10 k_v0 k_v1 k_v2 (Nat.le_of_lt_succ (Nat.lt_of_lt_of_le (cm_s c6) hc)))
theorem zfX5_moveHandlers {s : Nat} {g : hs_S} {v0 : Nat} {v1 : Nat} {v2 : Nat} (w : WT g) (k_v0 : gm_k v0 = 4) (k_v1 : gm_k v1 = 6) (k_v2 : gm_k v2 = 6) : Tq (fX5_moveHandlers v0 v1 v2 g) (Zv s false g) := by
  unfold fX5_moveHandlers
  refine Tq.ck (w.k k_v1) ?_
  refine Tq.ck (w.k k_v2) ?_
  refine Tq.csv (zlX5_moveHandlers_10 (s := s) (b := false) hs_N _ _ _ _ _ (w.w (oW.h k_v2 : oW s false _ _ _)) k_v0 k_v1 k_v2 (cm_N _)) fun g1 w2 u3 => ?_
  exact Tq.some ⟨w2, ((cU.rf.w (oW.h k_v2)).trans u3)⟩
theorem zlX5_write_39 {s : Nat} {b : Bool} : ∀ (n : Nat) (v0 : Nat) (v1 : Nat) (v2 : Nat) (v3 : Nat) (v4 : Int32) (g : hs_S), WT g → gm_k v0 = 4 → gm_k v1 = 6 → gm_k v2 = 0 → gm_k v3 = 6 → v2 = s → cm v4 ≤ n → Tq (lX5_write_39 n v0 v1 v2 v3 v4 g) (Zv s b g)
  | 0, v0, v1, v2, v3, v4, g, _, _, _, _, _, _, hc => absurd hc (by have := cm_pos v4; omega)
  | n + 1, v0, v1, v2, v3, v4, g, w, k_v0, k_v1, k_v2, k_v3, e_s, hc => by
    rw [lX5_write_39]
    unfold jX5_write_66
    refine Tq.ck (w.k k_v1) ?_
    refine Tq.br (fun c4 => ?_) (fun c5 => ?_)
    · exact Tq.some ⟨w, cU.rf⟩
    · refine Tq.cro (zfX7_begins w k_v1) fun y1 f6 => ?_
      refine Tq.br (fun c7 => ?_) (fun c8 => ?_)
      · exact Zv.tr cU.rf (zlX5_write_39 (s := s) (b := b) n _ _ _ _ _ _ w k_v0 k_v1 k_v2 k_v3 e_s (Nat.le_of_lt_succ (Nat.lt_of_lt_of_le (cm_s c5) hc)))
      · refine Tq.ck (w.k k_v0) ?_
        refine Tq.csv (zfX5_writeInstruction (s := s) (b := b) w k_v0 k_v1 k_v2 k_v3 e_s) fun g3 w9 u10 => ?_
        exact Zv.tr (cU.rf.trans u10) (zlX5_write_39 (s := s) (b := b) n _ _ _ _ _ _ w9 k_v0 k_v1 k_v2 k_v3 e_s (Nat.le_of_lt_succ (Nat.lt_of_lt_of_le (cm_s c5) hc)))
theorem zfX5_write {s : Nat} {g : hs_S} {v0 v1 v2 v3 : Nat} (w : WT g) (k_v0 : gm_k v0 = 4) (k_v1 : gm_k v1 = 6) (k_v2 : gm_k v2 = 0) (k_v3 : gm_k v3 = 6) (e_s : v2 = s) : Tq (fX5_write v0 v1 v2 v3 g) (Zv s false g) := by
  unfold fX5_write
  refine Tq.ck (w.k k_v3) (Tq.csv (zfX7_empty (s := s) w k_v3) fun g2 w2 u2 => Tq.ck (w2.k k_v1) (Tq.ck (w2.k k_v3) (Tq.csome ?_)))
  generalize hv1 : hs_I g2 v1 4 = x1
  generalize hv2 : hs_I (hs_wI g2 v3 4 x1) v1 5 = x2
  generalize hv3 : hs_I (hs_wI (hs_wI g2 v3 4 x1) v3 5 x2) v1 7 = x3
  have o1 : oW s false v3 4 x1 := oW.m k_v3 (by decide)
  have o2 : oW s false v3 5 x2 := oW.m k_v3 (by decide)
  have o3 : oW s false v3 7 x3 := oW.m k_v3 (by decide)
  have w7 := ((w2.w o1).w o2).w o3
  have u7 := ((u2.w o1).w o2).w o3
  generalize hs_wI (hs_wI (hs_wI g2 v3 4 x1) v3 5 x2) v3 7 x3 = g7 at w7 u7
  have b7 := w7.2.2.2.2.2 v2 k_v2
  have a1 := le_toInt b7.1
  have a2 := le_toInt b7.2
  rw [ti_0] at a1
  rw [show (32000 : Int32).toInt = 32000 by decide] at a2
  have o4 : oW s false v3 2 (hs_I g7 v2 3) := oW.v k_v3 (of_lt (by rw [ti_m]; omega))
  have w8 := w7.w o4
  have u8 := u7.w o4
  refine Tq.ck (w7.k k_v2) (Tq.csv (zlX5_write_39 (s := s) (b := true) hs_N _ _ _ _ _ _ w8 k_v0 k_v1 k_v2 k_v3 e_s (cm_N _)) fun g21 w21 u21 => ?_)
  have hcode : hs_I g21 v3 2 = hs_I g7 v2 3 := by
    rw [u21.1 v3 2 (Or.inr (Or.inr (Or.inr ⟨k_v3, Or.inl rfl, rfl⟩))), hs_I_w, if_pos rfl, if_pos rfl]
  have b21 := w21.2.2.2.2.2 v2 k_v2
  have a3 := le_toInt b21.1
  have a4 := le_toInt b21.2
  rw [ti_0] at a3
  rw [show (32000 : Int32).toInt = 32000 by decide] at a4
  have o5 : oW s false v3 3 (hs_I g21 v2 3 - hs_I g21 v3 2) := oW.v k_v3 (of_lt (by rw [hcode, sub_toInt (by omega) (by omega), ti_m]; omega))
  have w22 := w21.w o5
  have u22 := (u8.trans u21.dn).w o5
  refine Tq.ck (w21.k k_v2) (Tq.ck (w21.k k_v3) (Tq.ck (w22.k k_v0) (Tq.csv (zfX5_moveHandlers (s := s) w22 k_v0 k_v1 k_v3) fun g3 w3 u3 => Tq.some ⟨w3, u22.trans u3⟩)))
theorem zlX0_codeBytes_4 : ∀ (n : Nat) (v0 : Nat) (v1 : Int32) (v2 : Int32) (g : hs_S), WT g → gm_k v0 = 0 → cm v2 ≤ n → Tq (lX0_codeBytes_4 n v0 v1 v2 g) (Zr g tt)
  | 0, v0, v1, v2, g, _, _, hc => absurd hc (by have := cm_pos v2; omega)
  | n + 1, v0, v1, v2, g, w, k_v0, hc => by
    rw [lX0_codeBytes_4]
    refine Tq.ck (w.k k_v0) ?_
    refine Tq.br (fun c3 => ?_) (fun c4 => ?_)
    · exact Tq.some ⟨rfl, trivial⟩
    · refine Tq.cro (zfX0_method w k_v0) fun y1 f5 => ?_
      refine Tq.ck (w.k f5) ?_
      exact (zlX0_codeBytes_4 n _ _ _ _ w k_v0 (Nat.le_of_lt_succ (Nat.lt_of_lt_of_le (cm_s c4) hc)))
theorem zfX0_codeBytes {g : hs_S} {v0 : Nat} (w : WT g) (k_v0 : gm_k v0 = 0) : Tq (fX0_codeBytes v0 g) (Zr g tt) := by
  unfold fX0_codeBytes
  refine Tq.cro (zlX0_codeBytes_4 hs_N _ _ _ _ w k_v0 (cm_N _)) fun y1 f3 => ?_
  exact Tq.some ⟨rfl, trivial⟩
theorem zlX11_rewrite_22 {s : Nat} : ∀ (n : Nat) (v0 : Nat) (v1 : Int32) (g : hs_S), WT g → gm_k v0 = 9 → hs_R g v0 3 - 1 = s → cm v1 ≤ n → Tq (lX11_rewrite_22 n v0 v1 g) (Zs3 s false g tt2)
  | 0, v0, v1, g, _, _, _, hc => absurd hc (by have := cm_pos v1; omega)
  | n + 1, v0, v1, g, w, k_v0, e_s, hc => by
    rw [lX11_rewrite_22]
    refine Tq.ck (w.k k_v0) ?_
    refine Tq.ck (w.f9_1 k_v0).1 ?_
    refine Tq.ck (w.k (w.f9_1 k_v0).2) ?_
    refine Tq.br (fun c10 => ?_) (fun c11 => ?_)
    · exact Tq.some ⟨⟨w, cU.rf⟩, trivial⟩
    · refine Tq.ck (w.f9_6 k_v0).1 ?_
      refine Tq.cro (zfX0_method w (w.f9_1 k_v0).2) fun y1 f12 => ?_
      refine Tq.ck (w.k k_v0) ?_
      refine Tq.ck (w.f9_4 k_v0).1 ?_
      refine Tq.ck (w.k (w.f9_6 k_v0).2) ?_
      refine Tq.cst (zfX5_plan (s := s) (b := false) w (w.f9_6 k_v0).2 f12 (w.f9_4 k_v0).2 (by decide)) fun y3 g4 w13 u14 f15 => ?_
      refine Tq.br (fun c16 => ?_) (fun c17 => ?_)
      · refine Tq.ck (w13.k k_v0) ?_
        refine Tq.ck (w13.f9_6 k_v0).1 ?_
        refine Tq.ck (w13.f9_1 k_v0).1 ?_
        refine Tq.ck (w13.k (w13.f9_1 k_v0).2) ?_
        refine Tq.cro (zfX0_method w13 (w13.f9_1 k_v0).2) fun y5 f18 => ?_
        refine Tq.ck (w13.k k_v0) ?_
        refine Tq.ck (w13.f9_3 k_v0).1 ?_
        refine Tq.ck (w13.k (w13.f9_3 k_v0).2) ?_
        refine Tq.cro (zfX0_method w13 (w13.f9_3 k_v0).2) fun y7 f19 => ?_
        refine Tq.ck (w13.k (w13.f9_6 k_v0).2) ?_
        refine Tq.csv (zfX5_write (s := s) w13 (w13.f9_6 k_v0).2 f18 (w13.f9_3 k_v0).2 f19 ((congrArg (fun R => R 3 - 1) ((cU.rf.trans u14).2 v0 (by rw [k_v0]; decide))).trans e_s)) fun g9 w20 u21 => ?_
        exact Zs3.tr ((cU.rf.trans u14).trans u21) (zlX11_rewrite_22 (s := s) n _ _ _ w20 k_v0 ((congrArg (fun R => R 3 - 1) (((cU.rf.trans u14).trans u21).2 v0 (by rw [k_v0]; decide))).trans e_s) (Nat.le_of_lt_succ (Nat.lt_of_lt_of_le (cm_s c11) hc)))
      · exact Tq.some ⟨⟨w13, (cU.rf.trans u14)⟩, trivial⟩
theorem zfX11_rewrite {s : Nat} {g : hs_S} {v0 : Nat} (w : WT g) (k_v0 : gm_k v0 = 9) (e_s : hs_R g v0 3 - 1 = s) : Tq (fX11_rewrite v0 g) (Zs s false g tt) := by
  unfold fX11_rewrite
  refine Tq.ck (w.k k_v0) ?_
  refine Tq.ck (w.f9_1 k_v0).1 ?_
  refine Tq.ck (w.k (w.f9_1 k_v0).2) ?_
  refine Tq.br (fun c7 => ?_) (fun c8 => ?_)
  · exact Tq.some ⟨⟨w, cU.rf⟩, trivial⟩
  · refine Tq.ck (w.f9_3 k_v0).1 ?_
    refine Tq.ck (w.k (w.f9_3 k_v0).2) ?_
    refine Tq.csv (zfX0_empty (s := s) (b := false) w (w.f9_3 k_v0).2 e_s) fun g1 w9 u10 => ?_
    refine Tq.cs3 (zlX11_rewrite_22 (s := s) hs_N _ _ _ w9 k_v0 ((congrArg (fun R => R 3 - 1) ((cU.rf.trans u10).2 v0 (by rw [k_v0]; decide))).trans e_s) (cm_N _)) fun y2 y3 g4 w11 u12 f13 => ?_
    refine Tq.br (fun c14 => ?_) (fun c15 => ?_)
    · refine Tq.ck (w11.k k_v0) ?_
      refine Tq.ck (w11.f9_3 k_v0).1 ?_
      refine Tq.ck (w11.f9_1 k_v0).1 ?_
      refine Tq.ck (w11.k (w11.f9_1 k_v0).2) ?_
      refine Tq.ck (w11.k (w11.f9_3 k_v0).2) ?_
      refine Tq.ck (w11.f9_3 k_v0).1 ?_
      refine Tq.ck (w11.k (w11.f9_3 k_v0).2) ?_
      refine Tq.cro (zfX0_codeBytes (w11.w (oW.n (w11.f9_3 k_v0).2 (by decide) : oW s false _ _ _)) (w11.f9_3 k_v0).2) fun y5 f16 => ?_
      exact Tq.some ⟨⟨(w11.w (oW.n (w11.f9_3 k_v0).2 (by decide) : oW s false _ _ _)), (((cU.rf.trans u10).trans u12).w (oW.n (w11.f9_3 k_v0).2 (by decide)))⟩, trivial⟩
    · exact Tq.some ⟨⟨w11, ((cU.rf.trans u10).trans u12)⟩, trivial⟩
