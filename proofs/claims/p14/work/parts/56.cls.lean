/-! EVERY METHOD OF THE CLASS ANSWERS (wip/gen/cls.py) -/
theorem zfX6_goOn {s : Nat} {b : Bool} {g : hs_S} {v0 : Nat} {v1 : Nat} (w : WT g) (k_v0 : gm_k v0 = 5) (k_v1 : gm_k v1 = 3) : Tq (fX6_goOn v0 v1 g) (Zs s b g tt) := by
  unfold fX6_goOn
  refine Tq.ck (w.k k_v1) ?_
  refine Tq.cro (zfX3_kind w k_v1) fun y1 f27 => ?_
  refine Tq.br (fun c28 => ?_) (fun c29 => ?_)
  · refine Tq.ck (w.k k_v1) ?_
    refine Tq.ck (w.f3_3 k_v1).1 ?_
    refine Tq.ck (w.k (w.f3_3 k_v1).2) ?_
    refine Tq.cro (zfX7_fourAt w (w.f3_3 k_v1).2) fun y3 f30 => ?_
    refine Tq.ck (w.k k_v0) ?_
    refine Tq.cst (zfX6_pay (s := s) (b := b) w k_v0 k_v1) fun y5 g6 w31 u32 f33 => ?_
    exact Tq.some ⟨⟨w31, (cU.rf.trans u32)⟩, trivial⟩
  · refine Tq.br (fun c34 => ?_) (fun c35 => ?_)
    · refine Tq.ck (w.k k_v1) ?_
      refine Tq.cro (zfX3_peek w k_v1) fun y7 f36 => ?_
      refine Tq.ck (w.k k_v0) ?_
      refine Tq.cst (zfX6_pay (s := s) (b := b) w k_v0 k_v1) fun y9 g10 w37 u38 f39 => ?_
      exact Tq.some ⟨⟨w37, (cU.rf.trans u38)⟩, trivial⟩
    · refine Tq.ck (w.k k_v0) ?_
      refine Tq.br (fun c40 => ?_) (fun c41 => ?_)
      · refine Tq.br (fun c42 => ?_) (fun c43 => ?_)
        · refine Tq.cst (zfX6_call (s := s) (b := b) (w.w (oW.k k_v0 (by decide) (by decide) (by decide) : oW s b _ _ _)) k_v0 k_v1) fun y11 g12 w44 u45 f46 => ?_
          exact Tq.some ⟨⟨w44, ((cU.rf.w (oW.k k_v0 (by decide) (by decide) (by decide))).trans u45)⟩, trivial⟩
        · refine Tq.br (fun c47 => ?_) (fun c48 => ?_)
          · refine Tq.ck (w.k k_v1) ?_
            refine Tq.cst (zfX3_pop (s := s) (b := b) (w.w (oW.k k_v0 (by decide) (by decide) (by decide) : oW s b _ _ _)) k_v1) fun y13 g14 w49 u50 f51 => ?_
            refine Tq.ck (w49.k k_v0) ?_
            refine Tq.cst (zfX6_leave (s := s) (b := b) w49 k_v0) fun y15 g16 w52 u53 f54 => ?_
            exact Tq.some ⟨⟨w52, (((cU.rf.w (oW.k k_v0 (by decide) (by decide) (by decide))).trans u50).trans u53)⟩, trivial⟩
          · refine Tq.cro (zfX4_isJump (w.w (oW.k k_v0 (by decide) (by decide) (by decide) : oW s b _ _ _)) ) fun y17 f55 => ?_
            refine Tq.br (fun c56 => ?_) (fun c57 => ?_)
            · refine Tq.ck (w.k k_v0) ?_
              refine Tq.cst (zfX6_act (s := s) (b := b) (w.w (oW.k k_v0 (by decide) (by decide) (by decide) : oW s b _ _ _)) k_v0 k_v1) fun y19 g20 w58 u59 f60 => ?_
              refine Tq.br (fun c61 => ?_) (fun c62 => ?_)
              · refine Tq.ck (w58.k k_v1) ?_
                refine Tq.cro (zfX4_sizeOf w58 ) fun y21 f63 => ?_
                refine Tq.ck (w58.k k_v1) ?_
                exact Tq.some ⟨⟨(w58.w (oW.k k_v1 (by decide) (by decide) (by decide) : oW s b _ _ _)), (((cU.rf.w (oW.k k_v0 (by decide) (by decide) (by decide))).trans u59).w (oW.k k_v1 (by decide) (by decide) (by decide)))⟩, trivial⟩
              · refine Tq.ck (w58.k k_v0) ?_
                refine Tq.cst (zfX6_raise (s := s) (b := b) w58 k_v0) fun y23 g24 w64 u65 f66 => ?_
                exact Tq.some ⟨⟨w64, (((cU.rf.w (oW.k k_v0 (by decide) (by decide) (by decide))).trans u59).trans u65)⟩, trivial⟩
            · refine Tq.ck (w.k k_v0) ?_
              refine Tq.cst (zfX6_jump (s := s) (b := b) (w.w (oW.k k_v0 (by decide) (by decide) (by decide) : oW s b _ _ _)) k_v1) fun y25 g26 w67 u68 f69 => ?_
              exact Tq.some ⟨⟨w67, ((cU.rf.w (oW.k k_v0 (by decide) (by decide) (by decide))).trans u68)⟩, trivial⟩
      · exact Tq.some ⟨⟨w, cU.rf⟩, trivial⟩
theorem zlX6_perform_75 {s : Nat} {b : Bool} : ∀ (n : Nat) (v0 : Nat) (v6 : Int32) (g : hs_S), WT g → gm_k v0 = 5 → cm v6 ≤ n → Tq (lX6_perform_75 n v0 v6 g) (Zs3 s b g tt2)
  | 0, v0, v6, g, _, _, hc => absurd hc (by have := cm_pos v6; omega)
  | n + 1, v0, v6, g, w, k_v0, hc => by
    rw [lX6_perform_75]
    refine Tq.br (fun c5 => ?_) (fun c6 => ?_)
    · exact Tq.some ⟨⟨w, cU.rf⟩, trivial⟩
    · refine Tq.ck (w.k k_v0) ?_
      refine Tq.cro (zfX6_frame w k_v0) fun y1 f7 => ?_
      refine Tq.ck (w.k k_v0) ?_
      refine Tq.cst (zfX6_goOn (s := s) (b := b) w k_v0 f7) fun y3 g4 w8 u9 f10 => ?_
      refine Tq.br (fun c11 => ?_) (fun c12 => ?_)
      · exact Zs3.tr (cU.rf.trans u9) (zlX6_perform_75 (s := s) (b := b) n _ _ _ w8 k_v0 (Nat.le_of_lt_succ (Nat.lt_of_lt_of_le (cm_s c6) hc)))
      · exact Tq.some ⟨⟨w8, (cU.rf.trans u9)⟩, trivial⟩
theorem zfX6_perform {s : Nat} {b : Bool} {g : hs_S} {v0 : Nat} {v1 : Int32} {v2 : Int32} {v3 : Int32} {v4 : Int32} (w : WT g) (k_v0 : gm_k v0 = 5) : Tq (fX6_perform v0 v1 v2 v3 v4 g) (Zs s b g tt) := by
  unfold fX6_perform jX6_perform_48 jX6_perform_67
  refine Tq.ck (w.k k_v0) ?_
  refine Tq.csv (zfX6_forget (s := s) (b := b) w k_v0) fun g1 w22 u23 => ?_
  refine Tq.ck (w22.k k_v0) ?_
  refine Tq.cro (zfX6_frame (w22.w (oW.k k_v0 (by decide) (by decide) (by decide) : oW s b _ _ _)) k_v0) fun y2 f24 => ?_
  refine Tq.ck (w22.k k_v0) ?_
  refine Tq.ck (w22.f5_0 k_v0).1 ?_
  refine Tq.ck (w22.k (w22.f5_0 k_v0).2) ?_
  refine Tq.cro (zfX0_method (w22.w (oW.k k_v0 (by decide) (by decide) (by decide) : oW s b _ _ _)) (w22.f5_0 k_v0).2) fun y4 f25 => ?_
  refine Tq.ck (w22.k f24) ?_
  refine Tq.csv (zfX3_begin (s := s) (b := b) (w22.w (oW.k k_v0 (by decide) (by decide) (by decide) : oW s b _ _ _)) f24 f25) fun g6 w26 u27 => ?_
  refine Tq.ck (w26.k f24) ?_
  refine Tq.ck (w26.f3_3 f24).1 ?_
  refine Tq.ck (w26.k (w26.f3_3 f24).2) ?_
  refine Tq.br (fun c28 => ?_) (fun c29 => ?_)
  · refine Tq.ck (w26.k f24) ?_
    refine Tq.ck (w26.f3_3 f24).1 ?_
    refine Tq.ck (w26.k (w26.f3_3 f24).2) ?_
    refine Tq.br (fun c30 => ?_) (fun c31 => ?_)
    · refine Tq.ck (w26.k k_v0) ?_
      refine Tq.cs3 (zlX6_perform_75 (s := s) (b := b) hs_N _ _ _ (w26.w (oW.k k_v0 (by decide) (by decide) (by decide) : oW s b _ _ _)) k_v0 (cm_N _)) fun y9 y10 g11 w32 u33 f34 => ?_
      refine Tq.br (fun c35 => ?_) (fun c36 => ?_)
      · exact Tq.some ⟨⟨w32, (((((cU.rf.trans u23).w (oW.k k_v0 (by decide) (by decide) (by decide))).trans u27).w (oW.k k_v0 (by decide) (by decide) (by decide))).trans u33)⟩, trivial⟩
      · exact Tq.some ⟨⟨w32, (((((cU.rf.trans u23).w (oW.k k_v0 (by decide) (by decide) (by decide))).trans u27).w (oW.k k_v0 (by decide) (by decide) (by decide))).trans u33)⟩, trivial⟩
    · refine Tq.csv (zfX3_setLocal (s := s) (b := b) w26 f24) fun g8 w37 u38 => ?_
      refine Tq.ck (w37.k k_v0) ?_
      refine Tq.cs3 (zlX6_perform_75 (s := s) (b := b) hs_N _ _ _ (w37.w (oW.k k_v0 (by decide) (by decide) (by decide) : oW s b _ _ _)) k_v0 (cm_N _)) fun y12 y13 g14 w39 u40 f41 => ?_
      refine Tq.br (fun c42 => ?_) (fun c43 => ?_)
      · exact Tq.some ⟨⟨w39, ((((((cU.rf.trans u23).w (oW.k k_v0 (by decide) (by decide) (by decide))).trans u27).trans u38).w (oW.k k_v0 (by decide) (by decide) (by decide))).trans u40)⟩, trivial⟩
      · exact Tq.some ⟨⟨w39, ((((((cU.rf.trans u23).w (oW.k k_v0 (by decide) (by decide) (by decide))).trans u27).trans u38).w (oW.k k_v0 (by decide) (by decide) (by decide))).trans u40)⟩, trivial⟩
  · refine Tq.csv (zfX3_setLocal (s := s) (b := b) w26 f24) fun g7 w44 u45 => ?_
    refine Tq.ck (w44.k f24) ?_
    refine Tq.ck (w44.f3_3 f24).1 ?_
    refine Tq.ck (w44.k (w44.f3_3 f24).2) ?_
    refine Tq.br (fun c46 => ?_) (fun c47 => ?_)
    · refine Tq.ck (w44.k k_v0) ?_
      refine Tq.cs3 (zlX6_perform_75 (s := s) (b := b) hs_N _ _ _ (w44.w (oW.k k_v0 (by decide) (by decide) (by decide) : oW s b _ _ _)) k_v0 (cm_N _)) fun y16 y17 g18 w48 u49 f50 => ?_
      refine Tq.br (fun c51 => ?_) (fun c52 => ?_)
      · exact Tq.some ⟨⟨w48, ((((((cU.rf.trans u23).w (oW.k k_v0 (by decide) (by decide) (by decide))).trans u27).trans u45).w (oW.k k_v0 (by decide) (by decide) (by decide))).trans u49)⟩, trivial⟩
      · exact Tq.some ⟨⟨w48, ((((((cU.rf.trans u23).w (oW.k k_v0 (by decide) (by decide) (by decide))).trans u27).trans u45).w (oW.k k_v0 (by decide) (by decide) (by decide))).trans u49)⟩, trivial⟩
    · refine Tq.csv (zfX3_setLocal (s := s) (b := b) w44 f24) fun g15 w53 u54 => ?_
      refine Tq.ck (w53.k k_v0) ?_
      refine Tq.cs3 (zlX6_perform_75 (s := s) (b := b) hs_N _ _ _ (w53.w (oW.k k_v0 (by decide) (by decide) (by decide) : oW s b _ _ _)) k_v0 (cm_N _)) fun y19 y20 g21 w55 u56 f57 => ?_
      refine Tq.br (fun c58 => ?_) (fun c59 => ?_)
      · exact Tq.some ⟨⟨w55, (((((((cU.rf.trans u23).w (oW.k k_v0 (by decide) (by decide) (by decide))).trans u27).trans u45).trans u54).w (oW.k k_v0 (by decide) (by decide) (by decide))).trans u56)⟩, trivial⟩
      · exact Tq.some ⟨⟨w55, (((((((cU.rf.trans u23).w (oW.k k_v0 (by decide) (by decide) (by decide))).trans u27).trans u45).trans u54).w (oW.k k_v0 (by decide) (by decide) (by decide))).trans u56)⟩, trivial⟩
theorem zfX11_run {s : Nat} {b : Bool} {g : hs_S} {v0 : Nat} {v1 : Int32} {v2 : Int32} {v3 : Int32} {v4 : Int32} (w : WT g) (k_v0 : gm_k v0 = 9) : Tq (fX11_run v0 v1 v2 v3 v4 g) (Zs s b g tt) := by
  unfold fX11_run
  refine Tq.ck (w.k k_v0) ?_
  refine Tq.ck (w.f9_3 k_v0).1 ?_
  refine Tq.ck (w.k (w.f9_3 k_v0).2) ?_
  refine Tq.br (fun c5 => ?_) (fun c6 => ?_)
  · exact Tq.some ⟨⟨w, cU.rf⟩, trivial⟩
  · refine Tq.cro (zfX0_has w (w.f9_3 k_v0).2) fun y1 f7 => ?_
    refine Tq.br (fun c8 => ?_) (fun c9 => ?_)
    · exact Tq.some ⟨⟨w, cU.rf⟩, trivial⟩
    · refine Tq.br (fun c10 => ?_) (fun c11 => ?_)
      · exact Tq.some ⟨⟨w, cU.rf⟩, trivial⟩
      · refine Tq.br (fun c12 => ?_) (fun c13 => ?_)
        · refine Tq.ck (w.k k_v0) ?_
          refine Tq.ck (w.f9_7 k_v0).1 ?_
          refine Tq.ck (w.k (w.f9_7 k_v0).2) ?_
          refine Tq.cst (zfX6_perform (s := s) (b := b) w (w.f9_7 k_v0).2) fun y3 g4 w14 u15 f16 => ?_
          exact Tq.some ⟨⟨w14, (cU.rf.trans u15)⟩, trivial⟩
        · exact Tq.some ⟨⟨w, cU.rf⟩, trivial⟩
theorem zfX11_answer {g : hs_S} {v0 : Nat} (w : WT g) (k_v0 : gm_k v0 = 9) : Tq (fX11_answer v0 g) (Zr g tt) := by
  unfold fX11_answer
  refine Tq.ck (w.k k_v0) ?_
  refine Tq.ck (w.f9_7 k_v0).1 ?_
  refine Tq.ck (w.k (w.f9_7 k_v0).2) ?_
  exact Tq.some ⟨rfl, trivial⟩
theorem zfX11_counted {g : hs_S} {v0 : Nat} (w : WT g) (k_v0 : gm_k v0 = 9) : Tq (fX11_counted v0 g) (Zr g tt) := by
  unfold fX11_counted
  refine Tq.ck (w.k k_v0) ?_
  refine Tq.ck (w.f9_7 k_v0).1 ?_
  refine Tq.ck (w.k (w.f9_7 k_v0).2) ?_
  exact Tq.some ⟨rfl, trivial⟩
theorem zfX11_steps {g : hs_S} {v0 : Nat} (w : WT g) (k_v0 : gm_k v0 = 9) : Tq (fX11_steps v0 g) (Zr g tt) := by
  unfold fX11_steps
  refine Tq.ck (w.k k_v0) ?_
  refine Tq.ck (w.f9_7 k_v0).1 ?_
  refine Tq.ck (w.k (w.f9_7 k_v0).2) ?_
  exact Tq.some ⟨rfl, trivial⟩
theorem zfX11_element {g : hs_S} {v0 : Nat} {v1 : Int32} {v2 : Int32} (w : WT g) (k_v0 : gm_k v0 = 9) : Tq (fX11_element v0 v1 v2 g) (Zr g tt) := by
  unfold fX11_element
  refine Tq.br (fun c7 => ?_) (fun c8 => ?_)
  · exact Tq.some ⟨rfl, trivial⟩
  · refine Tq.br (fun c9 => ?_) (fun c10 => ?_)
    · refine Tq.br (fun c11 => ?_) (fun c12 => ?_)
      · refine Tq.ck (w.k k_v0) ?_
        refine Tq.ck (w.f9_7 k_v0).1 ?_
        refine Tq.ck (w.k (w.f9_7 k_v0).2) ?_
        refine Tq.ck (w.f5_2 (w.f9_7 k_v0).2).1 ?_
        refine Tq.ck (w.k (w.f5_2 (w.f9_7 k_v0).2).2) ?_
        refine Tq.cro (zfX10_sizeOf w (w.f5_2 (w.f9_7 k_v0).2).2) fun y1 f13 => ?_
        exact Tq.some ⟨rfl, trivial⟩
      · refine Tq.ck (w.k k_v0) ?_
        refine Tq.ck (w.f9_7 k_v0).1 ?_
        refine Tq.ck (w.k (w.f9_7 k_v0).2) ?_
        refine Tq.ck (w.f5_2 (w.f9_7 k_v0).2).1 ?_
        refine Tq.ck (w.k (w.f5_2 (w.f9_7 k_v0).2).2) ?_
        refine Tq.cro (zfX10_has w (w.f5_2 (w.f9_7 k_v0).2).2) fun y3 f14 => ?_
        refine Tq.br (fun c15 => ?_) (fun c16 => ?_)
        · exact Tq.some ⟨rfl, trivial⟩
        · refine Tq.ck (w.k k_v0) ?_
          refine Tq.ck (w.f9_7 k_v0).1 ?_
          refine Tq.ck (w.k (w.f9_7 k_v0).2) ?_
          refine Tq.ck (w.f5_2 (w.f9_7 k_v0).2).1 ?_
          refine Tq.ck (w.k (w.f5_2 (w.f9_7 k_v0).2).2) ?_
          refine Tq.cro (zfX10_get w (w.f5_2 (w.f9_7 k_v0).2).2) fun y5 f17 => ?_
          exact Tq.some ⟨rfl, trivial⟩
    · exact Tq.some ⟨rfl, trivial⟩
theorem zlX11_unwriteMethod_83 {s : Nat} {b : Bool} : ∀ (n : Nat) (v0 : Nat) (v2 : Nat) (v4 : Int32) (v5 : Int32) (g : hs_S), WT g → gm_k v0 = 9 → gm_k v2 = 6 → hs_R g v0 2 - 1 = s → cm v5 ≤ n → Tq (lX11_unwriteMethod_83 n v0 v2 v4 v5 g) (Zv s b g)
  | 0, v0, v2, v4, v5, g, _, _, _, _, hc => absurd hc (by have := cm_pos v5; omega)
  | n + 1, v0, v2, v4, v5, g, w, k_v0, k_v2, e_s, hc => by
    rw [lX11_unwriteMethod_83]
    refine Tq.br (fun c4 => ?_) (fun c5 => ?_)
    · exact Tq.some ⟨w, cU.rf⟩
    · refine Tq.ck (w.k k_v0) ?_
      refine Tq.ck (w.f9_2 k_v0).1 ?_
      refine Tq.ck (w.k k_v2) ?_
      refine Tq.cro (zfX7_handlerNumber w k_v2) fun y1 f6 => ?_
      refine Tq.ck (w.k (w.f9_2 k_v0).2) ?_
      refine Tq.csv (zfX0_appendPair (s := s) (b := b) w (w.f9_2 k_v0).2 e_s) fun g3 w7 u8 => ?_
      exact Zv.tr (cU.rf.trans u8) (zlX11_unwriteMethod_83 (s := s) (b := b) n _ _ _ _ _ w7 k_v0 k_v2 ((congrArg (fun R => R 2 - 1) ((cU.rf.trans u8).2 v0 (by rw [k_v0]; decide))).trans e_s) (Nat.le_of_lt_succ (Nat.lt_of_lt_of_le (cm_s c5) hc)))
theorem zlX11_unwriteMethod_71 {s : Nat} {b : Bool} : ∀ (n : Nat) (v0 : Nat) (v2 : Nat) (v4 : Int32) (g : hs_S), WT g → gm_k v0 = 9 → gm_k v2 = 6 → hs_R g v0 2 - 1 = s → cm v4 ≤ n → Tq (lX11_unwriteMethod_71 n v0 v2 v4 g) (Zv s b g)
  | 0, v0, v2, v4, g, _, _, _, _, hc => absurd hc (by have := cm_pos v4; omega)
  | n + 1, v0, v2, v4, g, w, k_v0, k_v2, e_s, hc => by
    rw [lX11_unwriteMethod_71]
    refine Tq.ck (w.k k_v2) ?_
    refine Tq.br (fun c5 => ?_) (fun c6 => ?_)
    · exact Tq.some ⟨w, cU.rf⟩
    · refine Tq.csv (zlX11_unwriteMethod_83 (s := s) (b := b) hs_N _ _ _ _ _ w k_v0 k_v2 e_s (cm_N _)) fun g1 w7 u8 => ?_
      refine Tq.ck (w7.k k_v0) ?_
      refine Tq.ck (w7.f9_2 k_v0).1 ?_
      refine Tq.ck (w7.k k_v2) ?_
      refine Tq.cro (zfX7_handlerNumber w7 k_v2) fun y2 f9 => ?_
      refine Tq.ck (w7.k (w7.f9_2 k_v0).2) ?_
      refine Tq.csv (zfX0_append (s := s) (b := b) w7 (w7.f9_2 k_v0).2 ((congrArg (fun R => R 2 - 1) ((cU.rf.trans u8).2 v0 (by rw [k_v0]; decide))).trans e_s)) fun g4 w10 u11 => ?_
      exact Zv.tr ((cU.rf.trans u8).trans u11) (zlX11_unwriteMethod_71 (s := s) (b := b) n _ _ _ _ w10 k_v0 k_v2 ((congrArg (fun R => R 2 - 1) (((cU.rf.trans u8).trans u11).2 v0 (by rw [k_v0]; decide))).trans e_s) (Nat.le_of_lt_succ (Nat.lt_of_lt_of_le (cm_s c6) hc)))
theorem zfX11_unwriteMethod {s : Nat} {g : hs_S} {v0 : Nat} {v1 : Nat} {v2 : Nat} (w : WT g) (k_v0 : gm_k v0 = 9) (k_v1 : gm_k v1 = 6) (k_v2 : gm_k v2 = 6) (e_s : hs_R g v0 2 - 1 = s) : Tq (fX11_unwriteMethod v0 v1 v2 g) (Zv s false g) := by
  unfold fX11_unwriteMethod
  refine Tq.ck (w.k k_v0) ?_
  refine Tq.ck (w.f9_6 k_v0).1 ?_
  refine Tq.ck (w.f9_4 k_v0).1 ?_
  refine Tq.ck (w.k (w.f9_6 k_v0).2) ?_
  refine Tq.cst (zfX5_plan (s := s) (b := false) w (w.f9_6 k_v0).2 k_v1 (w.f9_4 k_v0).2 (by decide)) fun y1 g2 w9 u10 f11 => ?_
  refine Tq.ck (w9.k k_v0) ?_
  refine Tq.ck (w9.f9_2 k_v0).1 ?_
  refine Tq.ck (w9.k k_v1) ?_
  refine Tq.ck (w9.k (w9.f9_2 k_v0).2) ?_
  refine Tq.csv (zfX0_append (s := s) (b := false) w9 (w9.f9_2 k_v0).2 ((congrArg (fun R => R 2 - 1) ((cU.rf.trans u10).2 v0 (by rw [k_v0]; decide))).trans e_s)) fun g3 w12 u13 => ?_
  refine Tq.ck (w12.k k_v0) ?_
  refine Tq.ck (w12.f9_2 k_v0).1 ?_
  refine Tq.ck (w12.k k_v1) ?_
  refine Tq.ck (w12.k (w12.f9_2 k_v0).2) ?_
  refine Tq.csv (zfX0_append (s := s) (b := false) w12 (w12.f9_2 k_v0).2 ((congrArg (fun R => R 2 - 1) (((cU.rf.trans u10).trans u13).2 v0 (by rw [k_v0]; decide))).trans e_s)) fun g4 w14 u15 => ?_
  refine Tq.ck (w14.k k_v0) ?_
  refine Tq.ck (w14.f9_2 k_v0).1 ?_
  refine Tq.ck (w14.k (w14.f9_2 k_v0).2) ?_
  refine Tq.csv (zfX0_appendPair (s := s) (b := false) w14 (w14.f9_2 k_v0).2 ((congrArg (fun R => R 2 - 1) ((((cU.rf.trans u10).trans u13).trans u15).2 v0 (by rw [k_v0]; decide))).trans e_s)) fun g5 w16 u17 => ?_
  refine Tq.ck (w16.k k_v0) ?_
  refine Tq.ck (w16.f9_6 k_v0).1 ?_
  refine Tq.ck (w16.f9_2 k_v0).1 ?_
  refine Tq.ck (w16.k (w16.f9_6 k_v0).2) ?_
  refine Tq.csv (zfX5_write (s := s) w16 (w16.f9_6 k_v0).2 k_v1 (w16.f9_2 k_v0).2 k_v2 ((congrArg (fun R => R 2 - 1) (((((cU.rf.trans u10).trans u13).trans u15).trans u17).2 v0 (by rw [k_v0]; decide))).trans e_s)) fun g6 w18 u19 => ?_
  refine Tq.ck (w18.k k_v0) ?_
  refine Tq.ck (w18.f9_2 k_v0).1 ?_
  refine Tq.ck (w18.k k_v2) ?_
  refine Tq.ck (w18.k (w18.f9_2 k_v0).2) ?_
  refine Tq.csv (zfX0_append (s := s) (b := false) w18 (w18.f9_2 k_v0).2 ((congrArg (fun R => R 2 - 1) ((((((cU.rf.trans u10).trans u13).trans u15).trans u17).trans u19).2 v0 (by rw [k_v0]; decide))).trans e_s)) fun g7 w20 u21 => ?_
  refine Tq.csv (zlX11_unwriteMethod_71 (s := s) (b := false) hs_N _ _ _ _ w20 k_v0 k_v2 ((congrArg (fun R => R 2 - 1) (((((((cU.rf.trans u10).trans u13).trans u15).trans u17).trans u19).trans u21).2 v0 (by rw [k_v0]; decide))).trans e_s) (cm_N _)) fun g8 w22 u23 => ?_
  exact Tq.some ⟨w22, (((((((cU.rf.trans u10).trans u13).trans u15).trans u17).trans u19).trans u21).trans u23)⟩
theorem zlX11_unwrite_36 {s : Nat} : ∀ (n : Nat) (v0 : Nat) (v1 : Int32) (g : hs_S), WT g → gm_k v0 = 9 → hs_R g v0 2 - 1 = s → cm v1 ≤ n → Tq (lX11_unwrite_36 n v0 v1 g) (Zv s false g)
  | 0, v0, v1, g, _, _, _, hc => absurd hc (by have := cm_pos v1; omega)
  | n + 1, v0, v1, g, w, k_v0, e_s, hc => by
    rw [lX11_unwrite_36]
    refine Tq.ck (w.k k_v0) ?_
    refine Tq.ck (w.f9_1 k_v0).1 ?_
    refine Tq.ck (w.k (w.f9_1 k_v0).2) ?_
    refine Tq.br (fun c6 => ?_) (fun c7 => ?_)
    · exact Tq.some ⟨w, cU.rf⟩
    · refine Tq.cro (zfX0_method w (w.f9_1 k_v0).2) fun y1 f8 => ?_
      refine Tq.ck (w.k k_v0) ?_
      refine Tq.ck (w.f9_2 k_v0).1 ?_
      refine Tq.ck (w.k (w.f9_2 k_v0).2) ?_
      refine Tq.cro (zfX0_method w (w.f9_2 k_v0).2) fun y3 f9 => ?_
      refine Tq.ck (w.k k_v0) ?_
      refine Tq.csv (zfX11_unwriteMethod (s := s) w k_v0 f8 f9 e_s) fun g5 w10 u11 => ?_
      exact Zv.tr (cU.rf.trans u11) (zlX11_unwrite_36 (s := s) n _ _ _ w10 k_v0 ((congrArg (fun R => R 2 - 1) ((cU.rf.trans u11).2 v0 (by rw [k_v0]; decide))).trans e_s) (Nat.le_of_lt_succ (Nat.lt_of_lt_of_le (cm_s c7) hc)))
