/-! EVERY METHOD OF THE CLASS ANSWERS (wip/gen/cls.py) -/
theorem zfX11_told {g : hs_S} {v0 : Nat} {v1 : Int32} {v2 : Int32} {v3 : Int32} (w : WT g) (k_v0 : gm_k v0 = 9) : Tq (fX11_told v0 v1 v2 v3 g) (Zr g tt) := by
  unfold fX11_told jX11_told_15
  refine Tq.br (fun c9 => ?_) (fun c10 => ?_)
  · refine Tq.ck (w.k k_v0) ?_
    refine Tq.ck (w.f9_1 k_v0).1 ?_
    refine Tq.ck (w.k (w.f9_1 k_v0).2) ?_
    refine Tq.br (fun c11 => ?_) (fun c12 => ?_)
    · exact Tq.some ⟨rfl, trivial⟩
    · refine Tq.cro (zfX0_has w (w.f9_1 k_v0).2) fun y1 f13 => ?_
      refine Tq.br (fun c14 => ?_) (fun c15 => ?_)
      · exact Tq.some ⟨rfl, trivial⟩
      · refine Tq.ck (w.k (w.f9_1 k_v0).2) ?_
        refine Tq.cro (zfX0_method w (w.f9_1 k_v0).2) fun y3 f16 => ?_
        refine Tq.br (fun c17 => ?_) (fun c18 => ?_)
        · refine Tq.ck (w.k f16) ?_
          exact Tq.some ⟨rfl, trivial⟩
        · refine Tq.br (fun c19 => ?_) (fun c20 => ?_)
          · refine Tq.ck (w.k f16) ?_
            exact Tq.some ⟨rfl, trivial⟩
          · refine Tq.br (fun c21 => ?_) (fun c22 => ?_)
            · refine Tq.ck (w.k f16) ?_
              exact Tq.some ⟨rfl, trivial⟩
            · refine Tq.br (fun c23 => ?_) (fun c24 => ?_)
              · refine Tq.ck (w.k f16) ?_
                exact Tq.some ⟨rfl, trivial⟩
              · refine Tq.br (fun c25 => ?_) (fun c26 => ?_)
                · refine Tq.ck (w.k f16) ?_
                  exact Tq.some ⟨rfl, trivial⟩
                · refine Tq.br (fun c27 => ?_) (fun c28 => ?_)
                  · refine Tq.br (fun c29 => ?_) (fun c30 => ?_)
                    · refine Tq.ck (w.k f16) ?_
                      exact Tq.some ⟨rfl, trivial⟩
                    · exact Tq.some ⟨rfl, trivial⟩
                  · exact Tq.some ⟨rfl, trivial⟩
  · refine Tq.ck (w.k k_v0) ?_
    refine Tq.ck (w.f9_3 k_v0).1 ?_
    refine Tq.ck (w.k (w.f9_3 k_v0).2) ?_
    refine Tq.br (fun c31 => ?_) (fun c32 => ?_)
    · exact Tq.some ⟨rfl, trivial⟩
    · refine Tq.cro (zfX0_has w (w.f9_3 k_v0).2) fun y5 f33 => ?_
      refine Tq.br (fun c34 => ?_) (fun c35 => ?_)
      · exact Tq.some ⟨rfl, trivial⟩
      · refine Tq.ck (w.k (w.f9_3 k_v0).2) ?_
        refine Tq.cro (zfX0_method w (w.f9_3 k_v0).2) fun y7 f36 => ?_
        refine Tq.br (fun c37 => ?_) (fun c38 => ?_)
        · refine Tq.ck (w.k f36) ?_
          exact Tq.some ⟨rfl, trivial⟩
        · refine Tq.br (fun c39 => ?_) (fun c40 => ?_)
          · refine Tq.ck (w.k f36) ?_
            exact Tq.some ⟨rfl, trivial⟩
          · refine Tq.br (fun c41 => ?_) (fun c42 => ?_)
            · refine Tq.ck (w.k f36) ?_
              exact Tq.some ⟨rfl, trivial⟩
            · refine Tq.br (fun c43 => ?_) (fun c44 => ?_)
              · refine Tq.ck (w.k f36) ?_
                exact Tq.some ⟨rfl, trivial⟩
              · refine Tq.br (fun c45 => ?_) (fun c46 => ?_)
                · refine Tq.ck (w.k f36) ?_
                  exact Tq.some ⟨rfl, trivial⟩
                · refine Tq.br (fun c47 => ?_) (fun c48 => ?_)
                  · refine Tq.br (fun c49 => ?_) (fun c50 => ?_)
                    · refine Tq.ck (w.k f36) ?_
                      exact Tq.some ⟨rfl, trivial⟩
                    · exact Tq.some ⟨rfl, trivial⟩
                  · exact Tq.some ⟨rfl, trivial⟩
theorem zfX11_byteAt {g : hs_S} {v0 : Nat} {v1 : Int32} {v2 : Int32} {v3 : Int32} (w : WT g) (k_v0 : gm_k v0 = 9) : Tq (fX11_byteAt v0 v1 v2 v3 g) (Zr g tt) := by
  unfold fX11_byteAt jX11_byteAt_15
  refine Tq.br (fun c17 => ?_) (fun c18 => ?_)
  · refine Tq.ck (w.k k_v0) ?_
    refine Tq.ck (w.f9_1 k_v0).1 ?_
    refine Tq.ck (w.k (w.f9_1 k_v0).2) ?_
    refine Tq.br (fun c19 => ?_) (fun c20 => ?_)
    · exact Tq.some ⟨rfl, trivial⟩
    · refine Tq.cro (zfX0_has w (w.f9_1 k_v0).2) fun y1 f21 => ?_
      refine Tq.br (fun c22 => ?_) (fun c23 => ?_)
      · exact Tq.some ⟨rfl, trivial⟩
      · refine Tq.br (fun c24 => ?_) (fun c25 => ?_)
        · exact Tq.some ⟨rfl, trivial⟩
        · refine Tq.ck (w.k (w.f9_1 k_v0).2) ?_
          refine Tq.cro (zfX0_method w (w.f9_1 k_v0).2) fun y3 f26 => ?_
          refine Tq.ck (w.k f26) ?_
          refine Tq.br (fun c27 => ?_) (fun c28 => ?_)
          · refine Tq.ck (w.k (w.f9_1 k_v0).2) ?_
            refine Tq.cro (zfX0_method w (w.f9_1 k_v0).2) fun y5 f29 => ?_
            refine Tq.ck (w.k f29) ?_
            refine Tq.cro (zfX7_valueAt w f29) fun y7 f30 => ?_
            exact Tq.some ⟨rfl, trivial⟩
          · exact Tq.some ⟨rfl, trivial⟩
  · refine Tq.ck (w.k k_v0) ?_
    refine Tq.ck (w.f9_3 k_v0).1 ?_
    refine Tq.ck (w.k (w.f9_3 k_v0).2) ?_
    refine Tq.br (fun c31 => ?_) (fun c32 => ?_)
    · exact Tq.some ⟨rfl, trivial⟩
    · refine Tq.cro (zfX0_has w (w.f9_3 k_v0).2) fun y9 f33 => ?_
      refine Tq.br (fun c34 => ?_) (fun c35 => ?_)
      · exact Tq.some ⟨rfl, trivial⟩
      · refine Tq.br (fun c36 => ?_) (fun c37 => ?_)
        · exact Tq.some ⟨rfl, trivial⟩
        · refine Tq.ck (w.k (w.f9_3 k_v0).2) ?_
          refine Tq.cro (zfX0_method w (w.f9_3 k_v0).2) fun y11 f38 => ?_
          refine Tq.ck (w.k f38) ?_
          refine Tq.br (fun c39 => ?_) (fun c40 => ?_)
          · refine Tq.ck (w.k (w.f9_3 k_v0).2) ?_
            refine Tq.cro (zfX0_method w (w.f9_3 k_v0).2) fun y13 f41 => ?_
            refine Tq.ck (w.k f41) ?_
            refine Tq.cro (zfX7_valueAt w f41) fun y15 f42 => ?_
            exact Tq.some ⟨rfl, trivial⟩
          · exact Tq.some ⟨rfl, trivial⟩
theorem zfX11_handler {g : hs_S} {v0 : Nat} {v1 : Int32} {v2 : Int32} {v3 : Int32} {v4 : Int32} (w : WT g) (k_v0 : gm_k v0 = 9) : Tq (fX11_handler v0 v1 v2 v3 v4 g) (Zr g tt) := by
  unfold fX11_handler jX11_handler_15
  refine Tq.br (fun c17 => ?_) (fun c18 => ?_)
  · refine Tq.ck (w.k k_v0) ?_
    refine Tq.ck (w.f9_1 k_v0).1 ?_
    refine Tq.ck (w.k (w.f9_1 k_v0).2) ?_
    refine Tq.br (fun c19 => ?_) (fun c20 => ?_)
    · exact Tq.some ⟨rfl, trivial⟩
    · refine Tq.cro (zfX0_has w (w.f9_1 k_v0).2) fun y1 f21 => ?_
      refine Tq.br (fun c22 => ?_) (fun c23 => ?_)
      · exact Tq.some ⟨rfl, trivial⟩
      · refine Tq.br (fun c24 => ?_) (fun c25 => ?_)
        · exact Tq.some ⟨rfl, trivial⟩
        · refine Tq.ck (w.k (w.f9_1 k_v0).2) ?_
          refine Tq.cro (zfX0_method w (w.f9_1 k_v0).2) fun y3 f26 => ?_
          refine Tq.ck (w.k f26) ?_
          refine Tq.br (fun c27 => ?_) (fun c28 => ?_)
          · refine Tq.br (fun c29 => ?_) (fun c30 => ?_)
            · exact Tq.some ⟨rfl, trivial⟩
            · refine Tq.br (fun c31 => ?_) (fun c32 => ?_)
              · refine Tq.ck (w.k (w.f9_1 k_v0).2) ?_
                refine Tq.cro (zfX0_method w (w.f9_1 k_v0).2) fun y5 f33 => ?_
                refine Tq.ck (w.k f33) ?_
                refine Tq.cro (zfX7_handlerNumber w f33) fun y7 f34 => ?_
                exact Tq.some ⟨rfl, trivial⟩
              · exact Tq.some ⟨rfl, trivial⟩
          · exact Tq.some ⟨rfl, trivial⟩
  · refine Tq.ck (w.k k_v0) ?_
    refine Tq.ck (w.f9_3 k_v0).1 ?_
    refine Tq.ck (w.k (w.f9_3 k_v0).2) ?_
    refine Tq.br (fun c35 => ?_) (fun c36 => ?_)
    · exact Tq.some ⟨rfl, trivial⟩
    · refine Tq.cro (zfX0_has w (w.f9_3 k_v0).2) fun y9 f37 => ?_
      refine Tq.br (fun c38 => ?_) (fun c39 => ?_)
      · exact Tq.some ⟨rfl, trivial⟩
      · refine Tq.br (fun c40 => ?_) (fun c41 => ?_)
        · exact Tq.some ⟨rfl, trivial⟩
        · refine Tq.ck (w.k (w.f9_3 k_v0).2) ?_
          refine Tq.cro (zfX0_method w (w.f9_3 k_v0).2) fun y11 f42 => ?_
          refine Tq.ck (w.k f42) ?_
          refine Tq.br (fun c43 => ?_) (fun c44 => ?_)
          · refine Tq.br (fun c45 => ?_) (fun c46 => ?_)
            · exact Tq.some ⟨rfl, trivial⟩
            · refine Tq.br (fun c47 => ?_) (fun c48 => ?_)
              · refine Tq.ck (w.k (w.f9_3 k_v0).2) ?_
                refine Tq.cro (zfX0_method w (w.f9_3 k_v0).2) fun y13 f49 => ?_
                refine Tq.ck (w.k f49) ?_
                refine Tq.cro (zfX7_handlerNumber w f49) fun y15 f50 => ?_
                exact Tq.some ⟨rfl, trivial⟩
              · exact Tq.some ⟨rfl, trivial⟩
          · exact Tq.some ⟨rfl, trivial⟩
theorem zlX7_blockBegin_4 : ∀ (n : Nat) (v0 : Nat) (v1 : Int32) (v2 : Int32) (v3 : Int32) (g : hs_S), WT g → gm_k v0 = 6 → cm v3 ≤ n → Tq (lX7_blockBegin_4 n v0 v1 v2 v3 g) (Zr3 g tt2)
  | 0, v0, v1, v2, v3, g, _, _, hc => absurd hc (by have := cm_pos v3; omega)
  | n + 1, v0, v1, v2, v3, g, w, k_v0, hc => by
    rw [lX7_blockBegin_4]
    unfold jX7_blockBegin_30
    refine Tq.ck (w.k k_v0) ?_
    refine Tq.br (fun c3 => ?_) (fun c4 => ?_)
    · exact Tq.some ⟨rfl, trivial⟩
    · refine Tq.cro (zfX7_beginsBlock w k_v0) fun y1 f5 => ?_
      refine Tq.br (fun c6 => ?_) (fun c7 => ?_)
      · exact (zlX7_blockBegin_4 n _ _ _ _ _ w k_v0 (Nat.le_of_lt_succ (Nat.lt_of_lt_of_le (cm_s c4) hc)))
      · refine Tq.br (fun c8 => ?_) (fun c9 => ?_)
        · exact Tq.some ⟨rfl, trivial⟩
        · exact (zlX7_blockBegin_4 n _ _ _ _ _ w k_v0 (Nat.le_of_lt_succ (Nat.lt_of_lt_of_le (cm_s c4) hc)))
theorem zfX7_blockBegin {g : hs_S} {v0 : Nat} {v1 : Int32} (w : WT g) (k_v0 : gm_k v0 = 6) : Tq (fX7_blockBegin v0 v1 g) (Zr g tt) := by
  unfold fX7_blockBegin
  refine Tq.cr3 (zlX7_blockBegin_4 hs_N _ _ _ _ _ w k_v0 (cm_N _)) fun y1 y2 f4 => ?_
  refine Tq.br (fun c5 => ?_) (fun c6 => ?_)
  · exact Tq.some ⟨rfl, trivial⟩
  · exact Tq.some ⟨rfl, trivial⟩
theorem zfX11_block {g : hs_S} {v0 : Nat} {v1 : Int32} {v2 : Int32} {v3 : Int32} (w : WT g) (k_v0 : gm_k v0 = 9) : Tq (fX11_block v0 v1 v2 v3 g) (Zr g tt) := by
  unfold fX11_block
  refine Tq.ck (w.k k_v0) ?_
  refine Tq.ck (w.f9_1 k_v0).1 ?_
  refine Tq.ck (w.k (w.f9_1 k_v0).2) ?_
  refine Tq.br (fun c13 => ?_) (fun c14 => ?_)
  · exact Tq.some ⟨rfl, trivial⟩
  · refine Tq.cro (zfX0_has w (w.f9_1 k_v0).2) fun y1 f15 => ?_
    refine Tq.br (fun c16 => ?_) (fun c17 => ?_)
    · exact Tq.some ⟨rfl, trivial⟩
    · refine Tq.br (fun c18 => ?_) (fun c19 => ?_)
      · exact Tq.some ⟨rfl, trivial⟩
      · refine Tq.ck (w.k k_v0) ?_
        refine Tq.ck (w.f9_1 k_v0).1 ?_
        refine Tq.ck (w.k (w.f9_1 k_v0).2) ?_
        refine Tq.cro (zfX0_method w (w.f9_1 k_v0).2) fun y3 f20 => ?_
        refine Tq.ck (w.k f20) ?_
        refine Tq.br (fun c21 => ?_) (fun c22 => ?_)
        · exact Tq.some ⟨rfl, trivial⟩
        · refine Tq.br (fun c23 => ?_) (fun c24 => ?_)
          · exact Tq.some ⟨rfl, trivial⟩
          · refine Tq.br (fun c25 => ?_) (fun c26 => ?_)
            · refine Tq.ck (w.k k_v0) ?_
              refine Tq.ck (w.f9_1 k_v0).1 ?_
              refine Tq.ck (w.k (w.f9_1 k_v0).2) ?_
              refine Tq.cro (zfX0_method w (w.f9_1 k_v0).2) fun y5 f27 => ?_
              refine Tq.ck (w.k f27) ?_
              refine Tq.cro (zfX7_blockBegin w f27) fun y7 f28 => ?_
              refine Tq.br (fun c29 => ?_) (fun c30 => ?_)
              · exact Tq.some ⟨rfl, trivial⟩
              · refine Tq.ck (w.k k_v0) ?_
                refine Tq.ck (w.f9_1 k_v0).1 ?_
                refine Tq.ck (w.k (w.f9_1 k_v0).2) ?_
                refine Tq.cro (zfX0_method w (w.f9_1 k_v0).2) fun y9 f31 => ?_
                refine Tq.ck (w.k k_v0) ?_
                refine Tq.ck (w.f9_4 k_v0).1 ?_
                refine Tq.ck (w.k f31) ?_
                refine Tq.cro (zfX7_sumFrom w f31 (w.f9_4 k_v0).2) fun y11 f32 => ?_
                exact Tq.some ⟨rfl, trivial⟩
            · exact Tq.some ⟨rfl, trivial⟩
theorem zfX10_empty {s : Nat} {b : Bool} {g : hs_S} {v0 : Nat} (w : WT g) (k_v0 : gm_k v0 = 8) : Tq (fX10_empty v0 g) (Zv s b g) := by
  unfold fX10_empty
  refine Tq.ck (w.k k_v0) ?_
  refine Tq.ck (w.f8_0 k_v0).1 ?_
  refine Tq.csv (zfJ7_fill_53178 (s := s) (b := b) w (w.f8_0 k_v0).2) fun g1 w2 u3 => ?_
  exact Tq.some ⟨w2, (cU.rf.trans u3)⟩
theorem zfX6_forget {s : Nat} {b : Bool} {g : hs_S} {v0 : Nat} (w : WT g) (k_v0 : gm_k v0 = 5) : Tq (fX6_forget v0 g) (Zv s b g) := by
  unfold fX6_forget
  refine Tq.ck (w.k k_v0) ?_
  refine Tq.ck (w.f5_2 k_v0).1 ?_
  refine Tq.ck (w.k (w.f5_2 k_v0).2) ?_
  refine Tq.csv (zfX10_empty (s := s) (b := b) w (w.f5_2 k_v0).2) fun g1 w2 u3 => ?_
  refine Tq.ck (w2.k k_v0) ?_
  exact Tq.some ⟨((((w2.w (oW.k k_v0 (by decide) (by decide) (by decide) : oW s b _ _ _)).w (oW.k k_v0 (by decide) (by decide) (by decide) : oW s b _ _ _)).w (oW.k k_v0 (by decide) (by decide) (by decide) : oW s b _ _ _)).w (oW.k k_v0 (by decide) (by decide) (by decide) : oW s b _ _ _)), (((((cU.rf.trans u3).w (oW.k k_v0 (by decide) (by decide) (by decide))).w (oW.k k_v0 (by decide) (by decide) (by decide))).w (oW.k k_v0 (by decide) (by decide) (by decide))).w (oW.k k_v0 (by decide) (by decide) (by decide)))⟩
theorem zfX3_setLocal {s : Nat} {b : Bool} {g : hs_S} {v0 : Nat} {v1 : Int32} {v2 : Int32} (w : WT g) (k_v0 : gm_k v0 = 3) : Tq (fX3_setLocal v0 v1 v2 g) (Zv s b g) := by
  unfold fX3_setLocal
  refine Tq.ck (w.k k_v0) ?_
  refine Tq.ck (w.f3_0 k_v0).1 ?_
  refine Tq.csv (zfX9_put (s := s) (b := b) w (w.f3_0 k_v0).2) fun g1 w2 u3 => ?_
  exact Tq.some ⟨w2, (cU.rf.trans u3)⟩
theorem zfX3_kind {g : hs_S} {v0 : Nat} (w : WT g) (k_v0 : gm_k v0 = 3) : Tq (fX3_kind v0 g) (Zr g tt) := by
  unfold fX3_kind
  refine Tq.ck (w.k k_v0) ?_
  refine Tq.ck (w.f3_3 k_v0).1 ?_
  refine Tq.ck (w.k (w.f3_3 k_v0).2) ?_
  refine Tq.cro (zfX7_valueAt w (w.f3_3 k_v0).2) fun y1 f3 => ?_
  exact Tq.some ⟨rfl, trivial⟩
theorem zfX7_pairAt {g : hs_S} {v0 : Nat} {v1 : Int32} (w : WT g) (k_v0 : gm_k v0 = 6) : Tq (fX7_pairAt v0 v1 g) (Zr g tt) := by
  unfold fX7_pairAt
  refine Tq.ck (w.k k_v0) ?_
  refine Tq.cro (zfX7_valueAt w k_v0) fun y1 f5 => ?_
  refine Tq.ck (w.k k_v0) ?_
  refine Tq.cro (zfX7_valueAt w k_v0) fun y3 f6 => ?_
  exact Tq.some ⟨rfl, trivial⟩
theorem zfX7_fourAt {g : hs_S} {v0 : Nat} {v1 : Int32} (w : WT g) (k_v0 : gm_k v0 = 6) : Tq (fX7_fourAt v0 v1 g) (Zr g tt) := by
  unfold fX7_fourAt
  refine Tq.ck (w.k k_v0) ?_
  refine Tq.cro (zfX7_pairAt w k_v0) fun y1 f5 => ?_
  refine Tq.ck (w.k k_v0) ?_
  refine Tq.cro (zfX7_pairAt w k_v0) fun y3 f6 => ?_
  exact Tq.some ⟨rfl, trivial⟩
theorem zfX6_pay {s : Nat} {b : Bool} {g : hs_S} {v0 : Nat} {v1 : Nat} {v2 : Int32} {v3 : Int32} (w : WT g) (k_v0 : gm_k v0 = 5) (k_v1 : gm_k v1 = 3) : Tq (fX6_pay v0 v1 v2 v3 g) (Zs s b g tt) := by
  unfold fX6_pay
  refine Tq.ck (w.k k_v0) ?_
  refine Tq.br (fun c2 => ?_) (fun c3 => ?_)
  · refine Tq.ck (w.k k_v1) ?_
    refine Tq.csome ?_
    exact Tq.some ⟨⟨((w.w (oW.k k_v0 (by decide) (by decide) (by decide) : oW s b _ _ _)).w (oW.k k_v1 (by decide) (by decide) (by decide) : oW s b _ _ _)), ((cU.rf.w (oW.k k_v0 (by decide) (by decide) (by decide))).w (oW.k k_v1 (by decide) (by decide) (by decide)))⟩, trivial⟩
  · exact Tq.some ⟨⟨w, cU.rf⟩, trivial⟩
theorem zfX3_peek {g : hs_S} {v0 : Nat} (w : WT g) (k_v0 : gm_k v0 = 3) : Tq (fX3_peek v0 g) (Zr g tt) := by
  unfold fX3_peek
  refine Tq.ck (w.k k_v0) ?_
  refine Tq.ck (w.f3_1 k_v0).1 ?_
  refine Tq.cro (zfX9_at w (w.f3_1 k_v0).2.1) fun y1 f3 => ?_
  exact Tq.some ⟨rfl, trivial⟩
theorem zfX3_operand {g : hs_S} {v0 : Nat} (w : WT g) (k_v0 : gm_k v0 = 3) : Tq (fX3_operand v0 g) (Zr g tt) := by
  unfold fX3_operand
  refine Tq.ck (w.k k_v0) ?_
  refine Tq.ck (w.f3_3 k_v0).1 ?_
  refine Tq.ck (w.k (w.f3_3 k_v0).2) ?_
  refine Tq.cro (zfX7_valueAt w (w.f3_3 k_v0).2) fun y1 f3 => ?_
  exact Tq.some ⟨rfl, trivial⟩
theorem zfX3_pop {s : Nat} {b : Bool} {g : hs_S} {v0 : Nat} (w : WT g) (k_v0 : gm_k v0 = 3) : Tq (fX3_pop v0 g) (Zs s b g tt) := by
  unfold fX3_pop jX3_pop_17
  refine Tq.ck (w.k k_v0) ?_
  refine Tq.br (fun c5 => ?_) (fun c6 => ?_)
  · refine Tq.ck (w.k k_v0) ?_
    refine Tq.ck (w.f3_1 k_v0).1 ?_
    refine Tq.cro (zfX9_at w (w.f3_1 k_v0).2.1) fun y1 f7 => ?_
    exact Tq.some ⟨⟨w, cU.rf⟩, trivial⟩
  · refine Tq.ck (w.k k_v0) ?_
    refine Tq.ck (w.f3_1 k_v0).1 ?_
    refine Tq.cro (zfX9_at (w.w (oW.k k_v0 (by decide) (by decide) (by decide) : oW s b _ _ _)) (w.f3_1 k_v0).2.1) fun y3 f8 => ?_
    exact Tq.some ⟨⟨(w.w (oW.k k_v0 (by decide) (by decide) (by decide) : oW s b _ _ _)), (cU.rf.w (oW.k k_v0 (by decide) (by decide) (by decide)))⟩, trivial⟩
theorem zlX6_call_45 {s : Nat} {b : Bool} : ∀ (n : Nat) (v0 : Nat) (v1 : Nat) (v3 : Nat) (v4 : Int32) (g : hs_S), WT g → gm_k v1 = 3 → gm_k v3 = 3 → dm v4 ≤ n → Tq (lX6_call_45 n v0 v1 v3 v4 g) (Zv s b g)
  | 0, v0, v1, v3, v4, g, _, _, _, hc => absurd hc (by have := dm_pos v4; omega)
  | n + 1, v0, v1, v3, v4, g, w, k_v1, k_v3, hc => by
    rw [lX6_call_45]
    refine Tq.br (fun c4 => ?_) (fun c5 => ?_)
    · exact Tq.some ⟨w, cU.rf⟩
    · refine Tq.ck (w.k k_v1) ?_
      refine Tq.cst (zfX3_pop (s := s) (b := b) w k_v1) fun y1 g2 w6 u7 f8 => ?_
      refine Tq.ck (w6.k k_v3) ?_
      refine Tq.csv (zfX3_setLocal (s := s) (b := b) w6 k_v3) fun g3 w9 u10 => ?_
      exact Zv.tr ((cU.rf.trans u7).trans u10) (zlX6_call_45 (s := s) (b := b) n _ _ _ _ _ w9 k_v1 k_v3 (Nat.le_of_lt_succ (Nat.lt_of_lt_of_le (dm_a c5) hc)))
theorem zfX6_call {s : Nat} {b : Bool} {g : hs_S} {v0 : Nat} {v1 : Nat} (w : WT g) (k_v0 : gm_k v0 = 5) (k_v1 : gm_k v1 = 3) : Tq (fX6_call v0 v1 g) (Zs s b g tt) := by
  unfold fX6_call
  refine Tq.ck (w.k k_v0) ?_
  refine Tq.br (fun c9 => ?_) (fun c10 => ?_)
  · refine Tq.ck (w.f5_0 k_v0).1 ?_
    refine Tq.ck (w.k k_v1) ?_
    refine Tq.cro (zfX3_operand w k_v1) fun y1 f11 => ?_
    refine Tq.ck (w.k (w.f5_0 k_v0).2) ?_
    refine Tq.cro (zfX0_method w (w.f5_0 k_v0).2) fun y3 f12 => ?_
    refine Tq.ck (w.k k_v0) ?_
    refine Tq.cro (zfX6_frame w k_v0) fun y5 f13 => ?_
    refine Tq.ck (w.k f13) ?_
    refine Tq.csv (zfX3_begin (s := s) (b := b) w f13 f12) fun g7 w14 u15 => ?_
    refine Tq.ck (w14.k f12) ?_
    refine Tq.csv (zlX6_call_45 (s := s) (b := b) hs_N _ _ _ _ _ w14 k_v1 f13 (dm_N _)) fun g8 w16 u17 => ?_
    refine Tq.ck (w16.k k_v0) ?_
    exact Tq.some ⟨⟨(w16.w (oW.k k_v0 (by decide) (by decide) (by decide) : oW s b _ _ _)), (((cU.rf.trans u15).trans u17).w (oW.k k_v0 (by decide) (by decide) (by decide)))⟩, trivial⟩
  · exact Tq.some ⟨⟨w, cU.rf⟩, trivial⟩
theorem zfX3_push {s : Nat} {b : Bool} {g : hs_S} {v0 : Nat} {v1 : Int32} (w : WT g) (k_v0 : gm_k v0 = 3) : Tq (fX3_push v0 v1 g) (Zv s b g) := by
  unfold fX3_push
  refine Tq.ck (w.k k_v0) ?_
  refine Tq.br (fun c2 => ?_) (fun c3 => ?_)
  · exact Tq.some ⟨w, cU.rf⟩
  · refine Tq.ck (w.f3_1 k_v0).1 ?_
    refine Tq.csv (zfX9_put (s := s) (b := b) w (w.f3_1 k_v0).2) fun g1 w4 u5 => ?_
    refine Tq.ck (w4.k k_v0) ?_
    exact Tq.some ⟨(w4.w (oW.k k_v0 (by decide) (by decide) (by decide) : oW s b _ _ _)), ((cU.rf.trans u5).w (oW.k k_v0 (by decide) (by decide) (by decide)))⟩
theorem zfX6_leave {s : Nat} {b : Bool} {g : hs_S} {v0 : Nat} {v1 : Int32} (w : WT g) (k_v0 : gm_k v0 = 5) : Tq (fX6_leave v0 v1 g) (Zs s b g tt) := by
  unfold fX6_leave
  refine Tq.ck (w.k k_v0) ?_
  refine Tq.br (fun c6 => ?_) (fun c7 => ?_)
  · refine Tq.cro (zfX6_frame (w.w (oW.k k_v0 (by decide) (by decide) (by decide) : oW s b _ _ _)) k_v0) fun y1 f8 => ?_
    refine Tq.ck (w.k f8) ?_
    refine Tq.csv (zfX3_push (s := s) (b := b) (w.w (oW.k k_v0 (by decide) (by decide) (by decide) : oW s b _ _ _)) f8) fun g3 w9 u10 => ?_
    refine Tq.ck (w9.k f8) ?_
    refine Tq.cro (zfX4_sizeOf w9 ) fun y4 f11 => ?_
    refine Tq.ck (w9.k f8) ?_
    exact Tq.some ⟨⟨(w9.w (oW.k f8 (by decide) (by decide) (by decide) : oW s b _ _ _)), (((cU.rf.w (oW.k k_v0 (by decide) (by decide) (by decide))).trans u10).w (oW.k f8 (by decide) (by decide) (by decide)))⟩, trivial⟩
  · exact Tq.some ⟨⟨((w.w (oW.k k_v0 (by decide) (by decide) (by decide) : oW s b _ _ _)).w (oW.k k_v0 (by decide) (by decide) (by decide) : oW s b _ _ _)), ((cU.rf.w (oW.k k_v0 (by decide) (by decide) (by decide))).w (oW.k k_v0 (by decide) (by decide) (by decide)))⟩, trivial⟩
theorem zfX4_isTaken {g : hs_S} {v0 : Int32} {v1 : Int32} (w : WT g)  : Tq (fX4_isTaken v0 v1 g) (Zr g tt) := by
  unfold fX4_isTaken
  refine Tq.br (fun c1 => ?_) (fun c2 => ?_)
  · refine Tq.br (fun c3 => ?_) (fun c4 => ?_)
    · exact Tq.some ⟨rfl, trivial⟩
    · exact Tq.some ⟨rfl, trivial⟩
  · refine Tq.br (fun c5 => ?_) (fun c6 => ?_)
    · refine Tq.br (fun c7 => ?_) (fun c8 => ?_)
      · exact Tq.some ⟨rfl, trivial⟩
      · exact Tq.some ⟨rfl, trivial⟩
    · refine Tq.br (fun c9 => ?_) (fun c10 => ?_)
      · refine Tq.br (fun c11 => ?_) (fun c12 => ?_)
        · exact Tq.some ⟨rfl, trivial⟩
        · exact Tq.some ⟨rfl, trivial⟩
      · refine Tq.br (fun c13 => ?_) (fun c14 => ?_)
        · refine Tq.br (fun c15 => ?_) (fun c16 => ?_)
          · exact Tq.some ⟨rfl, trivial⟩
          · exact Tq.some ⟨rfl, trivial⟩
        · refine Tq.br (fun c17 => ?_) (fun c18 => ?_)
          · refine Tq.br (fun c19 => ?_) (fun c20 => ?_)
            · exact Tq.some ⟨rfl, trivial⟩
            · exact Tq.some ⟨rfl, trivial⟩
          · refine Tq.br (fun c21 => ?_) (fun c22 => ?_)
            · exact Tq.some ⟨rfl, trivial⟩
            · exact Tq.some ⟨rfl, trivial⟩
theorem zfX6_jump {s : Nat} {b : Bool} {g : hs_S} {v0 : Nat} {v1 : Nat} {v2 : Int32} (w : WT g) (k_v1 : gm_k v1 = 3) : Tq (fX6_jump v0 v1 v2 g) (Zs s b g tt) := by
  unfold fX6_jump jX6_jump_18 jX6_jump_23
  refine Tq.cro (zfX4_isBranch w ) fun y1 f19 => ?_
  refine Tq.br (fun c20 => ?_) (fun c21 => ?_)
  · refine Tq.ck (w.k k_v1) ?_
    refine Tq.cro (zfX4_sizeOf w ) fun y7 f22 => ?_
    refine Tq.br (fun c23 => ?_) (fun c24 => ?_)
    · refine Tq.ck (w.k k_v1) ?_
      exact Tq.some ⟨⟨(w.w (oW.k k_v1 (by decide) (by decide) (by decide) : oW s b _ _ _)), (cU.rf.w (oW.k k_v1 (by decide) (by decide) (by decide)))⟩, trivial⟩
    · refine Tq.ck (w.k k_v1) ?_
      refine Tq.ck (w.f3_3 k_v1).1 ?_
      refine Tq.ck (w.k (w.f3_3 k_v1).2) ?_
      refine Tq.cro (zfX7_targetOf w (w.f3_3 k_v1).2) fun y9 f25 => ?_
      refine Tq.ck (w.k k_v1) ?_
      exact Tq.some ⟨⟨(w.w (oW.k k_v1 (by decide) (by decide) (by decide) : oW s b _ _ _)), (cU.rf.w (oW.k k_v1 (by decide) (by decide) (by decide)))⟩, trivial⟩
  · refine Tq.ck (w.k k_v1) ?_
    refine Tq.cst (zfX3_pop (s := s) (b := b) w k_v1) fun y3 g4 w26 u27 f28 => ?_
    refine Tq.cro (zfX4_isTaken w26 ) fun y5 f29 => ?_
    refine Tq.br (fun c30 => ?_) (fun c31 => ?_)
    · refine Tq.ck (w26.k k_v1) ?_
      refine Tq.cro (zfX4_sizeOf w26 ) fun y11 f32 => ?_
      refine Tq.br (fun c33 => ?_) (fun c34 => ?_)
      · refine Tq.ck (w26.k k_v1) ?_
        exact Tq.some ⟨⟨(w26.w (oW.k k_v1 (by decide) (by decide) (by decide) : oW s b _ _ _)), ((cU.rf.trans u27).w (oW.k k_v1 (by decide) (by decide) (by decide)))⟩, trivial⟩
      · refine Tq.ck (w26.k k_v1) ?_
        refine Tq.ck (w26.f3_3 k_v1).1 ?_
        refine Tq.ck (w26.k (w26.f3_3 k_v1).2) ?_
        refine Tq.cro (zfX7_targetOf w26 (w26.f3_3 k_v1).2) fun y13 f35 => ?_
        refine Tq.ck (w26.k k_v1) ?_
        exact Tq.some ⟨⟨(w26.w (oW.k k_v1 (by decide) (by decide) (by decide) : oW s b _ _ _)), ((cU.rf.trans u27).w (oW.k k_v1 (by decide) (by decide) (by decide)))⟩, trivial⟩
    · refine Tq.ck (w26.k k_v1) ?_
      refine Tq.cro (zfX4_sizeOf w26 ) fun y15 f36 => ?_
      refine Tq.br (fun c37 => ?_) (fun c38 => ?_)
      · refine Tq.ck (w26.k k_v1) ?_
        exact Tq.some ⟨⟨(w26.w (oW.k k_v1 (by decide) (by decide) (by decide) : oW s b _ _ _)), ((cU.rf.trans u27).w (oW.k k_v1 (by decide) (by decide) (by decide)))⟩, trivial⟩
      · refine Tq.ck (w26.k k_v1) ?_
        refine Tq.ck (w26.f3_3 k_v1).1 ?_
        refine Tq.ck (w26.k (w26.f3_3 k_v1).2) ?_
        refine Tq.cro (zfX7_targetOf w26 (w26.f3_3 k_v1).2) fun y17 f39 => ?_
        refine Tq.ck (w26.k k_v1) ?_
        exact Tq.some ⟨⟨(w26.w (oW.k k_v1 (by decide) (by decide) (by decide) : oW s b _ _ _)), ((cU.rf.trans u27).w (oW.k k_v1 (by decide) (by decide) (by decide)))⟩, trivial⟩
theorem zfX3_local {g : hs_S} {v0 : Nat} {v1 : Int32} (w : WT g) (k_v0 : gm_k v0 = 3) : Tq (fX3_local v0 v1 g) (Zr g tt) := by
  unfold fX3_local
  refine Tq.ck (w.k k_v0) ?_
  refine Tq.ck (w.f3_0 k_v0).1 ?_
  refine Tq.cro (zfX9_at w (w.f3_0 k_v0).2.1) fun y1 f3 => ?_
  exact Tq.some ⟨rfl, trivial⟩
theorem zfX10_put {s : Nat} {b : Bool} {g : hs_S} {v0 : Nat} {v1 : Int32} {v2 : Int32} {v3 : Int32} (w : WT g) (k_v0 : gm_k v0 = 8) : Tq (fX10_put v0 v1 v2 v3 g) (Zv s b g) := by
  unfold fX10_put
  refine Tq.ck (w.k k_v0) ?_
  refine Tq.ck (w.f8_1 k_v0).1 ?_
  refine Tq.csv (zfX9_put (s := s) (b := b) w (w.f8_1 k_v0).2) fun g1 w2 u3 => ?_
  exact Tq.some ⟨w2, (cU.rf.trans u3)⟩
theorem zlX10_make_26 {s : Nat} {b : Bool} : ∀ (n : Nat) (v0 : Nat) (v1 : Int32) (v2 : Int32) (v3 : Int32) (g : hs_S), WT g → gm_k v0 = 8 → cm v3 ≤ n → Tq (lX10_make_26 n v0 v1 v2 v3 g) (Zv s b g)
  | 0, v0, v1, v2, v3, g, _, _, hc => absurd hc (by have := cm_pos v3; omega)
  | n + 1, v0, v1, v2, v3, g, w, k_v0, hc => by
    rw [lX10_make_26]
    refine Tq.br (fun c2 => ?_) (fun c3 => ?_)
    · exact Tq.some ⟨w, cU.rf⟩
    · refine Tq.ck (w.k k_v0) ?_
      refine Tq.csv (zfX10_put (s := s) (b := b) w k_v0) fun g1 w4 u5 => ?_
      exact Zv.tr (cU.rf.trans u5) (zlX10_make_26 (s := s) (b := b) n _ _ _ _ _ w4 k_v0 (Nat.le_of_lt_succ (Nat.lt_of_lt_of_le (cm_s c3) hc)))
theorem zfX10_make {s : Nat} {b : Bool} {g : hs_S} {v0 : Nat} {v1 : Int32} {v2 : Int32} (w : WT g) (k_v0 : gm_k v0 = 8) : Tq (fX10_make v0 v1 v2 g) (Zs s b g tt) := by
  unfold fX10_make
  refine Tq.br (fun c3 => ?_) (fun c4 => ?_)
  · refine Tq.br (fun c5 => ?_) (fun c6 => ?_)
    · refine Tq.ck (w.k k_v0) ?_
      refine Tq.ck (w.f8_0 k_v0).1 ?_
      refine Tq.csv (zfX9_put (s := s) (b := b) w (w.f8_0 k_v0).2) fun g1 w7 u8 => ?_
      refine Tq.csv (zlX10_make_26 (s := s) (b := b) hs_N _ _ _ _ _ w7 k_v0 (cm_N _)) fun g2 w9 u10 => ?_
      exact Tq.some ⟨⟨w9, ((cU.rf.trans u8).trans u10)⟩, trivial⟩
    · exact Tq.some ⟨⟨w, cU.rf⟩, trivial⟩
  · exact Tq.some ⟨⟨w, cU.rf⟩, trivial⟩
theorem zfX10_sizeOf {g : hs_S} {v0 : Nat} {v1 : Int32} (w : WT g) (k_v0 : gm_k v0 = 8) : Tq (fX10_sizeOf v0 v1 g) (Zr g tt) := by
  unfold fX10_sizeOf
  refine Tq.ck (w.k k_v0) ?_
  refine Tq.ck (w.f8_0 k_v0).1 ?_
  refine Tq.cro (zfX9_at w (w.f8_0 k_v0).2.1) fun y1 f3 => ?_
  exact Tq.some ⟨rfl, trivial⟩
theorem zfX10_has {g : hs_S} {v0 : Nat} {v1 : Int32} {v2 : Int32} (w : WT g) (k_v0 : gm_k v0 = 8) : Tq (fX10_has v0 v1 v2 g) (Zr g tt) := by
  unfold fX10_has
  refine Tq.br (fun c3 => ?_) (fun c4 => ?_)
  · exact Tq.some ⟨rfl, trivial⟩
  · refine Tq.ck (w.k k_v0) ?_
    refine Tq.cro (zfX10_sizeOf w k_v0) fun y1 f5 => ?_
    refine Tq.br (fun c6 => ?_) (fun c7 => ?_)
    · exact Tq.some ⟨rfl, trivial⟩
    · exact Tq.some ⟨rfl, trivial⟩
theorem zfX10_get {g : hs_S} {v0 : Nat} {v1 : Int32} {v2 : Int32} (w : WT g) (k_v0 : gm_k v0 = 8) : Tq (fX10_get v0 v1 v2 g) (Zr g tt) := by
  unfold fX10_get
  refine Tq.ck (w.k k_v0) ?_
  refine Tq.ck (w.f8_1 k_v0).1 ?_
  refine Tq.cro (zfX9_at w (w.f8_1 k_v0).2.1) fun y1 f3 => ?_
  exact Tq.some ⟨rfl, trivial⟩
theorem zfX6_actOnArray {s : Nat} {b : Bool} {g : hs_S} {v0 : Nat} {v1 : Nat} {v2 : Int32} (w : WT g) (k_v0 : gm_k v0 = 5) (k_v1 : gm_k v1 = 3) : Tq (fX6_actOnArray v0 v1 v2 g) (Zs s b g tt) := by
  unfold fX6_actOnArray jX6_actOnArray_60
  refine Tq.ck (w.k k_v1) ?_
  refine Tq.cro (zfX3_operand w k_v1) fun y1 f28 => ?_
  refine Tq.br (fun c29 => ?_) (fun c30 => ?_)
  · refine Tq.ck (w.k k_v0) ?_
    refine Tq.ck (w.f5_2 k_v0).1 ?_
    refine Tq.ck (w.k k_v1) ?_
    refine Tq.cst (zfX3_pop (s := s) (b := b) w k_v1) fun y3 g4 w31 u32 f33 => ?_
    refine Tq.ck (w31.k (w.f5_2 k_v0).2) ?_
    refine Tq.cst (zfX10_make (s := s) (b := b) w31 (w.f5_2 k_v0).2) fun y5 g6 w34 u35 f36 => ?_
    exact Tq.some ⟨⟨w34, ((cU.rf.trans u32).trans u35)⟩, trivial⟩
  · refine Tq.br (fun c37 => ?_) (fun c38 => ?_)
    · refine Tq.ck (w.k k_v0) ?_
      refine Tq.ck (w.f5_2 k_v0).1 ?_
      refine Tq.ck (w.k (w.f5_2 k_v0).2) ?_
      refine Tq.cro (zfX10_sizeOf w (w.f5_2 k_v0).2) fun y7 f39 => ?_
      refine Tq.ck (w.k k_v1) ?_
      refine Tq.csv (zfX3_push (s := s) (b := b) w k_v1) fun g9 w40 u41 => ?_
      exact Tq.some ⟨⟨w40, (cU.rf.trans u41)⟩, trivial⟩
    · refine Tq.br (fun c42 => ?_) (fun c43 => ?_)
      · refine Tq.ck (w.k k_v1) ?_
        refine Tq.cst (zfX3_pop (s := s) (b := b) w k_v1) fun y10 g11 w44 u45 f46 => ?_
        refine Tq.ck (w44.k k_v1) ?_
        refine Tq.cst (zfX3_pop (s := s) (b := b) w44 k_v1) fun y12 g13 w47 u48 f49 => ?_
        refine Tq.ck (w47.k k_v0) ?_
        refine Tq.ck (w47.f5_2 k_v0).1 ?_
        refine Tq.ck (w47.k (w47.f5_2 k_v0).2) ?_
        refine Tq.cro (zfX10_has w47 (w47.f5_2 k_v0).2) fun y14 f50 => ?_
        refine Tq.br (fun c51 => ?_) (fun c52 => ?_)
        · exact Tq.some ⟨⟨w47, ((cU.rf.trans u45).trans u48)⟩, trivial⟩
        · refine Tq.br (fun c53 => ?_) (fun c54 => ?_)
          · refine Tq.ck (w47.k k_v0) ?_
            refine Tq.ck (w47.f5_2 k_v0).1 ?_
            refine Tq.ck (w47.k (w47.f5_2 k_v0).2) ?_
            refine Tq.csv (zfX10_put (s := s) (b := b) w47 (w47.f5_2 k_v0).2) fun g16 w55 u56 => ?_
            exact Tq.some ⟨⟨w55, (((cU.rf.trans u45).trans u48).trans u56)⟩, trivial⟩
          · refine Tq.ck (w47.k k_v0) ?_
            refine Tq.ck (w47.f5_2 k_v0).1 ?_
            refine Tq.ck (w47.k (w47.f5_2 k_v0).2) ?_
            refine Tq.cro (zfX10_get w47 (w47.f5_2 k_v0).2) fun y17 f57 => ?_
            refine Tq.ck (w47.k k_v1) ?_
            refine Tq.csv (zfX3_push (s := s) (b := b) w47 k_v1) fun g19 w58 u59 => ?_
            exact Tq.some ⟨⟨w58, (((cU.rf.trans u45).trans u48).trans u59)⟩, trivial⟩
      · refine Tq.ck (w.k k_v1) ?_
        refine Tq.cst (zfX3_pop (s := s) (b := b) w k_v1) fun y20 g21 w60 u61 f62 => ?_
        refine Tq.ck (w60.k k_v0) ?_
        refine Tq.ck (w60.f5_2 k_v0).1 ?_
        refine Tq.ck (w60.k (w60.f5_2 k_v0).2) ?_
        refine Tq.cro (zfX10_has w60 (w60.f5_2 k_v0).2) fun y22 f63 => ?_
        refine Tq.br (fun c64 => ?_) (fun c65 => ?_)
        · exact Tq.some ⟨⟨w60, (cU.rf.trans u61)⟩, trivial⟩
        · refine Tq.br (fun c66 => ?_) (fun c67 => ?_)
          · refine Tq.ck (w60.k k_v0) ?_
            refine Tq.ck (w60.f5_2 k_v0).1 ?_
            refine Tq.ck (w60.k (w60.f5_2 k_v0).2) ?_
            refine Tq.csv (zfX10_put (s := s) (b := b) w60 (w60.f5_2 k_v0).2) fun g24 w68 u69 => ?_
            exact Tq.some ⟨⟨w68, ((cU.rf.trans u61).trans u69)⟩, trivial⟩
          · refine Tq.ck (w60.k k_v0) ?_
            refine Tq.ck (w60.f5_2 k_v0).1 ?_
            refine Tq.ck (w60.k (w60.f5_2 k_v0).2) ?_
            refine Tq.cro (zfX10_get w60 (w60.f5_2 k_v0).2) fun y25 f70 => ?_
            refine Tq.ck (w60.k k_v1) ?_
            refine Tq.csv (zfX3_push (s := s) (b := b) w60 k_v1) fun g27 w71 u72 => ?_
            exact Tq.some ⟨⟨w71, ((cU.rf.trans u61).trans u72)⟩, trivial⟩
theorem zfX6_joined {g : hs_S} {v0 : Nat} {v1 : Int32} {v2 : Int32} {v3 : Int32} (w : WT g)  : Tq (fX6_joined v0 v1 v2 v3 g) (Zr g tt) := by
  unfold fX6_joined
  refine Tq.br (fun c1 => ?_) (fun c2 => ?_)
  · exact Tq.some ⟨rfl, trivial⟩
  · refine Tq.br (fun c3 => ?_) (fun c4 => ?_)
    · exact Tq.some ⟨rfl, trivial⟩
    · refine Tq.br (fun c5 => ?_) (fun c6 => ?_)
      · exact Tq.some ⟨rfl, trivial⟩
      · refine Tq.br (fun c7 => ?_) (fun c8 => ?_)
        · exact Tq.some ⟨rfl, trivial⟩
        · refine Tq.br (fun c9 => ?_) (fun c10 => ?_)
          · exact Tq.some ⟨rfl, trivial⟩
          · exact Tq.some ⟨rfl, trivial⟩
theorem zfX6_actOnTwo {s : Nat} {b : Bool} {g : hs_S} {v0 : Nat} {v1 : Nat} {v2 : Int32} (w : WT g) (k_v0 : gm_k v0 = 5) (k_v1 : gm_k v1 = 3) : Tq (fX6_actOnTwo v0 v1 v2 g) (Zs s b g tt) := by
  unfold fX6_actOnTwo jX6_actOnTwo_23 jX6_actOnTwo_47
  refine Tq.ck (w.k k_v1) ?_
  refine Tq.cst (zfX3_pop (s := s) (b := b) w k_v1) fun y1 g2 w12 u13 f14 => ?_
  refine Tq.ck (w12.k k_v1) ?_
  refine Tq.cst (zfX3_pop (s := s) (b := b) w12 k_v1) fun y3 g4 w15 u16 f17 => ?_
  refine Tq.br (fun c18 => ?_) (fun c19 => ?_)
  · refine Tq.br (fun c20 => ?_) (fun c21 => ?_)
    · exact Tq.some ⟨⟨w15, ((cU.rf.trans u13).trans u16)⟩, trivial⟩
    · refine Tq.br (fun c22 => ?_) (fun c23 => ?_)
      · refine Tq.ck c21 ?_
        refine Tq.ck (w15.k k_v1) ?_
        refine Tq.csv (zfX3_push (s := s) (b := b) w15 k_v1) fun g8 w24 u25 => ?_
        exact Tq.some ⟨⟨w24, (((cU.rf.trans u13).trans u16).trans u25)⟩, trivial⟩
      · refine Tq.ck c21 ?_
        refine Tq.ck (w15.k k_v1) ?_
        refine Tq.csv (zfX3_push (s := s) (b := b) w15 k_v1) fun g9 w26 u27 => ?_
        exact Tq.some ⟨⟨w26, (((cU.rf.trans u13).trans u16).trans u27)⟩, trivial⟩
  · refine Tq.br (fun c28 => ?_) (fun c29 => ?_)
    · refine Tq.br (fun c30 => ?_) (fun c31 => ?_)
      · exact Tq.some ⟨⟨w15, ((cU.rf.trans u13).trans u16)⟩, trivial⟩
      · refine Tq.br (fun c32 => ?_) (fun c33 => ?_)
        · refine Tq.ck c31 ?_
          refine Tq.ck (w15.k k_v1) ?_
          refine Tq.csv (zfX3_push (s := s) (b := b) w15 k_v1) fun g10 w34 u35 => ?_
          exact Tq.some ⟨⟨w34, (((cU.rf.trans u13).trans u16).trans u35)⟩, trivial⟩
        · refine Tq.ck c31 ?_
          refine Tq.ck (w15.k k_v1) ?_
          refine Tq.csv (zfX3_push (s := s) (b := b) w15 k_v1) fun g11 w36 u37 => ?_
          exact Tq.some ⟨⟨w36, (((cU.rf.trans u13).trans u16).trans u37)⟩, trivial⟩
    · refine Tq.ck (w15.k k_v0) ?_
      refine Tq.cro (zfX6_joined w15 ) fun y5 f38 => ?_
      refine Tq.ck (w15.k k_v1) ?_
      refine Tq.csv (zfX3_push (s := s) (b := b) w15 k_v1) fun g7 w39 u40 => ?_
      exact Tq.some ⟨⟨w39, (((cU.rf.trans u13).trans u16).trans u40)⟩, trivial⟩
theorem zfX6_act {s : Nat} {b : Bool} {g : hs_S} {v0 : Nat} {v1 : Nat} {v2 : Int32} (w : WT g) (k_v0 : gm_k v0 = 5) (k_v1 : gm_k v1 = 3) : Tq (fX6_act v0 v1 v2 g) (Zs s b g tt) := by
  unfold fX6_act
  refine Tq.br (fun c31 => ?_) (fun c32 => ?_)
  · exact Tq.some ⟨⟨w, cU.rf⟩, trivial⟩
  · refine Tq.br (fun c33 => ?_) (fun c34 => ?_)
    · refine Tq.ck (w.k k_v1) ?_
      refine Tq.cro (zfX3_operand w k_v1) fun y1 f35 => ?_
      refine Tq.ck (w.k k_v1) ?_
      refine Tq.csv (zfX3_push (s := s) (b := b) w k_v1) fun g3 w36 u37 => ?_
      exact Tq.some ⟨⟨w36, (cU.rf.trans u37)⟩, trivial⟩
    · refine Tq.br (fun c38 => ?_) (fun c39 => ?_)
      · refine Tq.ck (w.k k_v1) ?_
        refine Tq.ck (w.f3_3 k_v1).1 ?_
        refine Tq.ck (w.k (w.f3_3 k_v1).2) ?_
        refine Tq.cro (zfX7_pairAt w (w.f3_3 k_v1).2) fun y4 f40 => ?_
        refine Tq.ck (w.k k_v1) ?_
        refine Tq.csv (zfX3_push (s := s) (b := b) w k_v1) fun g6 w41 u42 => ?_
        exact Tq.some ⟨⟨w41, (cU.rf.trans u42)⟩, trivial⟩
      · refine Tq.br (fun c43 => ?_) (fun c44 => ?_)
        · refine Tq.ck (w.k k_v1) ?_
          refine Tq.cro (zfX3_operand w k_v1) fun y7 f45 => ?_
          refine Tq.ck (w.k k_v1) ?_
          refine Tq.cro (zfX3_local w k_v1) fun y9 f46 => ?_
          refine Tq.ck (w.k k_v1) ?_
          refine Tq.csv (zfX3_push (s := s) (b := b) w k_v1) fun g11 w47 u48 => ?_
          exact Tq.some ⟨⟨w47, (cU.rf.trans u48)⟩, trivial⟩
        · refine Tq.br (fun c49 => ?_) (fun c50 => ?_)
          · refine Tq.ck (w.k k_v1) ?_
            refine Tq.cro (zfX3_operand w k_v1) fun y12 f51 => ?_
            refine Tq.ck (w.k k_v1) ?_
            refine Tq.cst (zfX3_pop (s := s) (b := b) w k_v1) fun y14 g15 w52 u53 f54 => ?_
            refine Tq.ck (w52.k k_v1) ?_
            refine Tq.csv (zfX3_setLocal (s := s) (b := b) w52 k_v1) fun g16 w55 u56 => ?_
            exact Tq.some ⟨⟨w55, ((cU.rf.trans u53).trans u56)⟩, trivial⟩
          · refine Tq.br (fun c57 => ?_) (fun c58 => ?_)
            · refine Tq.ck (w.k k_v1) ?_
              refine Tq.cst (zfX3_pop (s := s) (b := b) w k_v1) fun y17 g18 w59 u60 f61 => ?_
              exact Tq.some ⟨⟨w59, (cU.rf.trans u60)⟩, trivial⟩
            · refine Tq.br (fun c62 => ?_) (fun c63 => ?_)
              · refine Tq.ck (w.k k_v1) ?_
                refine Tq.cro (zfX3_peek w k_v1) fun y19 f64 => ?_
                refine Tq.ck (w.k k_v1) ?_
                refine Tq.csv (zfX3_push (s := s) (b := b) w k_v1) fun g21 w65 u66 => ?_
                exact Tq.some ⟨⟨w65, (cU.rf.trans u66)⟩, trivial⟩
              · refine Tq.br (fun c67 => ?_) (fun c68 => ?_)
                · refine Tq.ck (w.k k_v1) ?_
                  refine Tq.cst (zfX3_pop (s := s) (b := b) w k_v1) fun y22 g23 w69 u70 f71 => ?_
                  refine Tq.ck (w69.k k_v1) ?_
                  refine Tq.csv (zfX3_push (s := s) (b := b) w69 k_v1) fun g24 w72 u73 => ?_
                  exact Tq.some ⟨⟨w72, ((cU.rf.trans u70).trans u73)⟩, trivial⟩
                · refine Tq.br (fun c74 => ?_) (fun c75 => ?_)
                  · exact Tq.some ⟨⟨w, cU.rf⟩, trivial⟩
                  · refine Tq.cro (zfX4_isOfArray w ) fun y25 f76 => ?_
                    refine Tq.br (fun c77 => ?_) (fun c78 => ?_)
                    · refine Tq.ck (w.k k_v0) ?_
                      refine Tq.cst (zfX6_actOnTwo (s := s) (b := b) w k_v0 k_v1) fun y27 g28 w79 u80 f81 => ?_
                      exact Tq.some ⟨⟨w79, (cU.rf.trans u80)⟩, trivial⟩
                    · refine Tq.ck (w.k k_v0) ?_
                      refine Tq.cst (zfX6_actOnArray (s := s) (b := b) w k_v0 k_v1) fun y29 g30 w82 u83 f84 => ?_
                      exact Tq.some ⟨⟨w82, (cU.rf.trans u83)⟩, trivial⟩
theorem zlX7_handlerFor_2 : ∀ (n : Nat) (v0 : Nat) (v1 : Int32) (v2 : Int32) (v3 : Int32) (g : hs_S), WT g → gm_k v0 = 6 → cm v3 ≤ n → Tq (lX7_handlerFor_2 n v0 v1 v2 v3 g) (Zr3 g tt2)
  | 0, v0, v1, v2, v3, g, _, _, hc => absurd hc (by have := cm_pos v3; omega)
  | n + 1, v0, v1, v2, v3, g, w, k_v0, hc => by
    rw [lX7_handlerFor_2]
    unfold jX7_handlerFor_42 jX7_handlerFor_43 jX7_handlerFor_68
    refine Tq.ck (w.k k_v0) ?_
    refine Tq.br (fun c7 => ?_) (fun c8 => ?_)
    · exact Tq.some ⟨rfl, trivial⟩
    · refine Tq.cro (zfX7_handlerNumber w k_v0) fun y1 f9 => ?_
      refine Tq.ck (w.k k_v0) ?_
      refine Tq.cro (zfX7_handlerNumber w k_v0) fun y3 f10 => ?_
      refine Tq.br (fun c11 => ?_) (fun c12 => ?_)
      · refine Tq.br (fun c13 => ?_) (fun c14 => ?_)
        · exact (zlX7_handlerFor_2 n _ _ _ _ _ w k_v0 (Nat.le_of_lt_succ (Nat.lt_of_lt_of_le (cm_s c8) hc)))
        · refine Tq.br (fun c15 => ?_) (fun c16 => ?_)
          · exact Tq.some ⟨rfl, trivial⟩
          · refine Tq.br (fun c17 => ?_) (fun c18 => ?_)
            · exact Tq.some ⟨rfl, trivial⟩
            · exact (zlX7_handlerFor_2 n _ _ _ _ _ w k_v0 (Nat.le_of_lt_succ (Nat.lt_of_lt_of_le (cm_s c8) hc)))
      · refine Tq.ck (w.k k_v0) ?_
        refine Tq.cro (zfX7_handlerNumber w k_v0) fun y5 f19 => ?_
        refine Tq.br (fun c20 => ?_) (fun c21 => ?_)
        · refine Tq.br (fun c22 => ?_) (fun c23 => ?_)
          · exact (zlX7_handlerFor_2 n _ _ _ _ _ w k_v0 (Nat.le_of_lt_succ (Nat.lt_of_lt_of_le (cm_s c8) hc)))
          · refine Tq.br (fun c24 => ?_) (fun c25 => ?_)
            · exact Tq.some ⟨rfl, trivial⟩
            · refine Tq.br (fun c26 => ?_) (fun c27 => ?_)
              · exact Tq.some ⟨rfl, trivial⟩
              · exact (zlX7_handlerFor_2 n _ _ _ _ _ w k_v0 (Nat.le_of_lt_succ (Nat.lt_of_lt_of_le (cm_s c8) hc)))
        · refine Tq.br (fun c28 => ?_) (fun c29 => ?_)
          · exact (zlX7_handlerFor_2 n _ _ _ _ _ w k_v0 (Nat.le_of_lt_succ (Nat.lt_of_lt_of_le (cm_s c8) hc)))
          · refine Tq.br (fun c30 => ?_) (fun c31 => ?_)
            · exact Tq.some ⟨rfl, trivial⟩
            · refine Tq.br (fun c32 => ?_) (fun c33 => ?_)
              · exact Tq.some ⟨rfl, trivial⟩
              · exact (zlX7_handlerFor_2 n _ _ _ _ _ w k_v0 (Nat.le_of_lt_succ (Nat.lt_of_lt_of_le (cm_s c8) hc)))
theorem zfX7_handlerFor {g : hs_S} {v0 : Nat} {v1 : Int32} {v2 : Int32} (w : WT g) (k_v0 : gm_k v0 = 6) : Tq (fX7_handlerFor v0 v1 v2 g) (Zr g tt) := by
  unfold fX7_handlerFor jX7_handlerFor_61
  refine Tq.cr3 (zlX7_handlerFor_2 hs_N _ _ _ _ _ w k_v0 (cm_N _)) fun y1 y2 f6 => ?_
  refine Tq.br (fun c7 => ?_) (fun c8 => ?_)
  · exact Tq.some ⟨rfl, trivial⟩
  · refine Tq.ck (w.k k_v0) ?_
    refine Tq.cro (zfX7_handlerNumber w k_v0) fun y4 f9 => ?_
    exact Tq.some ⟨rfl, trivial⟩
theorem zfX3_goOnWith {s : Nat} {b : Bool} {g : hs_S} {v0 : Nat} {v1 : Int32} {v2 : Int32} (w : WT g) (k_v0 : gm_k v0 = 3) : Tq (fX3_goOnWith v0 v1 v2 g) (Zv s b g) := by
  unfold fX3_goOnWith
  refine Tq.ck (w.k k_v0) ?_
  refine Tq.csv (zfX3_push (s := s) (b := b) (w.w (oW.k k_v0 (by decide) (by decide) (by decide) : oW s b _ _ _)) k_v0) fun g1 w2 u3 => ?_
  refine Tq.ck (w2.k k_v0) ?_
  exact Tq.some ⟨(w2.w (oW.k k_v0 (by decide) (by decide) (by decide) : oW s b _ _ _)), (((cU.rf.w (oW.k k_v0 (by decide) (by decide) (by decide))).trans u3).w (oW.k k_v0 (by decide) (by decide) (by decide)))⟩
theorem zlX6_raise_0 {s : Nat} {b : Bool} : ∀ (n : Nat) (v0 : Nat) (v1 : Int32) (g : hs_S), WT g → gm_k v0 = 5 → dm (hs_I g v0 3) ≤ n → Tq (lX6_raise_0 n v0 v1 g) (Zs4 s b g (fun k x _ => k = 0 ∨ gm_k x = 3))
  | 0, v0, v1, g, _, _, hc => absurd hc (by have := dm_pos (hs_I g v0 3); omega)
  | n + 1, v0, v1, g, w, k_v0, hc => by
    rw [lX6_raise_0]
    refine Tq.ck (w.k k_v0) (Tq.br (fun _ => Tq.some ⟨⟨w, cU.rf⟩, Or.inl rfl⟩) (fun c => ?_))
    refine Tq.cro (zfX6_frame w k_v0) fun r k => Tq.ck (w.k k) (Tq.ck (w.f3_3 k).1 (Tq.ck (w.k (w.f3_3 k).2) (Tq.cro (zfX7_handlerFor w (w.f3_3 k).2) fun r9 _ => ?_)))
    refine Tq.br (fun _ => ?_) (fun _ => Tq.some ⟨⟨w, cU.rf⟩, Or.inr k⟩)
    have o : oW s b v0 3 (hs_I g v0 3 - 1) := oW.k k_v0 (by decide) (by decide) (by decide)
    refine Tq.ck (w.k k_v0) (Zs4.tr (cU.rf.w o) (zlX6_raise_0 n v0 v1 _ (w.w o) k_v0 ?_))
    rw [hs_I_w, if_pos rfl, if_pos rfl]
    have : 0 ≤ hs_I g v0 3 := of_le (by have := nle_toInt c; omega)
    exact Nat.le_of_lt_succ (Nat.lt_of_lt_of_le (dm_s this) hc)
theorem zfX6_raise {s : Nat} {b : Bool} {g : hs_S} {v0 : Nat} {v1 : Int32} (w : WT g) (k_v0 : gm_k v0 = 5) : Tq (fX6_raise v0 v1 g) (Zs s b g tt) := by
  unfold fX6_raise
  refine Tq.cs4 (zlX6_raise_0 (s := s) (b := b) hs_N v0 v1 g w k_v0 (dm_N _)) fun k x y g' w' u' h => ?_
  refine Tq.br (fun _ => Tq.ck (w'.k k_v0) ?_) (fun c => ?_)
  · have o : oW s b v0 5 v1 := oW.k k_v0 (by decide) (by decide) (by decide)
    exact Tq.some ⟨⟨w'.w o, u'.w o⟩, trivial⟩
  · have k3 : gm_k x = 3 := h.resolve_left c
    exact Tq.ck (w'.k k3) (Tq.csv (zfX3_goOnWith (s := s) (b := b) w' k3) fun g3 w3 u3 => Tq.some ⟨⟨w3, u'.trans u3⟩, trivial⟩)
