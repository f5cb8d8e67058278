/-! EVERY METHOD OF THE CLASS ANSWERS (wip/gen/cls.py) -/
theorem en_eq {s : Nat} {g q : hs_S} {m : Nat} (u : cU s true g q) (k : gm_k m = 6) : en q m = en g m := by
  unfold en
  rw [u.1 m 2 (Or.inr (Or.inr (Or.inr ⟨k, Or.inl rfl, rfl⟩))), u.1 m 3 (Or.inr (Or.inr (Or.inr ⟨k, Or.inr (Or.inl rfl), rfl⟩))), u.1 m 6 (Or.inr (Or.inr (Or.inr ⟨k, Or.inr (Or.inr rfl), rfl⟩)))]
theorem cU.dn {s : Nat} {b : Bool} {g q : hs_S} (u : cU s true g q) : cU s b g q := by
  refine ⟨fun a j x => u.1 a j ?_, u.2⟩
  rcases x with x | x | x | ⟨x1, x2, -⟩
  · exact Or.inl x
  · exact Or.inr (Or.inl x)
  · exact Or.inr (Or.inr (Or.inl x))
  · exact Or.inr (Or.inr (Or.inr ⟨x1, x2, rfl⟩))
theorem zfX2_wrongInMethod {s : Nat} {g : hs_S} {v0 v1 v2 : Nat} {v3 : Int32} (w : WT g) (k_v0 : gm_k v0 = 2) (k_v1 : gm_k v1 = 0) (k_v2 : gm_k v2 = 6) (h0 : 0 ≤ v3.toInt) (h1 : v3.toInt < 100000) : Tq (fX2_wrongInMethod v0 v1 v2 v3 g) (fun q => (WT q.2 ∧ cU s false g q.2) ∧ enR q v2) := by
  unfold fX2_wrongInMethod
  refine Tq.ck (w.k k_v2) (Tq.csv (zfX7_empty (s := s) w k_v2) fun g2 w2 u2 => Tq.ck (w2.k k_v0) ?_)
  obtain ⟨⟨r7, g6⟩, e, ⟨w6, u6⟩, h6⟩ := zfX2_wrongNumber (s := s) w2 k_v0 k_v1 k_v2 h0 h1
  rw [e]
  have h6' : r7 = -1 → 0 ≤ (en g6 v2).toInt ∧ (en g6 v2).toInt ≤ 32000 := h6
  have u0 : cU s false g g6 := u2.trans u6
  have go67 : ∀ (s0 : Int32) (g' : hs_S), WT g' → cU s true g6 g' → (s0 = -1 → r7 = -1) → Tq (jX2_wrongInMethod_67 v0 v2 s0 g') (fun q => (WT q.2 ∧ cU s false g q.2) ∧ enR q v2) := by
    intro s0 g' w' u' hs
    unfold jX2_wrongInMethod_67
    refine Tq.br (fun c => ?_) (fun c => Tq.some ⟨⟨w', u0.trans u'.dn⟩, fun e => absurd e c⟩)
    refine Tq.ck (w'.k k_v0) (Tq.csv (zfX2_markBlocks (s := s) (b := true) w' k_v2) fun g3 w3 u3 => Tq.some ⟨⟨w3, u0.trans (u'.trans u3).dn⟩, fun _ => ?_⟩)
    show 0 ≤ (en g3 v2).toInt ∧ (en g3 v2).toInt ≤ 32000
    rw [en_eq (u'.trans u3) k_v2]
    exact h6' (hs c)
  have go49 : ∀ (s0 : Int32) (g' : hs_S), WT g' → cU s true g6 g' → (s0 = -1 → r7 = -1) → Tq (jX2_wrongInMethod_49 v0 v2 s0 g') (fun q => (WT q.2 ∧ cU s false g q.2) ∧ enR q v2) := by
    intro s0 g' w' u' hs
    unfold jX2_wrongInMethod_49
    refine Tq.br (fun c => ?_) (fun c => go67 s0 g' w' u' hs)
    refine Tq.ck (w'.k k_v0) (Tq.cro (zfX2_wrongJump w' k_v2) fun r _ => go67 r g' w' u' fun _ => hs c)
  have go30 : ∀ (s0 : Int32) (g' : hs_S), WT g' → cU s true g6 g' → (s0 = -1 → r7 = -1) → Tq (jX2_wrongInMethod_30 v0 v1 v2 s0 g') (fun q => (WT q.2 ∧ cU s false g q.2) ∧ enR q v2) := by
    intro s0 g' w' u' hs
    unfold jX2_wrongInMethod_30
    refine Tq.br (fun c => ?_) (fun c => go49 s0 g' w' u' hs)
    refine Tq.ck (w'.k k_v0) (Tq.cst (zfX2_wrongHandler (s := s) (b := true) w' k_v0 k_v1 k_v2) fun r g3 w3 u3 _ => go49 r g3 w3 (u'.trans u3) fun _ => hs c)
  show Tq (if r7 = (-1 : Int32) then _ else _) _
  refine Tq.br (fun c => ?_) (fun c => go30 r7 g6 w6 cU.rf fun e => e)
  refine Tq.ck (w6.k k_v0) (Tq.cst (zfX2_wrongInstruction (s := s) (b := true) w6 k_v0 k_v1 k_v2) fun r g3 w3 u3 _ => go30 r g3 w3 u3 fun _ => c)
theorem zlX1_findLowest_0 {s : Nat} {b : Bool} : ∀ (n : Nat) (v0 : Nat) (v1 : Int32) (g : hs_S), WT g → gm_k v0 = 1 → cm (hs_I g v0 2) ≤ n → Tq (lX1_findLowest_0 n v0 v1 g) (Zs s b g tt)
  | 0, v0, v1, g, _, _, hc => absurd hc (by have := cm_pos (hs_I g v0 2); omega)
  | n + 1, v0, v1, g, w, k_v0, hc => by
    rw [lX1_findLowest_0]
    refine Tq.ck (w.k k_v0) (Tq.br (fun _ => Tq.some ⟨⟨w, cU.rf⟩, trivial⟩) (fun c => ?_))
    have go : Tq (jX1_findLowest_39 (fun g => lX1_findLowest_0 n v0 v1 g) v0 v1 g) (Zs s b g tt) := by
      unfold jX1_findLowest_39
      have o : oW s b v0 2 (hs_I g v0 2 + 1) := oW.k k_v0 (by decide) (by decide) (by decide)
      refine Tq.ck (w.k k_v0) (Zs.tr (cU.rf.w o) (zlX1_findLowest_0 n v0 v1 _ (w.w o) k_v0 ?_))
      rw [hs_I_w, if_pos rfl, if_pos rfl]
      exact Nat.le_of_lt_succ (Nat.lt_of_lt_of_le (cm_s c) hc)
    refine Tq.ck (w.f1_0 k_v0).1 (Tq.cro (zfX9_at w (w.f1_0 k_v0).2.1) fun r _ => Tq.br (fun _ => go) (fun _ => ?_))
    refine Tq.ck (w.k k_v0) (Tq.ck (w.f1_1 k_v0).1 (Tq.cro (zfX9_at w (w.f1_1 k_v0).2.1) fun r _ => Tq.br (fun _ => Tq.some ⟨⟨w, cU.rf⟩, trivial⟩) (fun _ => go)))
theorem zfX1_findLowest {s : Nat} {b : Bool} {g : hs_S} {v0 : Nat} {v1 : Int32} (w : WT g) (k_v0 : gm_k v0 = 1) : Tq (fX1_findLowest v0 v1 g) (Zs s b g tt) := by
  unfold fX1_findLowest
  refine Tq.cst (zlX1_findLowest_0 (s := s) (b := b) hs_N _ _ _ w k_v0 (cm_N _)) fun y1 g2 w3 u4 f5 => ?_
  refine Tq.br (fun c6 => ?_) (fun c7 => ?_)
  · exact Tq.some ⟨⟨w3, (cU.rf.trans u4)⟩, trivial⟩
  · exact Tq.some ⟨⟨w3, (cU.rf.trans u4)⟩, trivial⟩
theorem zfX4_takes {g : hs_S} {v0 : Int32} (w : WT g)  : Tq (fX4_takes v0 g) (Zr g tt) := by
  unfold fX4_takes
  refine Tq.br (fun c5 => ?_) (fun c6 => ?_)
  · exact Tq.some ⟨rfl, trivial⟩
  · refine Tq.br (fun c7 => ?_) (fun c8 => ?_)
    · exact Tq.some ⟨rfl, trivial⟩
    · refine Tq.br (fun c9 => ?_) (fun c10 => ?_)
      · exact Tq.some ⟨rfl, trivial⟩
      · refine Tq.br (fun c11 => ?_) (fun c12 => ?_)
        · exact Tq.some ⟨rfl, trivial⟩
        · refine Tq.br (fun c13 => ?_) (fun c14 => ?_)
          · exact Tq.some ⟨rfl, trivial⟩
          · refine Tq.br (fun c15 => ?_) (fun c16 => ?_)
            · exact Tq.some ⟨rfl, trivial⟩
            · refine Tq.br (fun c17 => ?_) (fun c18 => ?_)
              · exact Tq.some ⟨rfl, trivial⟩
              · refine Tq.br (fun c19 => ?_) (fun c20 => ?_)
                · exact Tq.some ⟨rfl, trivial⟩
                · refine Tq.cro (zfX4_isOfTwo w ) fun y1 f21 => ?_
                  refine Tq.br (fun c22 => ?_) (fun c23 => ?_)
                  · refine Tq.cro (zfX4_isBranch w ) fun y3 f24 => ?_
                    refine Tq.br (fun c25 => ?_) (fun c26 => ?_)
                    · exact Tq.some ⟨rfl, trivial⟩
                    · exact Tq.some ⟨rfl, trivial⟩
                  · exact Tq.some ⟨rfl, trivial⟩
theorem zfX4_gives {g : hs_S} {v0 : Int32} (w : WT g)  : Tq (fX4_gives v0 g) (Zr g tt) := by
  unfold fX4_gives
  refine Tq.br (fun c3 => ?_) (fun c4 => ?_)
  · exact Tq.some ⟨rfl, trivial⟩
  · refine Tq.br (fun c5 => ?_) (fun c6 => ?_)
    · exact Tq.some ⟨rfl, trivial⟩
    · refine Tq.br (fun c7 => ?_) (fun c8 => ?_)
      · exact Tq.some ⟨rfl, trivial⟩
      · refine Tq.br (fun c9 => ?_) (fun c10 => ?_)
        · exact Tq.some ⟨rfl, trivial⟩
        · refine Tq.br (fun c11 => ?_) (fun c12 => ?_)
          · exact Tq.some ⟨rfl, trivial⟩
          · refine Tq.br (fun c13 => ?_) (fun c14 => ?_)
            · exact Tq.some ⟨rfl, trivial⟩
            · refine Tq.br (fun c15 => ?_) (fun c16 => ?_)
              · exact Tq.some ⟨rfl, trivial⟩
              · refine Tq.br (fun c17 => ?_) (fun c18 => ?_)
                · exact Tq.some ⟨rfl, trivial⟩
                · refine Tq.cro (zfX4_isOfTwo w ) fun y1 f19 => ?_
                  refine Tq.br (fun c20 => ?_) (fun c21 => ?_)
                  · exact Tq.some ⟨rfl, trivial⟩
                  · exact Tq.some ⟨rfl, trivial⟩
theorem zfX1_reach {s : Nat} {b : Bool} {g : hs_S} {v0 : Nat} {v1 : Int32} {v2 : Int32} (w : WT g) (k_v0 : gm_k v0 = 1) : Tq (fX1_reach v0 v1 v2 g) (Zs s b g tt) := by
  unfold fX1_reach
  refine Tq.ck (w.k k_v0) ?_
  refine Tq.ck (w.f1_0 k_v0).1 ?_
  refine Tq.cro (zfX9_at w (w.f1_0 k_v0).2.1) fun y1 f4 => ?_
  refine Tq.br (fun c5 => ?_) (fun c6 => ?_)
  · refine Tq.ck (w.k k_v0) ?_
    refine Tq.ck (w.f1_0 k_v0).1 ?_
    refine Tq.csv (zfX9_put (s := s) (b := b) w (w.f1_0 k_v0).2) fun g3 w7 u8 => ?_
    refine Tq.ck (w7.k k_v0) ?_
    exact Tq.some ⟨⟨(w7.w (oW.k k_v0 (by decide) (by decide) (by decide) : oW s b _ _ _)), ((cU.rf.trans u8).w (oW.k k_v0 (by decide) (by decide) (by decide)))⟩, trivial⟩
  · refine Tq.br (fun c9 => ?_) (fun c10 => ?_)
    · exact Tq.some ⟨⟨w, cU.rf⟩, trivial⟩
    · exact Tq.some ⟨⟨w, cU.rf⟩, trivial⟩
theorem zfX1_goOn {s : Nat} {b : Bool} {g : hs_S} {v0 : Nat} {v1 : Nat} {v2 : Nat} {v3 : Int32} (w : WT g) (k_v0 : gm_k v0 = 1) (k_v1 : gm_k v1 = 0) (k_v2 : gm_k v2 = 6) : Tq (fX1_goOn v0 v1 v2 v3 g) (Zs s b g tt) := by
  unfold fX1_goOn jX1_goOn_35 jX1_goOn_99 jX1_goOn_129 jX1_goOn_146 jX1_goOn_171 jX1_goOn_185
  refine Tq.ck (w.k k_v0) ?_
  refine Tq.ck (w.f1_1 k_v0).1 ?_
  refine Tq.csv (zfX9_put (s := s) (b := b) w (w.f1_1 k_v0).2) fun g1 w142 u143 => ?_
  refine Tq.ck (w142.k k_v2) ?_
  refine Tq.cro (zfX7_valueAt w142 k_v2) fun y2 f144 => ?_
  refine Tq.br (fun c145 => ?_) (fun c146 => ?_)
  · refine Tq.ck (w142.k k_v2) ?_
    refine Tq.cro (zfX7_valueAt w142 k_v2) fun y4 f147 => ?_
    refine Tq.cro (zfX4_takes w142 ) fun y6 f148 => ?_
    refine Tq.ck (w142.k k_v1) ?_
    refine Tq.cro (zfX0_method w142 k_v1) fun y8 f149 => ?_
    refine Tq.ck (w142.k f149) ?_
    refine Tq.ck (w142.k k_v0) ?_
    refine Tq.ck (w142.f1_0 k_v0).1 ?_
    refine Tq.cro (zfX9_at w142 (w142.f1_0 k_v0).2.1) fun y10 f150 => ?_
    refine Tq.cro (zfX4_gives w142 ) fun y12 f151 => ?_
    refine Tq.ck (w142.k k_v2) ?_
    refine Tq.cro (zfX7_sizeAt w142 k_v2) fun y14 f152 => ?_
    refine Tq.cro (zfX4_endsWay w142 ) fun y16 f153 => ?_
    refine Tq.br (fun c154 => ?_) (fun c155 => ?_)
    · refine Tq.br (fun c156 => ?_) (fun c157 => ?_)
      · exact Tq.some ⟨⟨w142, (cU.rf.trans u143)⟩, trivial⟩
      · refine Tq.br (fun c158 => ?_) (fun c159 => ?_)
        · exact Tq.some ⟨⟨w142, (cU.rf.trans u143)⟩, trivial⟩
        · refine Tq.br (fun c160 => ?_) (fun c161 => ?_)
          · refine Tq.br (fun c162 => ?_) (fun c163 => ?_)
            · refine Tq.cro (zfX4_isJump w142 ) fun y20 f164 => ?_
              refine Tq.br (fun c165 => ?_) (fun c166 => ?_)
              · refine Tq.br (fun c167 => ?_) (fun c168 => ?_)
                · refine Tq.br (fun c169 => ?_) (fun c170 => ?_)
                  · exact Tq.some ⟨⟨w142, (cU.rf.trans u143)⟩, trivial⟩
                  · exact Tq.some ⟨⟨w142, (cU.rf.trans u143)⟩, trivial⟩
                · refine Tq.br (fun c171 => ?_) (fun c172 => ?_)
                  · refine Tq.br (fun c173 => ?_) (fun c174 => ?_)
                    · exact Tq.some ⟨⟨w142, (cU.rf.trans u143)⟩, trivial⟩
                    · exact Tq.some ⟨⟨w142, (cU.rf.trans u143)⟩, trivial⟩
                  · exact Tq.some ⟨⟨w142, (cU.rf.trans u143)⟩, trivial⟩
              · refine Tq.ck (w142.k k_v2) ?_
                refine Tq.cro (zfX7_targetOf w142 k_v2) fun y22 f175 => ?_
                refine Tq.ck (w142.k k_v0) ?_
                refine Tq.cst (zfX1_reach (s := s) (b := b) w142 k_v0) fun y24 g25 w176 u177 f178 => ?_
                refine Tq.br (fun c179 => ?_) (fun c180 => ?_)
                · refine Tq.br (fun c181 => ?_) (fun c182 => ?_)
                  · exact Tq.some ⟨⟨w176, ((cU.rf.trans u143).trans u177)⟩, trivial⟩
                  · exact Tq.some ⟨⟨w176, ((cU.rf.trans u143).trans u177)⟩, trivial⟩
                · refine Tq.br (fun c183 => ?_) (fun c184 => ?_)
                  · refine Tq.br (fun c185 => ?_) (fun c186 => ?_)
                    · exact Tq.some ⟨⟨w176, ((cU.rf.trans u143).trans u177)⟩, trivial⟩
                    · exact Tq.some ⟨⟨w176, ((cU.rf.trans u143).trans u177)⟩, trivial⟩
                  · exact Tq.some ⟨⟨w176, ((cU.rf.trans u143).trans u177)⟩, trivial⟩
            · refine Tq.ck (w142.k k_v0) ?_
              refine Tq.cst (zfX1_reach (s := s) (b := b) w142 k_v0) fun y18 g19 w187 u188 f189 => ?_
              refine Tq.cro (zfX4_isJump w187 ) fun y26 f190 => ?_
              refine Tq.br (fun c191 => ?_) (fun c192 => ?_)
              · refine Tq.br (fun c193 => ?_) (fun c194 => ?_)
                · refine Tq.br (fun c195 => ?_) (fun c196 => ?_)
                  · exact Tq.some ⟨⟨w187, ((cU.rf.trans u143).trans u188)⟩, trivial⟩
                  · exact Tq.some ⟨⟨w187, ((cU.rf.trans u143).trans u188)⟩, trivial⟩
                · refine Tq.br (fun c197 => ?_) (fun c198 => ?_)
                  · refine Tq.br (fun c199 => ?_) (fun c200 => ?_)
                    · exact Tq.some ⟨⟨w187, ((cU.rf.trans u143).trans u188)⟩, trivial⟩
                    · exact Tq.some ⟨⟨w187, ((cU.rf.trans u143).trans u188)⟩, trivial⟩
                  · exact Tq.some ⟨⟨w187, ((cU.rf.trans u143).trans u188)⟩, trivial⟩
              · refine Tq.ck (w187.k k_v2) ?_
                refine Tq.cro (zfX7_targetOf w187 k_v2) fun y28 f201 => ?_
                refine Tq.ck (w187.k k_v0) ?_
                refine Tq.cst (zfX1_reach (s := s) (b := b) w187 k_v0) fun y30 g31 w202 u203 f204 => ?_
                refine Tq.br (fun c205 => ?_) (fun c206 => ?_)
                · refine Tq.br (fun c207 => ?_) (fun c208 => ?_)
                  · exact Tq.some ⟨⟨w202, (((cU.rf.trans u143).trans u188).trans u203)⟩, trivial⟩
                  · exact Tq.some ⟨⟨w202, (((cU.rf.trans u143).trans u188).trans u203)⟩, trivial⟩
                · refine Tq.br (fun c209 => ?_) (fun c210 => ?_)
                  · refine Tq.br (fun c211 => ?_) (fun c212 => ?_)
                    · exact Tq.some ⟨⟨w202, (((cU.rf.trans u143).trans u188).trans u203)⟩, trivial⟩
                    · exact Tq.some ⟨⟨w202, (((cU.rf.trans u143).trans u188).trans u203)⟩, trivial⟩
                  · exact Tq.some ⟨⟨w202, (((cU.rf.trans u143).trans u188).trans u203)⟩, trivial⟩
          · refine Tq.ck (w142.k k_v2) ?_
            refine Tq.br (fun c213 => ?_) (fun c214 => ?_)
            · refine Tq.br (fun c215 => ?_) (fun c216 => ?_)
              · refine Tq.cro (zfX4_isJump w142 ) fun y34 f217 => ?_
                refine Tq.br (fun c218 => ?_) (fun c219 => ?_)
                · refine Tq.br (fun c220 => ?_) (fun c221 => ?_)
                  · refine Tq.br (fun c222 => ?_) (fun c223 => ?_)
                    · exact Tq.some ⟨⟨w142, (cU.rf.trans u143)⟩, trivial⟩
                    · exact Tq.some ⟨⟨w142, (cU.rf.trans u143)⟩, trivial⟩
                  · refine Tq.br (fun c224 => ?_) (fun c225 => ?_)
                    · refine Tq.br (fun c226 => ?_) (fun c227 => ?_)
                      · exact Tq.some ⟨⟨w142, (cU.rf.trans u143)⟩, trivial⟩
                      · exact Tq.some ⟨⟨w142, (cU.rf.trans u143)⟩, trivial⟩
                    · exact Tq.some ⟨⟨w142, (cU.rf.trans u143)⟩, trivial⟩
                · refine Tq.ck (w142.k k_v2) ?_
                  refine Tq.cro (zfX7_targetOf w142 k_v2) fun y36 f228 => ?_
                  refine Tq.ck (w142.k k_v0) ?_
                  refine Tq.cst (zfX1_reach (s := s) (b := b) w142 k_v0) fun y38 g39 w229 u230 f231 => ?_
                  refine Tq.br (fun c232 => ?_) (fun c233 => ?_)
                  · refine Tq.br (fun c234 => ?_) (fun c235 => ?_)
                    · exact Tq.some ⟨⟨w229, ((cU.rf.trans u143).trans u230)⟩, trivial⟩
                    · exact Tq.some ⟨⟨w229, ((cU.rf.trans u143).trans u230)⟩, trivial⟩
                  · refine Tq.br (fun c236 => ?_) (fun c237 => ?_)
                    · refine Tq.br (fun c238 => ?_) (fun c239 => ?_)
                      · exact Tq.some ⟨⟨w229, ((cU.rf.trans u143).trans u230)⟩, trivial⟩
                      · exact Tq.some ⟨⟨w229, ((cU.rf.trans u143).trans u230)⟩, trivial⟩
                    · exact Tq.some ⟨⟨w229, ((cU.rf.trans u143).trans u230)⟩, trivial⟩
              · refine Tq.ck (w142.k k_v0) ?_
                refine Tq.cst (zfX1_reach (s := s) (b := b) w142 k_v0) fun y32 g33 w240 u241 f242 => ?_
                refine Tq.cro (zfX4_isJump w240 ) fun y40 f243 => ?_
                refine Tq.br (fun c244 => ?_) (fun c245 => ?_)
                · refine Tq.br (fun c246 => ?_) (fun c247 => ?_)
                  · refine Tq.br (fun c248 => ?_) (fun c249 => ?_)
                    · exact Tq.some ⟨⟨w240, ((cU.rf.trans u143).trans u241)⟩, trivial⟩
                    · exact Tq.some ⟨⟨w240, ((cU.rf.trans u143).trans u241)⟩, trivial⟩
                  · refine Tq.br (fun c250 => ?_) (fun c251 => ?_)
                    · refine Tq.br (fun c252 => ?_) (fun c253 => ?_)
                      · exact Tq.some ⟨⟨w240, ((cU.rf.trans u143).trans u241)⟩, trivial⟩
                      · exact Tq.some ⟨⟨w240, ((cU.rf.trans u143).trans u241)⟩, trivial⟩
                    · exact Tq.some ⟨⟨w240, ((cU.rf.trans u143).trans u241)⟩, trivial⟩
                · refine Tq.ck (w240.k k_v2) ?_
                  refine Tq.cro (zfX7_targetOf w240 k_v2) fun y42 f254 => ?_
                  refine Tq.ck (w240.k k_v0) ?_
                  refine Tq.cst (zfX1_reach (s := s) (b := b) w240 k_v0) fun y44 g45 w255 u256 f257 => ?_
                  refine Tq.br (fun c258 => ?_) (fun c259 => ?_)
                  · refine Tq.br (fun c260 => ?_) (fun c261 => ?_)
                    · exact Tq.some ⟨⟨w255, (((cU.rf.trans u143).trans u241).trans u256)⟩, trivial⟩
                    · exact Tq.some ⟨⟨w255, (((cU.rf.trans u143).trans u241).trans u256)⟩, trivial⟩
                  · refine Tq.br (fun c262 => ?_) (fun c263 => ?_)
                    · refine Tq.br (fun c264 => ?_) (fun c265 => ?_)
                      · exact Tq.some ⟨⟨w255, (((cU.rf.trans u143).trans u241).trans u256)⟩, trivial⟩
                      · exact Tq.some ⟨⟨w255, (((cU.rf.trans u143).trans u241).trans u256)⟩, trivial⟩
                    · exact Tq.some ⟨⟨w255, (((cU.rf.trans u143).trans u241).trans u256)⟩, trivial⟩
            · exact Tq.some ⟨⟨w142, (cU.rf.trans u143)⟩, trivial⟩
    · refine Tq.br (fun c266 => ?_) (fun c267 => ?_)
      · exact Tq.some ⟨⟨w142, (cU.rf.trans u143)⟩, trivial⟩
      · refine Tq.br (fun c268 => ?_) (fun c269 => ?_)
        · exact Tq.some ⟨⟨w142, (cU.rf.trans u143)⟩, trivial⟩
        · refine Tq.br (fun c270 => ?_) (fun c271 => ?_)
          · refine Tq.br (fun c272 => ?_) (fun c273 => ?_)
            · refine Tq.cro (zfX4_isJump w142 ) fun y48 f274 => ?_
              refine Tq.br (fun c275 => ?_) (fun c276 => ?_)
              · refine Tq.br (fun c277 => ?_) (fun c278 => ?_)
                · refine Tq.br (fun c279 => ?_) (fun c280 => ?_)
                  · exact Tq.some ⟨⟨w142, (cU.rf.trans u143)⟩, trivial⟩
                  · exact Tq.some ⟨⟨w142, (cU.rf.trans u143)⟩, trivial⟩
                · refine Tq.br (fun c281 => ?_) (fun c282 => ?_)
                  · refine Tq.br (fun c283 => ?_) (fun c284 => ?_)
                    · exact Tq.some ⟨⟨w142, (cU.rf.trans u143)⟩, trivial⟩
                    · exact Tq.some ⟨⟨w142, (cU.rf.trans u143)⟩, trivial⟩
                  · exact Tq.some ⟨⟨w142, (cU.rf.trans u143)⟩, trivial⟩
              · refine Tq.ck (w142.k k_v2) ?_
                refine Tq.cro (zfX7_targetOf w142 k_v2) fun y50 f285 => ?_
                refine Tq.ck (w142.k k_v0) ?_
                refine Tq.cst (zfX1_reach (s := s) (b := b) w142 k_v0) fun y52 g53 w286 u287 f288 => ?_
                refine Tq.br (fun c289 => ?_) (fun c290 => ?_)
                · refine Tq.br (fun c291 => ?_) (fun c292 => ?_)
                  · exact Tq.some ⟨⟨w286, ((cU.rf.trans u143).trans u287)⟩, trivial⟩
                  · exact Tq.some ⟨⟨w286, ((cU.rf.trans u143).trans u287)⟩, trivial⟩
                · refine Tq.br (fun c293 => ?_) (fun c294 => ?_)
                  · refine Tq.br (fun c295 => ?_) (fun c296 => ?_)
                    · exact Tq.some ⟨⟨w286, ((cU.rf.trans u143).trans u287)⟩, trivial⟩
                    · exact Tq.some ⟨⟨w286, ((cU.rf.trans u143).trans u287)⟩, trivial⟩
                  · exact Tq.some ⟨⟨w286, ((cU.rf.trans u143).trans u287)⟩, trivial⟩
            · refine Tq.ck (w142.k k_v0) ?_
              refine Tq.cst (zfX1_reach (s := s) (b := b) w142 k_v0) fun y46 g47 w297 u298 f299 => ?_
              refine Tq.cro (zfX4_isJump w297 ) fun y54 f300 => ?_
              refine Tq.br (fun c301 => ?_) (fun c302 => ?_)
              · refine Tq.br (fun c303 => ?_) (fun c304 => ?_)
                · refine Tq.br (fun c305 => ?_) (fun c306 => ?_)
                  · exact Tq.some ⟨⟨w297, ((cU.rf.trans u143).trans u298)⟩, trivial⟩
                  · exact Tq.some ⟨⟨w297, ((cU.rf.trans u143).trans u298)⟩, trivial⟩
                · refine Tq.br (fun c307 => ?_) (fun c308 => ?_)
                  · refine Tq.br (fun c309 => ?_) (fun c310 => ?_)
                    · exact Tq.some ⟨⟨w297, ((cU.rf.trans u143).trans u298)⟩, trivial⟩
                    · exact Tq.some ⟨⟨w297, ((cU.rf.trans u143).trans u298)⟩, trivial⟩
                  · exact Tq.some ⟨⟨w297, ((cU.rf.trans u143).trans u298)⟩, trivial⟩
              · refine Tq.ck (w297.k k_v2) ?_
                refine Tq.cro (zfX7_targetOf w297 k_v2) fun y56 f311 => ?_
                refine Tq.ck (w297.k k_v0) ?_
                refine Tq.cst (zfX1_reach (s := s) (b := b) w297 k_v0) fun y58 g59 w312 u313 f314 => ?_
                refine Tq.br (fun c315 => ?_) (fun c316 => ?_)
                · refine Tq.br (fun c317 => ?_) (fun c318 => ?_)
                  · exact Tq.some ⟨⟨w312, (((cU.rf.trans u143).trans u298).trans u313)⟩, trivial⟩
                  · exact Tq.some ⟨⟨w312, (((cU.rf.trans u143).trans u298).trans u313)⟩, trivial⟩
                · refine Tq.br (fun c319 => ?_) (fun c320 => ?_)
                  · refine Tq.br (fun c321 => ?_) (fun c322 => ?_)
                    · exact Tq.some ⟨⟨w312, (((cU.rf.trans u143).trans u298).trans u313)⟩, trivial⟩
                    · exact Tq.some ⟨⟨w312, (((cU.rf.trans u143).trans u298).trans u313)⟩, trivial⟩
                  · exact Tq.some ⟨⟨w312, (((cU.rf.trans u143).trans u298).trans u313)⟩, trivial⟩
          · refine Tq.ck (w142.k k_v2) ?_
            refine Tq.br (fun c323 => ?_) (fun c324 => ?_)
            · refine Tq.br (fun c325 => ?_) (fun c326 => ?_)
              · refine Tq.cro (zfX4_isJump w142 ) fun y62 f327 => ?_
                refine Tq.br (fun c328 => ?_) (fun c329 => ?_)
                · refine Tq.br (fun c330 => ?_) (fun c331 => ?_)
                  · refine Tq.br (fun c332 => ?_) (fun c333 => ?_)
                    · exact Tq.some ⟨⟨w142, (cU.rf.trans u143)⟩, trivial⟩
                    · exact Tq.some ⟨⟨w142, (cU.rf.trans u143)⟩, trivial⟩
                  · refine Tq.br (fun c334 => ?_) (fun c335 => ?_)
                    · refine Tq.br (fun c336 => ?_) (fun c337 => ?_)
                      · exact Tq.some ⟨⟨w142, (cU.rf.trans u143)⟩, trivial⟩
                      · exact Tq.some ⟨⟨w142, (cU.rf.trans u143)⟩, trivial⟩
                    · exact Tq.some ⟨⟨w142, (cU.rf.trans u143)⟩, trivial⟩
                · refine Tq.ck (w142.k k_v2) ?_
                  refine Tq.cro (zfX7_targetOf w142 k_v2) fun y64 f338 => ?_
                  refine Tq.ck (w142.k k_v0) ?_
                  refine Tq.cst (zfX1_reach (s := s) (b := b) w142 k_v0) fun y66 g67 w339 u340 f341 => ?_
                  refine Tq.br (fun c342 => ?_) (fun c343 => ?_)
                  · refine Tq.br (fun c344 => ?_) (fun c345 => ?_)
                    · exact Tq.some ⟨⟨w339, ((cU.rf.trans u143).trans u340)⟩, trivial⟩
                    · exact Tq.some ⟨⟨w339, ((cU.rf.trans u143).trans u340)⟩, trivial⟩
                  · refine Tq.br (fun c346 => ?_) (fun c347 => ?_)
                    · refine Tq.br (fun c348 => ?_) (fun c349 => ?_)
                      · exact Tq.some ⟨⟨w339, ((cU.rf.trans u143).trans u340)⟩, trivial⟩
                      · exact Tq.some ⟨⟨w339, ((cU.rf.trans u143).trans u340)⟩, trivial⟩
                    · exact Tq.some ⟨⟨w339, ((cU.rf.trans u143).trans u340)⟩, trivial⟩
              · refine Tq.ck (w142.k k_v0) ?_
                refine Tq.cst (zfX1_reach (s := s) (b := b) w142 k_v0) fun y60 g61 w350 u351 f352 => ?_
                refine Tq.cro (zfX4_isJump w350 ) fun y68 f353 => ?_
                refine Tq.br (fun c354 => ?_) (fun c355 => ?_)
                · refine Tq.br (fun c356 => ?_) (fun c357 => ?_)
                  · refine Tq.br (fun c358 => ?_) (fun c359 => ?_)
                    · exact Tq.some ⟨⟨w350, ((cU.rf.trans u143).trans u351)⟩, trivial⟩
                    · exact Tq.some ⟨⟨w350, ((cU.rf.trans u143).trans u351)⟩, trivial⟩
                  · refine Tq.br (fun c360 => ?_) (fun c361 => ?_)
                    · refine Tq.br (fun c362 => ?_) (fun c363 => ?_)
                      · exact Tq.some ⟨⟨w350, ((cU.rf.trans u143).trans u351)⟩, trivial⟩
                      · exact Tq.some ⟨⟨w350, ((cU.rf.trans u143).trans u351)⟩, trivial⟩
                    · exact Tq.some ⟨⟨w350, ((cU.rf.trans u143).trans u351)⟩, trivial⟩
                · refine Tq.ck (w350.k k_v2) ?_
                  refine Tq.cro (zfX7_targetOf w350 k_v2) fun y70 f364 => ?_
                  refine Tq.ck (w350.k k_v0) ?_
                  refine Tq.cst (zfX1_reach (s := s) (b := b) w350 k_v0) fun y72 g73 w365 u366 f367 => ?_
                  refine Tq.br (fun c368 => ?_) (fun c369 => ?_)
                  · refine Tq.br (fun c370 => ?_) (fun c371 => ?_)
                    · exact Tq.some ⟨⟨w365, (((cU.rf.trans u143).trans u351).trans u366)⟩, trivial⟩
                    · exact Tq.some ⟨⟨w365, (((cU.rf.trans u143).trans u351).trans u366)⟩, trivial⟩
                  · refine Tq.br (fun c372 => ?_) (fun c373 => ?_)
                    · refine Tq.br (fun c374 => ?_) (fun c375 => ?_)
                      · exact Tq.some ⟨⟨w365, (((cU.rf.trans u143).trans u351).trans u366)⟩, trivial⟩
                      · exact Tq.some ⟨⟨w365, (((cU.rf.trans u143).trans u351).trans u366)⟩, trivial⟩
                    · exact Tq.some ⟨⟨w365, (((cU.rf.trans u143).trans u351).trans u366)⟩, trivial⟩
            · exact Tq.some ⟨⟨w142, (cU.rf.trans u143)⟩, trivial⟩
  · refine Tq.cro (zfX4_takes w142 ) fun y74 f376 => ?_
    refine Tq.ck (w142.k k_v1) ?_
    refine Tq.cro (zfX0_method w142 k_v1) fun y76 f377 => ?_
    refine Tq.ck (w142.k f377) ?_
    refine Tq.ck (w142.k k_v0) ?_
    refine Tq.ck (w142.f1_0 k_v0).1 ?_
    refine Tq.cro (zfX9_at w142 (w142.f1_0 k_v0).2.1) fun y78 f378 => ?_
    refine Tq.cro (zfX4_gives w142 ) fun y80 f379 => ?_
    refine Tq.ck (w142.k k_v2) ?_
    refine Tq.cro (zfX7_sizeAt w142 k_v2) fun y82 f380 => ?_
    refine Tq.cro (zfX4_endsWay w142 ) fun y84 f381 => ?_
    refine Tq.br (fun c382 => ?_) (fun c383 => ?_)
    · refine Tq.br (fun c384 => ?_) (fun c385 => ?_)
      · exact Tq.some ⟨⟨w142, (cU.rf.trans u143)⟩, trivial⟩
      · refine Tq.br (fun c386 => ?_) (fun c387 => ?_)
        · exact Tq.some ⟨⟨w142, (cU.rf.trans u143)⟩, trivial⟩
        · refine Tq.br (fun c388 => ?_) (fun c389 => ?_)
          · refine Tq.br (fun c390 => ?_) (fun c391 => ?_)
            · refine Tq.cro (zfX4_isJump w142 ) fun y88 f392 => ?_
              refine Tq.br (fun c393 => ?_) (fun c394 => ?_)
              · refine Tq.br (fun c395 => ?_) (fun c396 => ?_)
                · refine Tq.br (fun c397 => ?_) (fun c398 => ?_)
                  · exact Tq.some ⟨⟨w142, (cU.rf.trans u143)⟩, trivial⟩
                  · exact Tq.some ⟨⟨w142, (cU.rf.trans u143)⟩, trivial⟩
                · refine Tq.br (fun c399 => ?_) (fun c400 => ?_)
                  · refine Tq.br (fun c401 => ?_) (fun c402 => ?_)
                    · exact Tq.some ⟨⟨w142, (cU.rf.trans u143)⟩, trivial⟩
                    · exact Tq.some ⟨⟨w142, (cU.rf.trans u143)⟩, trivial⟩
                  · exact Tq.some ⟨⟨w142, (cU.rf.trans u143)⟩, trivial⟩
              · refine Tq.ck (w142.k k_v2) ?_
                refine Tq.cro (zfX7_targetOf w142 k_v2) fun y90 f403 => ?_
                refine Tq.ck (w142.k k_v0) ?_
                refine Tq.cst (zfX1_reach (s := s) (b := b) w142 k_v0) fun y92 g93 w404 u405 f406 => ?_
                refine Tq.br (fun c407 => ?_) (fun c408 => ?_)
                · refine Tq.br (fun c409 => ?_) (fun c410 => ?_)
                  · exact Tq.some ⟨⟨w404, ((cU.rf.trans u143).trans u405)⟩, trivial⟩
                  · exact Tq.some ⟨⟨w404, ((cU.rf.trans u143).trans u405)⟩, trivial⟩
                · refine Tq.br (fun c411 => ?_) (fun c412 => ?_)
                  · refine Tq.br (fun c413 => ?_) (fun c414 => ?_)
                    · exact Tq.some ⟨⟨w404, ((cU.rf.trans u143).trans u405)⟩, trivial⟩
                    · exact Tq.some ⟨⟨w404, ((cU.rf.trans u143).trans u405)⟩, trivial⟩
                  · exact Tq.some ⟨⟨w404, ((cU.rf.trans u143).trans u405)⟩, trivial⟩
            · refine Tq.ck (w142.k k_v0) ?_
              refine Tq.cst (zfX1_reach (s := s) (b := b) w142 k_v0) fun y86 g87 w415 u416 f417 => ?_
              refine Tq.cro (zfX4_isJump w415 ) fun y94 f418 => ?_
              refine Tq.br (fun c419 => ?_) (fun c420 => ?_)
              · refine Tq.br (fun c421 => ?_) (fun c422 => ?_)
                · refine Tq.br (fun c423 => ?_) (fun c424 => ?_)
                  · exact Tq.some ⟨⟨w415, ((cU.rf.trans u143).trans u416)⟩, trivial⟩
                  · exact Tq.some ⟨⟨w415, ((cU.rf.trans u143).trans u416)⟩, trivial⟩
                · refine Tq.br (fun c425 => ?_) (fun c426 => ?_)
                  · refine Tq.br (fun c427 => ?_) (fun c428 => ?_)
                    · exact Tq.some ⟨⟨w415, ((cU.rf.trans u143).trans u416)⟩, trivial⟩
                    · exact Tq.some ⟨⟨w415, ((cU.rf.trans u143).trans u416)⟩, trivial⟩
                  · exact Tq.some ⟨⟨w415, ((cU.rf.trans u143).trans u416)⟩, trivial⟩
              · refine Tq.ck (w415.k k_v2) ?_
                refine Tq.cro (zfX7_targetOf w415 k_v2) fun y96 f429 => ?_
                refine Tq.ck (w415.k k_v0) ?_
                refine Tq.cst (zfX1_reach (s := s) (b := b) w415 k_v0) fun y98 g99 w430 u431 f432 => ?_
                refine Tq.br (fun c433 => ?_) (fun c434 => ?_)
                · refine Tq.br (fun c435 => ?_) (fun c436 => ?_)
                  · exact Tq.some ⟨⟨w430, (((cU.rf.trans u143).trans u416).trans u431)⟩, trivial⟩
                  · exact Tq.some ⟨⟨w430, (((cU.rf.trans u143).trans u416).trans u431)⟩, trivial⟩
                · refine Tq.br (fun c437 => ?_) (fun c438 => ?_)
                  · refine Tq.br (fun c439 => ?_) (fun c440 => ?_)
                    · exact Tq.some ⟨⟨w430, (((cU.rf.trans u143).trans u416).trans u431)⟩, trivial⟩
                    · exact Tq.some ⟨⟨w430, (((cU.rf.trans u143).trans u416).trans u431)⟩, trivial⟩
                  · exact Tq.some ⟨⟨w430, (((cU.rf.trans u143).trans u416).trans u431)⟩, trivial⟩
          · refine Tq.ck (w142.k k_v2) ?_
            refine Tq.br (fun c441 => ?_) (fun c442 => ?_)
            · refine Tq.br (fun c443 => ?_) (fun c444 => ?_)
              · refine Tq.cro (zfX4_isJump w142 ) fun y102 f445 => ?_
                refine Tq.br (fun c446 => ?_) (fun c447 => ?_)
                · refine Tq.br (fun c448 => ?_) (fun c449 => ?_)
                  · refine Tq.br (fun c450 => ?_) (fun c451 => ?_)
                    · exact Tq.some ⟨⟨w142, (cU.rf.trans u143)⟩, trivial⟩
                    · exact Tq.some ⟨⟨w142, (cU.rf.trans u143)⟩, trivial⟩
                  · refine Tq.br (fun c452 => ?_) (fun c453 => ?_)
                    · refine Tq.br (fun c454 => ?_) (fun c455 => ?_)
                      · exact Tq.some ⟨⟨w142, (cU.rf.trans u143)⟩, trivial⟩
                      · exact Tq.some ⟨⟨w142, (cU.rf.trans u143)⟩, trivial⟩
                    · exact Tq.some ⟨⟨w142, (cU.rf.trans u143)⟩, trivial⟩
                · refine Tq.ck (w142.k k_v2) ?_
                  refine Tq.cro (zfX7_targetOf w142 k_v2) fun y104 f456 => ?_
                  refine Tq.ck (w142.k k_v0) ?_
                  refine Tq.cst (zfX1_reach (s := s) (b := b) w142 k_v0) fun y106 g107 w457 u458 f459 => ?_
                  refine Tq.br (fun c460 => ?_) (fun c461 => ?_)
                  · refine Tq.br (fun c462 => ?_) (fun c463 => ?_)
                    · exact Tq.some ⟨⟨w457, ((cU.rf.trans u143).trans u458)⟩, trivial⟩
                    · exact Tq.some ⟨⟨w457, ((cU.rf.trans u143).trans u458)⟩, trivial⟩
                  · refine Tq.br (fun c464 => ?_) (fun c465 => ?_)
                    · refine Tq.br (fun c466 => ?_) (fun c467 => ?_)
                      · exact Tq.some ⟨⟨w457, ((cU.rf.trans u143).trans u458)⟩, trivial⟩
                      · exact Tq.some ⟨⟨w457, ((cU.rf.trans u143).trans u458)⟩, trivial⟩
                    · exact Tq.some ⟨⟨w457, ((cU.rf.trans u143).trans u458)⟩, trivial⟩
              · refine Tq.ck (w142.k k_v0) ?_
                refine Tq.cst (zfX1_reach (s := s) (b := b) w142 k_v0) fun y100 g101 w468 u469 f470 => ?_
                refine Tq.cro (zfX4_isJump w468 ) fun y108 f471 => ?_
                refine Tq.br (fun c472 => ?_) (fun c473 => ?_)
                · refine Tq.br (fun c474 => ?_) (fun c475 => ?_)
                  · refine Tq.br (fun c476 => ?_) (fun c477 => ?_)
                    · exact Tq.some ⟨⟨w468, ((cU.rf.trans u143).trans u469)⟩, trivial⟩
                    · exact Tq.some ⟨⟨w468, ((cU.rf.trans u143).trans u469)⟩, trivial⟩
                  · refine Tq.br (fun c478 => ?_) (fun c479 => ?_)
                    · refine Tq.br (fun c480 => ?_) (fun c481 => ?_)
                      · exact Tq.some ⟨⟨w468, ((cU.rf.trans u143).trans u469)⟩, trivial⟩
                      · exact Tq.some ⟨⟨w468, ((cU.rf.trans u143).trans u469)⟩, trivial⟩
                    · exact Tq.some ⟨⟨w468, ((cU.rf.trans u143).trans u469)⟩, trivial⟩
                · refine Tq.ck (w468.k k_v2) ?_
                  refine Tq.cro (zfX7_targetOf w468 k_v2) fun y110 f482 => ?_
                  refine Tq.ck (w468.k k_v0) ?_
                  refine Tq.cst (zfX1_reach (s := s) (b := b) w468 k_v0) fun y112 g113 w483 u484 f485 => ?_
                  refine Tq.br (fun c486 => ?_) (fun c487 => ?_)
                  · refine Tq.br (fun c488 => ?_) (fun c489 => ?_)
                    · exact Tq.some ⟨⟨w483, (((cU.rf.trans u143).trans u469).trans u484)⟩, trivial⟩
                    · exact Tq.some ⟨⟨w483, (((cU.rf.trans u143).trans u469).trans u484)⟩, trivial⟩
                  · refine Tq.br (fun c490 => ?_) (fun c491 => ?_)
                    · refine Tq.br (fun c492 => ?_) (fun c493 => ?_)
                      · exact Tq.some ⟨⟨w483, (((cU.rf.trans u143).trans u469).trans u484)⟩, trivial⟩
                      · exact Tq.some ⟨⟨w483, (((cU.rf.trans u143).trans u469).trans u484)⟩, trivial⟩
                    · exact Tq.some ⟨⟨w483, (((cU.rf.trans u143).trans u469).trans u484)⟩, trivial⟩
            · exact Tq.some ⟨⟨w142, (cU.rf.trans u143)⟩, trivial⟩
    · refine Tq.br (fun c494 => ?_) (fun c495 => ?_)
      · exact Tq.some ⟨⟨w142, (cU.rf.trans u143)⟩, trivial⟩
      · refine Tq.br (fun c496 => ?_) (fun c497 => ?_)
        · exact Tq.some ⟨⟨w142, (cU.rf.trans u143)⟩, trivial⟩
        · refine Tq.br (fun c498 => ?_) (fun c499 => ?_)
          · refine Tq.br (fun c500 => ?_) (fun c501 => ?_)
            · refine Tq.cro (zfX4_isJump w142 ) fun y116 f502 => ?_
              refine Tq.br (fun c503 => ?_) (fun c504 => ?_)
              · refine Tq.br (fun c505 => ?_) (fun c506 => ?_)
                · refine Tq.br (fun c507 => ?_) (fun c508 => ?_)
                  · exact Tq.some ⟨⟨w142, (cU.rf.trans u143)⟩, trivial⟩
                  · exact Tq.some ⟨⟨w142, (cU.rf.trans u143)⟩, trivial⟩
                · refine Tq.br (fun c509 => ?_) (fun c510 => ?_)
                  · refine Tq.br (fun c511 => ?_) (fun c512 => ?_)
                    · exact Tq.some ⟨⟨w142, (cU.rf.trans u143)⟩, trivial⟩
                    · exact Tq.some ⟨⟨w142, (cU.rf.trans u143)⟩, trivial⟩
                  · exact Tq.some ⟨⟨w142, (cU.rf.trans u143)⟩, trivial⟩
              · refine Tq.ck (w142.k k_v2) ?_
                refine Tq.cro (zfX7_targetOf w142 k_v2) fun y118 f513 => ?_
                refine Tq.ck (w142.k k_v0) ?_
                refine Tq.cst (zfX1_reach (s := s) (b := b) w142 k_v0) fun y120 g121 w514 u515 f516 => ?_
                refine Tq.br (fun c517 => ?_) (fun c518 => ?_)
                · refine Tq.br (fun c519 => ?_) (fun c520 => ?_)
                  · exact Tq.some ⟨⟨w514, ((cU.rf.trans u143).trans u515)⟩, trivial⟩
                  · exact Tq.some ⟨⟨w514, ((cU.rf.trans u143).trans u515)⟩, trivial⟩
                · refine Tq.br (fun c521 => ?_) (fun c522 => ?_)
                  · refine Tq.br (fun c523 => ?_) (fun c524 => ?_)
                    · exact Tq.some ⟨⟨w514, ((cU.rf.trans u143).trans u515)⟩, trivial⟩
                    · exact Tq.some ⟨⟨w514, ((cU.rf.trans u143).trans u515)⟩, trivial⟩
                  · exact Tq.some ⟨⟨w514, ((cU.rf.trans u143).trans u515)⟩, trivial⟩
            · refine Tq.ck (w142.k k_v0) ?_
              refine Tq.cst (zfX1_reach (s := s) (b := b) w142 k_v0) fun y114 g115 w525 u526 f527 => ?_
              refine Tq.cro (zfX4_isJump w525 ) fun y122 f528 => ?_
              refine Tq.br (fun c529 => ?_) (fun c530 => ?_)
              · refine Tq.br (fun c531 => ?_) (fun c532 => ?_)
                · refine Tq.br (fun c533 => ?_) (fun c534 => ?_)
                  · exact Tq.some ⟨⟨w525, ((cU.rf.trans u143).trans u526)⟩, trivial⟩
                  · exact Tq.some ⟨⟨w525, ((cU.rf.trans u143).trans u526)⟩, trivial⟩
                · refine Tq.br (fun c535 => ?_) (fun c536 => ?_)
                  · refine Tq.br (fun c537 => ?_) (fun c538 => ?_)
                    · exact Tq.some ⟨⟨w525, ((cU.rf.trans u143).trans u526)⟩, trivial⟩
                    · exact Tq.some ⟨⟨w525, ((cU.rf.trans u143).trans u526)⟩, trivial⟩
                  · exact Tq.some ⟨⟨w525, ((cU.rf.trans u143).trans u526)⟩, trivial⟩
              · refine Tq.ck (w525.k k_v2) ?_
                refine Tq.cro (zfX7_targetOf w525 k_v2) fun y124 f539 => ?_
                refine Tq.ck (w525.k k_v0) ?_
                refine Tq.cst (zfX1_reach (s := s) (b := b) w525 k_v0) fun y126 g127 w540 u541 f542 => ?_
                refine Tq.br (fun c543 => ?_) (fun c544 => ?_)
                · refine Tq.br (fun c545 => ?_) (fun c546 => ?_)
                  · exact Tq.some ⟨⟨w540, (((cU.rf.trans u143).trans u526).trans u541)⟩, trivial⟩
                  · exact Tq.some ⟨⟨w540, (((cU.rf.trans u143).trans u526).trans u541)⟩, trivial⟩
                · refine Tq.br (fun c547 => ?_) (fun c548 => ?_)
                  · refine Tq.br (fun c549 => ?_) (fun c550 => ?_)
                    · exact Tq.some ⟨⟨w540, (((cU.rf.trans u143).trans u526).trans u541)⟩, trivial⟩
                    · exact Tq.some ⟨⟨w540, (((cU.rf.trans u143).trans u526).trans u541)⟩, trivial⟩
                  · exact Tq.some ⟨⟨w540, (((cU.rf.trans u143).trans u526).trans u541)⟩, trivial⟩
          · refine Tq.ck (w142.k k_v2) ?_
            refine Tq.br (fun c551 => ?_) (fun c552 => ?_)
            · refine Tq.br (fun c553 => ?_) (fun c554 => ?_)
              · refine Tq.cro (zfX4_isJump w142 ) fun y130 f555 => ?_
                refine Tq.br (fun c556 => ?_) (fun c557 => ?_)
                · refine Tq.br (fun c558 => ?_) (fun c559 => ?_)
                  · refine Tq.br (fun c560 => ?_) (fun c561 => ?_)
                    · exact Tq.some ⟨⟨w142, (cU.rf.trans u143)⟩, trivial⟩
                    · exact Tq.some ⟨⟨w142, (cU.rf.trans u143)⟩, trivial⟩
                  · refine Tq.br (fun c562 => ?_) (fun c563 => ?_)
                    · refine Tq.br (fun c564 => ?_) (fun c565 => ?_)
                      · exact Tq.some ⟨⟨w142, (cU.rf.trans u143)⟩, trivial⟩
                      · exact Tq.some ⟨⟨w142, (cU.rf.trans u143)⟩, trivial⟩
                    · exact Tq.some ⟨⟨w142, (cU.rf.trans u143)⟩, trivial⟩
                · refine Tq.ck (w142.k k_v2) ?_
                  refine Tq.cro (zfX7_targetOf w142 k_v2) fun y132 f566 => ?_
                  refine Tq.ck (w142.k k_v0) ?_
                  refine Tq.cst (zfX1_reach (s := s) (b := b) w142 k_v0) fun y134 g135 w567 u568 f569 => ?_
                  refine Tq.br (fun c570 => ?_) (fun c571 => ?_)
                  · refine Tq.br (fun c572 => ?_) (fun c573 => ?_)
                    · exact Tq.some ⟨⟨w567, ((cU.rf.trans u143).trans u568)⟩, trivial⟩
                    · exact Tq.some ⟨⟨w567, ((cU.rf.trans u143).trans u568)⟩, trivial⟩
                  · refine Tq.br (fun c574 => ?_) (fun c575 => ?_)
                    · refine Tq.br (fun c576 => ?_) (fun c577 => ?_)
                      · exact Tq.some ⟨⟨w567, ((cU.rf.trans u143).trans u568)⟩, trivial⟩
                      · exact Tq.some ⟨⟨w567, ((cU.rf.trans u143).trans u568)⟩, trivial⟩
                    · exact Tq.some ⟨⟨w567, ((cU.rf.trans u143).trans u568)⟩, trivial⟩
              · refine Tq.ck (w142.k k_v0) ?_
                refine Tq.cst (zfX1_reach (s := s) (b := b) w142 k_v0) fun y128 g129 w578 u579 f580 => ?_
                refine Tq.cro (zfX4_isJump w578 ) fun y136 f581 => ?_
                refine Tq.br (fun c582 => ?_) (fun c583 => ?_)
                · refine Tq.br (fun c584 => ?_) (fun c585 => ?_)
                  · refine Tq.br (fun c586 => ?_) (fun c587 => ?_)
                    · exact Tq.some ⟨⟨w578, ((cU.rf.trans u143).trans u579)⟩, trivial⟩
                    · exact Tq.some ⟨⟨w578, ((cU.rf.trans u143).trans u579)⟩, trivial⟩
                  · refine Tq.br (fun c588 => ?_) (fun c589 => ?_)
                    · refine Tq.br (fun c590 => ?_) (fun c591 => ?_)
                      · exact Tq.some ⟨⟨w578, ((cU.rf.trans u143).trans u579)⟩, trivial⟩
                      · exact Tq.some ⟨⟨w578, ((cU.rf.trans u143).trans u579)⟩, trivial⟩
                    · exact Tq.some ⟨⟨w578, ((cU.rf.trans u143).trans u579)⟩, trivial⟩
                · refine Tq.ck (w578.k k_v2) ?_
                  refine Tq.cro (zfX7_targetOf w578 k_v2) fun y138 f592 => ?_
                  refine Tq.ck (w578.k k_v0) ?_
                  refine Tq.cst (zfX1_reach (s := s) (b := b) w578 k_v0) fun y140 g141 w593 u594 f595 => ?_
                  refine Tq.br (fun c596 => ?_) (fun c597 => ?_)
                  · refine Tq.br (fun c598 => ?_) (fun c599 => ?_)
                    · exact Tq.some ⟨⟨w593, (((cU.rf.trans u143).trans u579).trans u594)⟩, trivial⟩
                    · exact Tq.some ⟨⟨w593, (((cU.rf.trans u143).trans u579).trans u594)⟩, trivial⟩
                  · refine Tq.br (fun c600 => ?_) (fun c601 => ?_)
                    · refine Tq.br (fun c602 => ?_) (fun c603 => ?_)
                      · exact Tq.some ⟨⟨w593, (((cU.rf.trans u143).trans u579).trans u594)⟩, trivial⟩
                      · exact Tq.some ⟨⟨w593, (((cU.rf.trans u143).trans u579).trans u594)⟩, trivial⟩
                    · exact Tq.some ⟨⟨w593, (((cU.rf.trans u143).trans u579).trans u594)⟩, trivial⟩
            · exact Tq.some ⟨⟨w142, (cU.rf.trans u143)⟩, trivial⟩
theorem zlX1_greatest_4 : ∀ (n : Nat) (v0 : Nat) (v1 : Int32) (v2 : Int32) (g : hs_S), WT g → gm_k v0 = 1 → cm v2 ≤ n → Tq (lX1_greatest_4 n v0 v1 v2 g) (Zr g tt)
  | 0, v0, v1, v2, g, _, _, hc => absurd hc (by have := cm_pos v2; omega)
  | n + 1, v0, v1, v2, g, w, k_v0, hc => by
    rw [lX1_greatest_4]
    refine Tq.br (fun c3 => ?_) (fun c4 => ?_)
    · exact Tq.some ⟨rfl, trivial⟩
    · refine Tq.ck (w.k k_v0) ?_
      refine Tq.ck (w.f1_0 k_v0).1 ?_
      refine Tq.cro (zfX9_at w (w.f1_0 k_v0).2.1) fun y1 f5 => ?_
      exact (zlX1_greatest_4 n _ _ _ _ w k_v0 (Nat.le_of_lt_succ (Nat.lt_of_lt_of_le (cm_s c4) hc)))
theorem zfX1_greatest {g : hs_S} {v0 : Nat} (w : WT g) (k_v0 : gm_k v0 = 1) : Tq (fX1_greatest v0 g) (Zr g tt) := by
  unfold fX1_greatest
  refine Tq.cro (zlX1_greatest_4 hs_N _ _ _ _ w k_v0 (cm_N _)) fun y1 f3 => ?_
  exact Tq.some ⟨rfl, trivial⟩
theorem zlX1_wrongPlace_32 {s : Nat} {b : Bool} : ∀ (n : Nat) (v0 : Nat) (v1 : Nat) (v2 : Nat) (v3 : Int32) (g : hs_S), WT g → gm_k v0 = 1 → gm_k v2 = 6 → cm v3 ≤ n → Tq (lX1_wrongPlace_32 n v0 v1 v2 v3 g) (Zs s b g tt)
  | 0, v0, v1, v2, v3, g, _, _, _, hc => absurd hc (by have := cm_pos v3; omega)
  | n + 1, v0, v1, v2, v3, g, w, k_v0, k_v2, hc => by
    rw [lX1_wrongPlace_32]
    refine Tq.ck (w.k k_v2) ?_
    refine Tq.br (fun c4 => ?_) (fun c5 => ?_)
    · exact Tq.some ⟨⟨w, cU.rf⟩, trivial⟩
    · refine Tq.cro (zfX7_handlerNumber w k_v2) fun y1 f6 => ?_
      refine Tq.br (fun c7 => ?_) (fun c8 => ?_)
      · exact Tq.some ⟨⟨w, cU.rf⟩, trivial⟩
      · refine Tq.ck (w.k k_v0) ?_
        refine Tq.ck (w.f1_0 k_v0).1 ?_
        refine Tq.csv (zfX9_put (s := s) (b := b) w (w.f1_0 k_v0).2) fun g3 w9 u10 => ?_
        exact Zs.tr (cU.rf.trans u10) (zlX1_wrongPlace_32 (s := s) (b := b) n _ _ _ _ _ w9 k_v0 k_v2 (Nat.le_of_lt_succ (Nat.lt_of_lt_of_le (cm_s c5) hc)))
