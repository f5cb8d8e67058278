/-! EVERY METHOD OF THE CLASS ANSWERS (wip/gen/cls.py) -/
theorem Tq.csome {β : Type} {E : hs_S} {f : hs_S → Option β} {P : β → Prop} (h : Tq (f E) P) : Tq (hs_bv (Option.some E) f) P := h
theorem and255 (r : Int32) : ∃ k, k < 256 ∧ r &&& (255 : Int32) = nI k := ⟨r.toBitVec.toNat % 256, Nat.mod_lt _ (by decide), pk_and r (m := 255) 8 (by decide)⟩
theorem or_nI (a b : Nat) : nI a ||| nI b = nI (a ||| b) := by
  apply Int32.toBitVec_inj.mp
  rw [Int32.toBitVec_or]
  show BitVec.ofNat 32 a ||| BitVec.ofNat 32 b = BitVec.ofNat 32 (a ||| b)
  apply BitVec.eq_of_toNat_eq
  rw [BitVec.toNat_or, BitVec.toNat_ofNat, BitVec.toNat_ofNat, BitVec.toNat_ofNat, Nat.or_mod_two_pow]
theorem zfX0_valueAt {g : hs_S} {v0 : Nat} {v1 : Int32} (w : WT g) (k_v0 : gm_k v0 = 0) : Tq (fX0_valueAt v0 v1 g) (Zr g (fun r => ∃ k, k < 256 ∧ r = nI k)) := by
  unfold fX0_valueAt
  refine Tq.ck (w.k k_v0) (Tq.br (fun _ => Tq.some ⟨rfl, 0, by decide, rfl⟩) (fun _ => ?_))
  refine Tq.ck (w.f0_0 k_v0).1 (Tq.cro (zfX9_at w (w.f0_0 k_v0).2.1) fun r _ => Tq.some ⟨rfl, and255 r⟩)
theorem zfX7_empty {s : Nat} {g : hs_S} {v0 : Nat} (w : WT g) (k_v0 : gm_k v0 = 6) : Tq (fX7_empty v0 g) (Zv s false g) := by
  unfold fX7_empty
  refine Tq.ck (w.k k_v0) ?_
  refine Tq.csome ?_
  refine Tq.csome ?_
  exact Tq.some ⟨(((((((((w.w (oW.v k_v0 (by decide) : oW s false _ _ _)).w (oW.v k_v0 (by decide) : oW s false _ _ _)).w (oW.m k_v0 (by decide) : oW s false _ _ _)).w (oW.m k_v0 (by decide) : oW s false _ _ _)).w (oW.h k_v0 : oW s false _ _ _)).w (oW.m k_v0 (by decide) : oW s false _ _ _)).w (oW.m k_v0 (by decide) : oW s false _ _ _)).w (oW.m k_v0 (by decide) : oW s false _ _ _)).w (oW.m k_v0 (by decide) : oW s false _ _ _)), (((((((((cU.rf.w (oW.v k_v0 (by decide))).w (oW.v k_v0 (by decide))).w (oW.m k_v0 (by decide))).w (oW.m k_v0 (by decide))).w (oW.h k_v0)).w (oW.m k_v0 (by decide))).w (oW.m k_v0 (by decide))).w (oW.m k_v0 (by decide))).w (oW.m k_v0 (by decide)))⟩
theorem cm_l {v b : Int32} (h : ¬ b < v) (hb : b.toInt < 2147483647) : cm (v + 1) < cm v := by
  have h1 := nlt_toInt h
  have h2 := Int32.le_toInt v
  have e := add_toInt (a := v) (b := 1) (by rw [ti_1]; omega) (by rw [ti_1]; omega)
  rw [ti_1] at e
  unfold cm
  omega
theorem dm_a {v : Int32} (h : ¬ v < 0) : dm (v + (-1)) < dm v := by
  have h1 := nlt_toInt h
  rw [ti_0] at h1
  have h2 := Int32.toInt_lt v
  have m1 : (-1 : Int32).toInt = -1 := by decide
  have e := add_toInt (a := v) (b := -1) (by rw [m1]; omega) (by rw [m1]; omega)
  rw [m1] at e
  unfold dm
  omega
theorem zfX0_pairAt {g : hs_S} {v0 : Nat} {v1 : Int32} (w : WT g) (k_v0 : gm_k v0 = 0) : Tq (fX0_pairAt v0 v1 g) (Zr g (fun r => ∃ k, k < 65536 ∧ r = nI k)) := by
  unfold fX0_pairAt
  refine Tq.ck (w.k k_v0) (Tq.cro (zfX0_valueAt w k_v0) fun r h => Tq.ck (w.k k_v0) (Tq.cro (zfX0_valueAt w k_v0) fun r2 h2 => Tq.some ⟨rfl, ?_⟩))
  obtain ⟨a, ha, rfl⟩ := h
  obtain ⟨b, hb, rfl⟩ := h2
  refine ⟨a * 2 ^ 8 ||| b, ?_, ?_⟩
  · exact Nat.or_lt_two_pow (n := 16) (by omega) (by omega)
  · show nI a <<< ((8 : Int32) &&& 31) ||| nI b = nI (a * 2 ^ 8 ||| b)
    rw [pk_shlN ((8 : Int32) &&& 31) 8 (by decide) (by omega), or_nI]
theorem zfX2_handlerPlace {g : hs_S} {v0 v1 : Nat} {v2 : Int32} (w : WT g) (k_v1 : gm_k v1 = 6) : Tq (fX2_handlerPlace v0 v1 v2 g) (Zr g tt) := by
  unfold fX2_handlerPlace
  exact Tq.ck (w.k k_v1) (Tq.some ⟨rfl, trivial⟩)
/-- where a METHOD ends -/
def en (s : hs_S) (m : Nat) : Int32 := ((hs_I s m 2 + hs_I s m 3) + 1) + 7 * hs_I s m 6
theorem zfX2_endOf {g : hs_S} {v0 v1 : Nat} (w : WT g) (k_v0 : gm_k v0 = 2) (k_v1 : gm_k v1 = 6) : Tq (fX2_endOf v0 v1 g) (Zr g (fun r => r = en g v1)) := by
  unfold fX2_endOf fX2_handlerPlace
  refine Tq.ck (w.k k_v1) (Tq.ck (w.k k_v0) ?_)
  rw [if_pos (w.k k_v1)]
  exact ⟨_, rfl, rfl, rfl⟩
/-- what a right number tells -/
def enR (q : Int32 × hs_S) (m : Nat) : Prop := q.1 = -1 → 0 ≤ (en q.2 m).toInt ∧ (en q.2 m).toInt ≤ 32000
theorem zfX2_wrongHandlerCount {s : Nat} {g : hs_S} {v0 v1 v2 : Nat} (w : WT g) (k_v0 : gm_k v0 = 2) (k_v1 : gm_k v1 = 0) (k_v2 : gm_k v2 = 6) (h2 : 0 ≤ (hs_I g v2 2).toInt) (h3 : 0 ≤ (hs_I g v2 3).toInt) : Tq (fX2_wrongHandlerCount v0 v1 v2 g) (fun q => (WT q.2 ∧ cU s false g q.2) ∧ enR q v2) := by
  have u0 := w.2.2.2.2.2 v1 k_v1
  have m0 := w.2.2.2.2.1 v2 k_v2
  have a1 := lt_toInt m0.1
  have a2 := lt_toInt m0.2
  have a3 := le_toInt u0.1
  have a4 := le_toInt u0.2
  rw [ti_m] at a1 a2
  rw [ti_0] at a3
  rw [show (32000 : Int32).toInt = 32000 by decide] at a4
  have m1 : (-1 : Int32).toInt = -1 := by decide
  have nu : ¬ hs_I g v1 3 = -1 := fun e => by rw [e, m1] at a3; omega
  have hs : (hs_I g v2 2 + hs_I g v2 3).toInt = (hs_I g v2 2).toInt + (hs_I g v2 3).toInt := add_toInt (by omega) (by omega)
  have hne : v1 ≠ v2 := fun e => absurd ((e ▸ k_v1).symm.trans k_v2) (by decide)
  unfold fX2_wrongHandlerCount
  refine Tq.ck (w.k k_v2) (Tq.ck (w.k k_v1) (Tq.br (fun c1 => ?_) (fun c1 => Tq.some ⟨⟨w, cU.rf⟩, fun e => absurd e nu⟩)))
  refine Tq.cro (zfX0_valueAt w k_v1) fun r h => ?_
  obtain ⟨k, hk, rfl⟩ := h
  have o : oW s false v2 6 (nI k) := oW.h k_v2
  have w1 : WT (hs_wI g v2 6 (nI k)) := w.w o
  have u1 : cU s false g (hs_wI g v2 6 (nI k)) := cU.rf.w o
  have i2 : hs_I (hs_wI g v2 6 (nI k)) v2 2 = hs_I g v2 2 := by rw [hs_I_w, if_pos rfl, if_neg (by decide)]
  have i3 : hs_I (hs_wI g v2 6 (nI k)) v2 3 = hs_I g v2 3 := by rw [hs_I_w, if_pos rfl, if_neg (by decide)]
  have i6 : hs_I (hs_wI g v2 6 (nI k)) v2 6 = nI k := by rw [hs_I_w, if_pos rfl, if_pos rfl]
  have j3 : hs_I (hs_wI g v2 6 (nI k)) v1 3 = hs_I g v1 3 := by rw [hs_I_w, if_neg hne]
  refine Tq.ck (w.k k_v2) (Tq.br (fun c2 => ?_) (fun _ => Tq.some ⟨⟨w1, u1⟩, fun e => ?_⟩))
  · refine Tq.ck (w1.k k_v0) (Tq.cro (zfX2_endOf w1 k_v0 k_v2) fun r e => Tq.ck (w1.k k_v1) ?_)
    refine Tq.br (fun c3 => Tq.some ⟨⟨w1, u1⟩, fun _ => ?_⟩) (fun _ => Tq.some ⟨⟨w1, u1⟩, fun e => absurd (j3.symm.trans e) nu⟩)
    rw [e, j3] at c3
    have c4 := le_toInt c3
    refine ⟨?_, by show (en (hs_wI g v2 6 (nI k)) v2).toInt ≤ 32000; omega⟩
    show 0 ≤ (en (hs_wI g v2 6 (nI k)) v2).toInt
    unfold en
    rw [i2, i3, i6]
    have e7 : (7 : Int32) * nI k = nI (7 * k) := by rw [show (7 : Int32) = nI 7 from rfl, pk_mul]
    have e1 : (hs_I g v2 2 + hs_I g v2 3 + 1).toInt = (hs_I g v2 2).toInt + (hs_I g v2 3).toInt + 1 := by
      rw [add_toInt (by rw [ti_1]; omega) (by rw [ti_1]; omega), hs, ti_1]
    have e8 := nI_toInt (n := 7 * k) (by omega)
    rw [e7, add_toInt (by omega) (by omega), e1, e8]
    omega
  · have e' : hs_I g v2 2 + hs_I g v2 3 = -1 := e
    rw [e', m1] at hs
    omega
theorem lit_toInt {v : Int32} {c : Int32} {k : Int} (hc : c.toInt = k) (h1 : 0 ≤ v.toInt) (h2 : v.toInt < 100000) (h3 : 0 ≤ k) (h4 : k ≤ 100) : (v + c).toInt = v.toInt + k := by
  rw [add_toInt (by omega) (by omega), hc]
theorem zfX2_wrongNumber {s : Nat} {g : hs_S} {v0 v1 v2 : Nat} {v3 : Int32} (w : WT g) (k_v0 : gm_k v0 = 2) (k_v1 : gm_k v1 = 0) (k_v2 : gm_k v2 = 6) (h0 : 0 ≤ v3.toInt) (h1 : v3.toInt < 100000) : Tq (fX2_wrongNumber v0 v1 v2 v3 g) (fun q => (WT q.2 ∧ cU s false g q.2) ∧ enR q v2) := by
  have m1 : (-1 : Int32).toInt = -1 := by decide
  have n0 : ¬ v3 = -1 := fun e => by rw [e, m1] at h0; omega
  have p1 : (v3 + 1).toInt = v3.toInt + 1 := lit_toInt (by decide) h0 h1 (by decide) (by decide)
  have p2 : (v3 + 2).toInt = v3.toInt + 2 := lit_toInt (by decide) h0 h1 (by decide) (by decide)
  have p4 : (v3 + 4).toInt = v3.toInt + 4 := lit_toInt (by decide) h0 h1 (by decide) (by decide)
  have n1 : ¬ v3 + 1 = -1 := fun e => by rw [e, m1] at p1; omega
  have n2 : ¬ v3 + 2 = -1 := fun e => by rw [e, m1] at p2; omega
  have u0 := le_toInt (w.2.2.2.2.2 v1 k_v1).1
  rw [ti_0] at u0
  have nu : ¬ hs_I g v1 3 = -1 := fun e => by rw [e, m1] at u0; omega
  unfold fX2_wrongNumber
  refine Tq.ck (w.k k_v1) (Tq.cro (zfX0_valueAt w k_v1) fun r3 _ => ?_)
  have o1 : oW s false v2 4 r3 := oW.m k_v2 (by decide)
  have w1 : WT (hs_wI g v2 4 r3) := w.w o1
  have u1 : cU s false g (hs_wI g v2 4 r3) := cU.rf.w o1
  refine Tq.ck (w.k k_v2) (Tq.br (fun _ => Tq.some ⟨⟨w1, u1⟩, fun e => absurd e n0⟩) (fun _ => ?_))
  refine Tq.br (fun _ => ?_) (fun _ => Tq.some ⟨⟨w1, u1⟩, fun e => absurd e n0⟩)
  refine Tq.ck (w1.k k_v1) (Tq.cro (zfX0_valueAt w1 k_v1) fun r8 _ => ?_)
  have o2 : oW s false v2 5 r8 := oW.m k_v2 (by decide)
  have w2 := w1.w o2
  have u2 := u1.w o2
  refine Tq.ck (w1.k k_v2) (Tq.br (fun _ => ?_) (fun _ => Tq.some ⟨⟨w2, u2⟩, fun e => absurd e nu⟩))
  refine Tq.br (fun _ => Tq.some ⟨⟨w2, u2⟩, fun e => absurd e n1⟩) (fun _ => ?_)
  refine Tq.br (fun _ => ?_) (fun _ => Tq.some ⟨⟨w2, u2⟩, fun e => absurd e n1⟩)
  refine Tq.ck (w2.k k_v1) (Tq.cro (zfX0_pairAt w2 k_v1) fun r13 h13 => ?_)
  obtain ⟨k, hk, rfl⟩ := h13
  have ek := nI_toInt (n := k) (by omega)
  have o3 : oW s false v2 3 (nI k) := oW.v k_v2 (of_lt (by rw [ek, ti_m]; omega))
  have o4 : oW s false v2 2 (v3 + 4) := oW.v k_v2 (of_lt (by rw [p4, ti_m]; omega))
  have w4 := (w2.w o3).w o4
  have u4 := (u2.w o3).w o4
  refine Tq.ck (w2.k k_v2) (Tq.br (fun _ => ?_) (fun _ => Tq.some ⟨⟨w4, u4⟩, fun e => absurd e nu⟩))
  refine Tq.br (fun _ => Tq.some ⟨⟨w4, u4⟩, fun e => absurd e n2⟩) (fun _ => ?_)
  refine Tq.br (fun _ => ?_) (fun _ => Tq.some ⟨⟨w4, u4⟩, fun e => absurd e n2⟩)
  refine Tq.ck (w4.k k_v0) ?_
  obtain ⟨q, e, ⟨z1, z2⟩, z3⟩ := zfX2_wrongHandlerCount (s := s) w4 k_v0 k_v1 k_v2 (by rw [hs_I_w, if_pos rfl, if_pos rfl, p4]; omega) (by rw [hs_I_w, if_pos rfl, if_neg (by decide), hs_I_w, if_pos rfl, if_pos rfl, ek]; omega)
  rw [e]
  exact ⟨q, rfl, ⟨z1, u4.trans z2⟩, z3⟩
theorem zfX4_isOfTwo {g : hs_S} {v0 : Int32} (w : WT g)  : Tq (fX4_isOfTwo v0 g) (Zr g tt) := by
  unfold fX4_isOfTwo
  refine Tq.br (fun c1 => ?_) (fun c2 => ?_)
  · exact Tq.some ⟨rfl, trivial⟩
  · refine Tq.br (fun c3 => ?_) (fun c4 => ?_)
    · exact Tq.some ⟨rfl, trivial⟩
    · refine Tq.br (fun c5 => ?_) (fun c6 => ?_)
      · exact Tq.some ⟨rfl, trivial⟩
      · refine Tq.br (fun c7 => ?_) (fun c8 => ?_)
        · exact Tq.some ⟨rfl, trivial⟩
        · refine Tq.br (fun c9 => ?_) (fun c10 => ?_)
          · exact Tq.some ⟨rfl, trivial⟩
          · refine Tq.br (fun c11 => ?_) (fun c12 => ?_)
            · exact Tq.some ⟨rfl, trivial⟩
            · refine Tq.br (fun c13 => ?_) (fun c14 => ?_)
              · exact Tq.some ⟨rfl, trivial⟩
              · refine Tq.br (fun c15 => ?_) (fun c16 => ?_)
                · exact Tq.some ⟨rfl, trivial⟩
                · exact Tq.some ⟨rfl, trivial⟩
theorem zfX4_isBranch {g : hs_S} {v0 : Int32} (w : WT g)  : Tq (fX4_isBranch v0 g) (Zr g tt) := by
  unfold fX4_isBranch
  refine Tq.br (fun c1 => ?_) (fun c2 => ?_)
  · exact Tq.some ⟨rfl, trivial⟩
  · refine Tq.br (fun c3 => ?_) (fun c4 => ?_)
    · exact Tq.some ⟨rfl, trivial⟩
    · exact Tq.some ⟨rfl, trivial⟩
theorem zfX4_isOfArray {g : hs_S} {v0 : Int32} (w : WT g)  : Tq (fX4_isOfArray v0 g) (Zr g tt) := by
  unfold fX4_isOfArray jX4_isOfArray_26
  refine Tq.br (fun c1 => ?_) (fun c2 => ?_)
  · exact Tq.some ⟨rfl, trivial⟩
  · refine Tq.br (fun c3 => ?_) (fun c4 => ?_)
    · exact Tq.some ⟨rfl, trivial⟩
    · refine Tq.br (fun c5 => ?_) (fun c6 => ?_)
      · exact Tq.some ⟨rfl, trivial⟩
      · refine Tq.br (fun c7 => ?_) (fun c8 => ?_)
        · exact Tq.some ⟨rfl, trivial⟩
        · exact Tq.some ⟨rfl, trivial⟩
theorem zfX4_sizeOf {g : hs_S} {v0 : Int32} (w : WT g)  : Tq (fX4_sizeOf v0 g) (Zr g (fun r => 0 ≤ r ∧ r ≤ (5 : Int32))) := by
  unfold fX4_sizeOf jX4_sizeOf_147
  refine Tq.br (fun c7 => ?_) (fun c8 => ?_)
  · exact Tq.some ⟨rfl, (show 0 ≤ (1 : Int32) ∧ (1 : Int32) ≤ (5 : Int32) by decide)⟩
  · refine Tq.br (fun c9 => ?_) (fun c10 => ?_)
    · exact Tq.some ⟨rfl, (show 0 ≤ (2 : Int32) ∧ (2 : Int32) ≤ (5 : Int32) by decide)⟩
    · refine Tq.br (fun c11 => ?_) (fun c12 => ?_)
      · exact Tq.some ⟨rfl, (show 0 ≤ (3 : Int32) ∧ (3 : Int32) ≤ (5 : Int32) by decide)⟩
      · refine Tq.br (fun c13 => ?_) (fun c14 => ?_)
        · exact Tq.some ⟨rfl, (show 0 ≤ (2 : Int32) ∧ (2 : Int32) ≤ (5 : Int32) by decide)⟩
        · refine Tq.br (fun c15 => ?_) (fun c16 => ?_)
          · exact Tq.some ⟨rfl, (show 0 ≤ (2 : Int32) ∧ (2 : Int32) ≤ (5 : Int32) by decide)⟩
          · refine Tq.br (fun c17 => ?_) (fun c18 => ?_)
            · exact Tq.some ⟨rfl, (show 0 ≤ (1 : Int32) ∧ (1 : Int32) ≤ (5 : Int32) by decide)⟩
            · refine Tq.br (fun c19 => ?_) (fun c20 => ?_)
              · exact Tq.some ⟨rfl, (show 0 ≤ (1 : Int32) ∧ (1 : Int32) ≤ (5 : Int32) by decide)⟩
              · refine Tq.br (fun c21 => ?_) (fun c22 => ?_)
                · exact Tq.some ⟨rfl, (show 0 ≤ (1 : Int32) ∧ (1 : Int32) ≤ (5 : Int32) by decide)⟩
                · refine Tq.br (fun c23 => ?_) (fun c24 => ?_)
                  · exact Tq.some ⟨rfl, (show 0 ≤ (2 : Int32) ∧ (2 : Int32) ≤ (5 : Int32) by decide)⟩
                  · refine Tq.br (fun c25 => ?_) (fun c26 => ?_)
                    · exact Tq.some ⟨rfl, (show 0 ≤ (3 : Int32) ∧ (3 : Int32) ≤ (5 : Int32) by decide)⟩
                    · refine Tq.br (fun c27 => ?_) (fun c28 => ?_)
                      · exact Tq.some ⟨rfl, (show 0 ≤ (1 : Int32) ∧ (1 : Int32) ≤ (5 : Int32) by decide)⟩
                      · refine Tq.br (fun c29 => ?_) (fun c30 => ?_)
                        · exact Tq.some ⟨rfl, (show 0 ≤ (2 : Int32) ∧ (2 : Int32) ≤ (5 : Int32) by decide)⟩
                        · refine Tq.br (fun c31 => ?_) (fun c32 => ?_)
                          · exact Tq.some ⟨rfl, (show 0 ≤ (1 : Int32) ∧ (1 : Int32) ≤ (5 : Int32) by decide)⟩
                          · refine Tq.cro (zfX4_isOfTwo w ) fun y1 f33 => ?_
                            refine Tq.br (fun c34 => ?_) (fun c35 => ?_)
                            · refine Tq.cro (zfX4_isBranch w ) fun y3 f36 => ?_
                              refine Tq.br (fun c37 => ?_) (fun c38 => ?_)
                              · refine Tq.cro (zfX4_isOfArray w ) fun y5 f39 => ?_
                                refine Tq.br (fun c40 => ?_) (fun c41 => ?_)
                                · exact Tq.some ⟨rfl, (show 0 ≤ (0 : Int32) ∧ (0 : Int32) ≤ (5 : Int32) by decide)⟩
                                · exact Tq.some ⟨rfl, (show 0 ≤ (2 : Int32) ∧ (2 : Int32) ≤ (5 : Int32) by decide)⟩
                              · exact Tq.some ⟨rfl, (show 0 ≤ (2 : Int32) ∧ (2 : Int32) ≤ (5 : Int32) by decide)⟩
                            · exact Tq.some ⟨rfl, (show 0 ≤ (1 : Int32) ∧ (1 : Int32) ≤ (5 : Int32) by decide)⟩
theorem zfX7_sizeAt {g : hs_S} {v0 : Nat} {v1 : Int32} (w : WT g) (k_v0 : gm_k v0 = 6) : Tq (fX7_sizeAt v0 v1 g) (Zr g (fun r => 0 ≤ r ∧ r ≤ (5 : Int32))) := by
  unfold fX7_sizeAt
  refine Tq.ck (w.k k_v0) ?_
  refine Tq.cro (zfX7_valueAt w k_v0) fun y1 f5 => ?_
  refine Tq.cro (zfX4_sizeOf w ) fun y3 f6 => ?_
  exact Tq.some ⟨rfl, f6⟩
theorem zfX0_has {g : hs_S} {v0 : Nat} {v1 : Int32} (w : WT g) (k_v0 : gm_k v0 = 0) : Tq (fX0_has v0 v1 g) (Zr g (fun r => hs_01 r = true)) := by
  unfold fX0_has
  refine Tq.br (fun c1 => ?_) (fun c2 => ?_)
  · exact Tq.some ⟨rfl, (show hs_01 (0 : Int32) = true by decide)⟩
  · refine Tq.ck (w.k k_v0) ?_
    refine Tq.br (fun c3 => ?_) (fun c4 => ?_)
    · exact Tq.some ⟨rfl, (show hs_01 (0 : Int32) = true by decide)⟩
    · exact Tq.some ⟨rfl, (show hs_01 (1 : Int32) = true by decide)⟩
theorem zfX2_hasOperand {g : hs_S} {v0 : Nat} {v1 : Nat} {v2 : Nat} {v3 : Int32} (w : WT g) (k_v1 : gm_k v1 = 0) (k_v2 : gm_k v2 = 6) : Tq (fX2_hasOperand v0 v1 v2 v3 g) (Zr g tt) := by
  unfold fX2_hasOperand jX2_hasOperand_74 jX2_hasOperand_30
  refine Tq.ck (w.k k_v2) ?_
  refine Tq.cro (zfX7_valueAt w k_v2) fun y1 f9 => ?_
  refine Tq.ck (w.k k_v2) ?_
  refine Tq.cro (zfX7_valueAt w k_v2) fun y3 f10 => ?_
  refine Tq.br (fun c11 => ?_) (fun c12 => ?_)
  · refine Tq.ck (w.k k_v2) ?_
    refine Tq.br (fun c13 => ?_) (fun c14 => ?_)
    · exact Tq.some ⟨rfl, trivial⟩
    · exact Tq.some ⟨rfl, trivial⟩
  · refine Tq.br (fun c15 => ?_) (fun c16 => ?_)
    · refine Tq.ck (w.k k_v2) ?_
      refine Tq.br (fun c17 => ?_) (fun c18 => ?_)
      · exact Tq.some ⟨rfl, trivial⟩
      · exact Tq.some ⟨rfl, trivial⟩
    · refine Tq.br (fun c19 => ?_) (fun c20 => ?_)
      · refine Tq.ck (w.k k_v1) ?_
        refine Tq.cro (zfX0_has w k_v1) fun y5 f21 => ?_
        refine Tq.ck f21 ?_
        exact Tq.some ⟨rfl, trivial⟩
      · refine Tq.cro (zfX4_isOfArray w ) fun y7 f22 => ?_
        refine Tq.br (fun c23 => ?_) (fun c24 => ?_)
        · exact Tq.some ⟨rfl, trivial⟩
        · refine Tq.br (fun c25 => ?_) (fun c26 => ?_)
          · exact Tq.some ⟨rfl, trivial⟩
          · exact Tq.some ⟨rfl, trivial⟩
theorem cm_r {v b r : Int32} (h1 : v.toInt < 1000000) (h2 : 0 < r.toInt) (h3 : r.toInt ≤ 5) : cm (v + r) < cm v := by
  have h4 := Int32.le_toInt v
  have e := add_toInt (a := v) (b := r) (by omega) (by omega)
  unfold cm
  omega
theorem zlX2_wrongInstruction_2 {s : Nat} {b : Bool} : ∀ (n : Nat) (v0 : Nat) (v1 : Nat) (v2 : Nat) (v3 : Int32) (g : hs_S), WT g → gm_k v0 = 2 → gm_k v1 = 0 → gm_k v2 = 6 → cm v3 ≤ n → Tq (lX2_wrongInstruction_2 n v0 v1 v2 v3 g) (Zs3 s b g tt2)
  | 0, v0, v1, v2, v3, g, _, _, _, _, hc => absurd hc (by have := cm_pos v3; omega)
  | n + 1, v0, v1, v2, v3, g, w, k_v0, k_v1, k_v2, hc => by
    rw [lX2_wrongInstruction_2]
    refine Tq.ck (w.k k_v2) (Tq.br (fun _ => Tq.some ⟨⟨w, cU.rf⟩, trivial⟩) (fun c1 => ?_))
    refine Tq.cro (zfX7_sizeAt w k_v2) fun r h => ?_
    have go0 : Tq (jX2_wrongInstruction_37 (fun y0 g => lX2_wrongInstruction_2 n v0 v1 v2 y0 g) v0 v1 v2 v3 r g) (Zs3 s b g tt2) := by
      unfold jX2_wrongInstruction_37 jX2_wrongInstruction_38
      rw [if_pos rfl]
      exact Tq.some ⟨⟨w, cU.rf⟩, trivial⟩
    refine Tq.br (fun _ => go0) (fun c2 => Tq.ck (w.k k_v2) (Tq.br (fun _ => go0) (fun c3 => ?_)))
    have rec1 : ∀ g', WT g' → cU s b g g' → Tq (jX2_wrongInstruction_91 (fun y0 g => lX2_wrongInstruction_2 n v0 v1 v2 y0 g) v0 v1 v2 v3 r g') (Zs3 s b g tt2) := by
      intro g' w' u'
      unfold jX2_wrongInstruction_91
      refine Zs3.tr u' (zlX2_wrongInstruction_2 n v0 v1 v2 (v3 + r) g' w' k_v0 k_v1 k_v2 ?_)
      have a1 := nle_toInt c1
      have a2 := lt_toInt (w.2.2.2.2.1 v2 k_v2).2
      rw [ti_m] at a2
      have a3 := nle_toInt c2
      rw [ti_0] at a3
      have a4 := le_toInt h.2
      rw [show (5 : Int32).toInt = 5 by decide] at a4
      have := cm_r (b := 0) (v := v3) (r := r) (by omega) a3 a4
      omega
    unfold jX2_wrongInstruction_38
    rw [if_neg (by decide)]
    refine Tq.ck (w.k k_v0) (Tq.cro (zfX2_hasOperand w k_v1 k_v2) fun r7 _ => ?_)
    refine Tq.br (fun _ => Tq.some ⟨⟨w, cU.rf⟩, trivial⟩) (fun _ => Tq.ck (w.k k_v2) ?_)
    refine Tq.csv (zfX7_mark (s := s) (b := b) w k_v2) fun g10 w10 u10 => Tq.ck (w10.k k_v2) (Tq.cro (zfX7_valueAt w10 k_v2) fun r15 _ => ?_)
    refine Tq.br (fun _ => Tq.ck (w10.k k_v2) ?_) (fun _ => rec1 g10 w10 u10)
    have o : oW s b v2 9 (hs_I g10 v2 9 + 1) := oW.m k_v2 (by decide)
    exact rec1 _ (w10.w o) (u10.w o)
theorem zfX2_wrongInstruction {s : Nat} {b : Bool} {g : hs_S} {v0 : Nat} {v1 : Nat} {v2 : Nat} (w : WT g) (k_v0 : gm_k v0 = 2) (k_v1 : gm_k v1 = 0) (k_v2 : gm_k v2 = 6) : Tq (fX2_wrongInstruction v0 v1 v2 g) (Zs s b g tt) := by
  unfold fX2_wrongInstruction jX2_wrongInstruction_55
  refine Tq.cs3 (zlX2_wrongInstruction_2 (s := s) (b := b) hs_N _ _ _ _ _ w k_v0 k_v1 k_v2 (cm_N _)) fun y1 y2 g3 w4 u5 f6 => ?_
  refine Tq.br (fun c7 => ?_) (fun c8 => ?_)
  · exact Tq.some ⟨⟨w4, (cU.rf.trans u5)⟩, trivial⟩
  · refine Tq.ck (w4.k k_v2) ?_
    exact Tq.some ⟨⟨w4, (cU.rf.trans u5)⟩, trivial⟩
theorem zfX7_setHandlerNumber {s : Nat} {b : Bool} {g : hs_S} {v0 : Nat} {v1 : Int32} {v2 : Int32} {v3 : Int32} (w : WT g) (k_v0 : gm_k v0 = 6) : Tq (fX7_setHandlerNumber v0 v1 v2 v3 g) (Zv s b g) := by
  unfold fX7_setHandlerNumber
  refine Tq.ck (w.k k_v0) ?_
  refine Tq.ck (w.f6_1 k_v0).1 ?_
  refine Tq.csv (zfX9_put (s := s) (b := b) w (w.f6_1 k_v0).2) fun g1 w2 u3 => ?_
  exact Tq.some ⟨w2, (cU.rf.trans u3)⟩
theorem zlX2_wrongHandler_2 {s : Nat} {b : Bool} : ∀ (n : Nat) (v0 : Nat) (v1 : Nat) (v2 : Nat) (v3 : Int32) (g : hs_S), WT g → gm_k v0 = 2 → gm_k v1 = 0 → gm_k v2 = 6 → cm v3 ≤ n → Tq (lX2_wrongHandler_2 n v0 v1 v2 v3 g) (Zs3 s b g tt2)
  | 0, v0, v1, v2, v3, g, _, _, _, _, hc => absurd hc (by have := cm_pos v3; omega)
  | n + 1, v0, v1, v2, v3, g, w, k_v0, k_v1, k_v2, hc => by
    rw [lX2_wrongHandler_2]
    unfold jX2_wrongHandler_82 jX2_wrongHandler_86 jX2_wrongHandler_87
    refine Tq.ck (w.k k_v2) ?_
    refine Tq.br (fun c45 => ?_) (fun c46 => ?_)
    · exact Tq.some ⟨⟨w, cU.rf⟩, trivial⟩
    · refine Tq.ck (w.k k_v0) ?_
      refine Tq.cro (zfX2_handlerPlace w k_v2) fun y1 f47 => ?_
      refine Tq.ck (w.k k_v1) ?_
      refine Tq.cro (zfX0_pairAt w k_v1) fun y3 f48 => ?_
      refine Tq.ck (w.k k_v1) ?_
      refine Tq.cro (zfX0_pairAt w k_v1) fun y5 f49 => ?_
      refine Tq.ck (w.k k_v1) ?_
      refine Tq.cro (zfX0_pairAt w k_v1) fun y7 f50 => ?_
      refine Tq.ck (w.k k_v1) ?_
      refine Tq.cro (zfX0_valueAt w k_v1) fun y9 f51 => ?_
      refine Tq.br (fun c52 => ?_) (fun c53 => ?_)
      · refine Tq.ck (w.k k_v2) ?_
        refine Tq.cro (zfX7_begins w k_v2) fun y13 f54 => ?_
        refine Tq.br (fun c55 => ?_) (fun c56 => ?_)
        · exact Tq.some ⟨⟨w, cU.rf⟩, trivial⟩
        · refine Tq.ck (w.k k_v2) ?_
          refine Tq.cro (zfX7_begins w k_v2) fun y15 f57 => ?_
          refine Tq.br (fun c58 => ?_) (fun c59 => ?_)
          · exact Tq.some ⟨⟨w, cU.rf⟩, trivial⟩
          · refine Tq.br (fun c60 => ?_) (fun c61 => ?_)
            · exact Tq.some ⟨⟨w, cU.rf⟩, trivial⟩
            · refine Tq.br (fun c62 => ?_) (fun c63 => ?_)
              · refine Tq.ck (w.k k_v2) ?_
                refine Tq.csv (zfX7_setHandlerNumber (s := s) (b := b) w k_v2) fun g17 w64 u65 => ?_
                refine Tq.ck (w64.k k_v2) ?_
                refine Tq.csv (zfX7_setHandlerNumber (s := s) (b := b) w64 k_v2) fun g18 w66 u67 => ?_
                refine Tq.ck (w66.k k_v2) ?_
                refine Tq.csv (zfX7_setHandlerNumber (s := s) (b := b) w66 k_v2) fun g19 w68 u69 => ?_
                refine Tq.ck (w68.k k_v2) ?_
                refine Tq.csv (zfX7_setHandlerNumber (s := s) (b := b) w68 k_v2) fun g20 w70 u71 => ?_
                exact Zs3.tr ((((cU.rf.trans u65).trans u67).trans u69).trans u71) (zlX2_wrongHandler_2 (s := s) (b := b) n _ _ _ _ _ w70 k_v0 k_v1 k_v2 (Nat.le_of_lt_succ (Nat.lt_of_lt_of_le (cm_s c46) hc)))
              · exact Tq.some ⟨⟨w, cU.rf⟩, trivial⟩
      · refine Tq.ck (w.k k_v2) ?_
        refine Tq.cro (zfX7_begins w k_v2) fun y11 f72 => ?_
        refine Tq.br (fun c73 => ?_) (fun c74 => ?_)
        · refine Tq.ck (w.k k_v2) ?_
          refine Tq.br (fun c75 => ?_) (fun c76 => ?_)
          · refine Tq.ck (w.k k_v2) ?_
            refine Tq.cro (zfX7_begins w k_v2) fun y21 f77 => ?_
            refine Tq.br (fun c78 => ?_) (fun c79 => ?_)
            · exact Tq.some ⟨⟨w, cU.rf⟩, trivial⟩
            · refine Tq.ck (w.k k_v2) ?_
              refine Tq.cro (zfX7_begins w k_v2) fun y23 f80 => ?_
              refine Tq.br (fun c81 => ?_) (fun c82 => ?_)
              · exact Tq.some ⟨⟨w, cU.rf⟩, trivial⟩
              · refine Tq.br (fun c83 => ?_) (fun c84 => ?_)
                · exact Tq.some ⟨⟨w, cU.rf⟩, trivial⟩
                · refine Tq.br (fun c85 => ?_) (fun c86 => ?_)
                  · refine Tq.ck (w.k k_v2) ?_
                    refine Tq.csv (zfX7_setHandlerNumber (s := s) (b := b) w k_v2) fun g25 w87 u88 => ?_
                    refine Tq.ck (w87.k k_v2) ?_
                    refine Tq.csv (zfX7_setHandlerNumber (s := s) (b := b) w87 k_v2) fun g26 w89 u90 => ?_
                    refine Tq.ck (w89.k k_v2) ?_
                    refine Tq.csv (zfX7_setHandlerNumber (s := s) (b := b) w89 k_v2) fun g27 w91 u92 => ?_
                    refine Tq.ck (w91.k k_v2) ?_
                    refine Tq.csv (zfX7_setHandlerNumber (s := s) (b := b) w91 k_v2) fun g28 w93 u94 => ?_
                    exact Zs3.tr ((((cU.rf.trans u88).trans u90).trans u92).trans u94) (zlX2_wrongHandler_2 (s := s) (b := b) n _ _ _ _ _ w93 k_v0 k_v1 k_v2 (Nat.le_of_lt_succ (Nat.lt_of_lt_of_le (cm_s c46) hc)))
                  · exact Tq.some ⟨⟨w, cU.rf⟩, trivial⟩
          · refine Tq.ck (w.k k_v2) ?_
            refine Tq.cro (zfX7_begins w k_v2) fun y29 f95 => ?_
            refine Tq.br (fun c96 => ?_) (fun c97 => ?_)
            · exact Tq.some ⟨⟨w, cU.rf⟩, trivial⟩
            · refine Tq.ck (w.k k_v2) ?_
              refine Tq.cro (zfX7_begins w k_v2) fun y31 f98 => ?_
              refine Tq.br (fun c99 => ?_) (fun c100 => ?_)
              · exact Tq.some ⟨⟨w, cU.rf⟩, trivial⟩
              · refine Tq.br (fun c101 => ?_) (fun c102 => ?_)
                · exact Tq.some ⟨⟨w, cU.rf⟩, trivial⟩
                · refine Tq.br (fun c103 => ?_) (fun c104 => ?_)
                  · refine Tq.ck (w.k k_v2) ?_
                    refine Tq.csv (zfX7_setHandlerNumber (s := s) (b := b) w k_v2) fun g33 w105 u106 => ?_
                    refine Tq.ck (w105.k k_v2) ?_
                    refine Tq.csv (zfX7_setHandlerNumber (s := s) (b := b) w105 k_v2) fun g34 w107 u108 => ?_
                    refine Tq.ck (w107.k k_v2) ?_
                    refine Tq.csv (zfX7_setHandlerNumber (s := s) (b := b) w107 k_v2) fun g35 w109 u110 => ?_
                    refine Tq.ck (w109.k k_v2) ?_
                    refine Tq.csv (zfX7_setHandlerNumber (s := s) (b := b) w109 k_v2) fun g36 w111 u112 => ?_
                    exact Zs3.tr ((((cU.rf.trans u106).trans u108).trans u110).trans u112) (zlX2_wrongHandler_2 (s := s) (b := b) n _ _ _ _ _ w111 k_v0 k_v1 k_v2 (Nat.le_of_lt_succ (Nat.lt_of_lt_of_le (cm_s c46) hc)))
                  · exact Tq.some ⟨⟨w, cU.rf⟩, trivial⟩
        · refine Tq.ck (w.k k_v2) ?_
          refine Tq.cro (zfX7_begins w k_v2) fun y37 f113 => ?_
          refine Tq.br (fun c114 => ?_) (fun c115 => ?_)
          · exact Tq.some ⟨⟨w, cU.rf⟩, trivial⟩
          · refine Tq.ck (w.k k_v2) ?_
            refine Tq.cro (zfX7_begins w k_v2) fun y39 f116 => ?_
            refine Tq.br (fun c117 => ?_) (fun c118 => ?_)
            · exact Tq.some ⟨⟨w, cU.rf⟩, trivial⟩
            · refine Tq.br (fun c119 => ?_) (fun c120 => ?_)
              · exact Tq.some ⟨⟨w, cU.rf⟩, trivial⟩
              · refine Tq.br (fun c121 => ?_) (fun c122 => ?_)
                · refine Tq.ck (w.k k_v2) ?_
                  refine Tq.csv (zfX7_setHandlerNumber (s := s) (b := b) w k_v2) fun g41 w123 u124 => ?_
                  refine Tq.ck (w123.k k_v2) ?_
                  refine Tq.csv (zfX7_setHandlerNumber (s := s) (b := b) w123 k_v2) fun g42 w125 u126 => ?_
                  refine Tq.ck (w125.k k_v2) ?_
                  refine Tq.csv (zfX7_setHandlerNumber (s := s) (b := b) w125 k_v2) fun g43 w127 u128 => ?_
                  refine Tq.ck (w127.k k_v2) ?_
                  refine Tq.csv (zfX7_setHandlerNumber (s := s) (b := b) w127 k_v2) fun g44 w129 u130 => ?_
                  exact Zs3.tr ((((cU.rf.trans u124).trans u126).trans u128).trans u130) (zlX2_wrongHandler_2 (s := s) (b := b) n _ _ _ _ _ w129 k_v0 k_v1 k_v2 (Nat.le_of_lt_succ (Nat.lt_of_lt_of_le (cm_s c46) hc)))
                · exact Tq.some ⟨⟨w, cU.rf⟩, trivial⟩
theorem zfX2_wrongHandler {s : Nat} {b : Bool} {g : hs_S} {v0 : Nat} {v1 : Nat} {v2 : Nat} (w : WT g) (k_v0 : gm_k v0 = 2) (k_v1 : gm_k v1 = 0) (k_v2 : gm_k v2 = 6) : Tq (fX2_wrongHandler v0 v1 v2 g) (Zs s b g tt) := by
  unfold fX2_wrongHandler
  refine Tq.cs3 (zlX2_wrongHandler_2 (s := s) (b := b) hs_N _ _ _ _ _ w k_v0 k_v1 k_v2 (cm_N _)) fun y1 y2 g3 w4 u5 f6 => ?_
  refine Tq.br (fun c7 => ?_) (fun c8 => ?_)
  · exact Tq.some ⟨⟨w4, (cU.rf.trans u5)⟩, trivial⟩
  · exact Tq.some ⟨⟨w4, (cU.rf.trans u5)⟩, trivial⟩
theorem zfX4_isJump {g : hs_S} {v0 : Int32} (w : WT g)  : Tq (fX4_isJump v0 g) (Zr g tt) := by
  unfold fX4_isJump jX4_isJump_21
  refine Tq.cro (zfX4_isBranch w ) fun y1 f3 => ?_
  refine Tq.br (fun c4 => ?_) (fun c5 => ?_)
  · refine Tq.br (fun c6 => ?_) (fun c7 => ?_)
    · exact Tq.some ⟨rfl, trivial⟩
    · refine Tq.br (fun c8 => ?_) (fun c9 => ?_)
      · exact Tq.some ⟨rfl, trivial⟩
      · exact Tq.some ⟨rfl, trivial⟩
  · exact Tq.some ⟨rfl, trivial⟩
theorem zfX7_jumpsAt {g : hs_S} {v0 : Nat} {v1 : Int32} (w : WT g) (k_v0 : gm_k v0 = 6) : Tq (fX7_jumpsAt v0 v1 g) (Zr g tt) := by
  unfold fX7_jumpsAt
  refine Tq.ck (w.k k_v0) ?_
  refine Tq.cro (zfX7_begins w k_v0) fun y1 f7 => ?_
  refine Tq.br (fun c8 => ?_) (fun c9 => ?_)
  · exact Tq.some ⟨rfl, trivial⟩
  · refine Tq.ck (w.k k_v0) ?_
    refine Tq.cro (zfX7_valueAt w k_v0) fun y3 f10 => ?_
    refine Tq.cro (zfX4_isJump w ) fun y5 f11 => ?_
    refine Tq.br (fun c12 => ?_) (fun c13 => ?_)
    · exact Tq.some ⟨rfl, trivial⟩
    · exact Tq.some ⟨rfl, trivial⟩
theorem zfX7_targetOf {g : hs_S} {v0 : Nat} {v1 : Int32} (w : WT g) (k_v0 : gm_k v0 = 6) : Tq (fX7_targetOf v0 v1 g) (Zr g tt) := by
  unfold fX7_targetOf
  refine Tq.ck (w.k k_v0) ?_
  refine Tq.cro (zfX7_valueAt w k_v0) fun y1 f7 => ?_
  refine Tq.ck (w.k k_v0) ?_
  refine Tq.cro (zfX7_valueAt w k_v0) fun y3 f8 => ?_
  refine Tq.br (fun c9 => ?_) (fun c10 => ?_)
  · refine Tq.ck (w.k k_v0) ?_
    refine Tq.cro (zfX7_valueAt w k_v0) fun y5 f11 => ?_
    exact Tq.some ⟨rfl, trivial⟩
  · exact Tq.some ⟨rfl, trivial⟩
theorem zlX2_wrongJump_2 : ∀ (n : Nat) (v1 : Nat) (v2 : Int32) (g : hs_S), WT g → gm_k v1 = 6 → cm v2 ≤ n → Tq (lX2_wrongJump_2 n v1 v2 g) (Zr3 g tt2)
  | 0, v1, v2, g, _, _, hc => absurd hc (by have := cm_pos v2; omega)
  | n + 1, v1, v2, g, w, k_v1, hc => by
    rw [lX2_wrongJump_2]
    unfold jX2_wrongJump_37
    refine Tq.ck (w.k k_v1) ?_
    refine Tq.br (fun c7 => ?_) (fun c8 => ?_)
    · exact Tq.some ⟨rfl, trivial⟩
    · refine Tq.cro (zfX7_jumpsAt w k_v1) fun y1 f9 => ?_
      refine Tq.br (fun c10 => ?_) (fun c11 => ?_)
      · exact (zlX2_wrongJump_2 n _ _ _ w k_v1 (Nat.le_of_lt_succ (Nat.lt_of_lt_of_le (cm_s c8) hc)))
      · refine Tq.ck (w.k k_v1) ?_
        refine Tq.cro (zfX7_targetOf w k_v1) fun y3 f12 => ?_
        refine Tq.ck (w.k k_v1) ?_
        refine Tq.cro (zfX7_begins w k_v1) fun y5 f13 => ?_
        refine Tq.br (fun c14 => ?_) (fun c15 => ?_)
        · exact Tq.some ⟨rfl, trivial⟩
        · exact (zlX2_wrongJump_2 n _ _ _ w k_v1 (Nat.le_of_lt_succ (Nat.lt_of_lt_of_le (cm_s c8) hc)))
theorem zfX2_wrongJump {g : hs_S} {v0 : Nat} {v1 : Nat} (w : WT g) (k_v1 : gm_k v1 = 6) : Tq (fX2_wrongJump v0 v1 g) (Zr g tt) := by
  unfold fX2_wrongJump
  refine Tq.cr3 (zlX2_wrongJump_2 hs_N _ _ _ w k_v1 (cm_N _)) fun y1 y2 f4 => ?_
  refine Tq.br (fun c5 => ?_) (fun c6 => ?_)
  · exact Tq.some ⟨rfl, trivial⟩
  · refine Tq.ck (w.k k_v1) ?_
    exact Tq.some ⟨rfl, trivial⟩
theorem zfX4_endsWay {g : hs_S} {v0 : Int32} (w : WT g)  : Tq (fX4_endsWay v0 g) (Zr g tt) := by
  unfold fX4_endsWay jX4_endsWay_28
  refine Tq.br (fun c1 => ?_) (fun c2 => ?_)
  · exact Tq.some ⟨rfl, trivial⟩
  · refine Tq.br (fun c3 => ?_) (fun c4 => ?_)
    · exact Tq.some ⟨rfl, trivial⟩
    · refine Tq.br (fun c5 => ?_) (fun c6 => ?_)
      · exact Tq.some ⟨rfl, trivial⟩
      · refine Tq.br (fun c7 => ?_) (fun c8 => ?_)
        · exact Tq.some ⟨rfl, trivial⟩
        · exact Tq.some ⟨rfl, trivial⟩
theorem zfX7_handlerNumber {g : hs_S} {v0 : Nat} {v1 : Int32} {v2 : Int32} (w : WT g) (k_v0 : gm_k v0 = 6) : Tq (fX7_handlerNumber v0 v1 v2 g) (Zr g tt) := by
  unfold fX7_handlerNumber
  refine Tq.ck (w.k k_v0) ?_
  refine Tq.ck (w.f6_1 k_v0).1 ?_
  refine Tq.cro (zfX9_at w (w.f6_1 k_v0).2.1) fun y1 f3 => ?_
  exact Tq.some ⟨rfl, trivial⟩
theorem zlX2_markBlocks_10 {s : Nat} {b : Bool} : ∀ (n : Nat) (v1 : Nat) (v2 : Int32) (g : hs_S), WT g → gm_k v1 = 6 → cm v2 ≤ n → Tq (lX2_markBlocks_10 n v1 v2 g) (Zv s b g)
  | 0, v1, v2, g, _, _, hc => absurd hc (by have := cm_pos v2; omega)
  | n + 1, v1, v2, g, w, k_v1, hc => by
    rw [lX2_markBlocks_10]
    unfold jX2_markBlocks_38 jX2_markBlocks_61 jX2_markBlocks_62 jX2_markBlocks_75 jX2_markBlocks_89
    refine Tq.ck (w.k k_v1) ?_
    refine Tq.br (fun c66 => ?_) (fun c67 => ?_)
    · exact Tq.some ⟨w, cU.rf⟩
    · refine Tq.cro (zfX7_jumpsAt w k_v1) fun y1 f68 => ?_
      refine Tq.br (fun c69 => ?_) (fun c70 => ?_)
      · refine Tq.ck (w.k k_v1) ?_
        refine Tq.cro (zfX7_begins w k_v1) fun y6 f71 => ?_
        refine Tq.br (fun c72 => ?_) (fun c73 => ?_)
        · refine Tq.br (fun c74 => ?_) (fun c75 => ?_)
          · refine Tq.ck (w.k k_v1) ?_
            refine Tq.cro (zfX7_jumpsAt w k_v1) fun y12 f76 => ?_
            refine Tq.br (fun c77 => ?_) (fun c78 => ?_)
            · exact Zv.tr cU.rf (zlX2_markBlocks_10 (s := s) (b := b) n _ _ _ w k_v1 (Nat.le_of_lt_succ (Nat.lt_of_lt_of_le (cm_s c67) hc)))
            · refine Tq.ck (w.k k_v1) ?_
              refine Tq.cro (zfX7_sizeAt w k_v1) fun y14 f79 => ?_
              refine Tq.ck (w.k k_v1) ?_
              refine Tq.csv (zfX7_mark (s := s) (b := b) w k_v1) fun g16 w80 u81 => ?_
              exact Zv.tr (cU.rf.trans u81) (zlX2_markBlocks_10 (s := s) (b := b) n _ _ _ w80 k_v1 (Nat.le_of_lt_succ (Nat.lt_of_lt_of_le (cm_s c67) hc)))
          · refine Tq.ck (w.k k_v1) ?_
            refine Tq.cro (zfX7_sizeAt w k_v1) fun y17 f82 => ?_
            refine Tq.ck (w.k k_v1) ?_
            refine Tq.csv (zfX7_mark (s := s) (b := b) w k_v1) fun g19 w83 u84 => ?_
            exact Zv.tr (cU.rf.trans u84) (zlX2_markBlocks_10 (s := s) (b := b) n _ _ _ w83 k_v1 (Nat.le_of_lt_succ (Nat.lt_of_lt_of_le (cm_s c67) hc)))
        · refine Tq.ck (w.k k_v1) ?_
          refine Tq.cro (zfX7_valueAt w k_v1) fun y8 f85 => ?_
          refine Tq.cro (zfX4_endsWay w ) fun y10 f86 => ?_
          refine Tq.br (fun c87 => ?_) (fun c88 => ?_)
          · refine Tq.br (fun c89 => ?_) (fun c90 => ?_)
            · refine Tq.ck (w.k k_v1) ?_
              refine Tq.cro (zfX7_jumpsAt w k_v1) fun y20 f91 => ?_
              refine Tq.br (fun c92 => ?_) (fun c93 => ?_)
              · exact Zv.tr cU.rf (zlX2_markBlocks_10 (s := s) (b := b) n _ _ _ w k_v1 (Nat.le_of_lt_succ (Nat.lt_of_lt_of_le (cm_s c67) hc)))
              · refine Tq.ck (w.k k_v1) ?_
                refine Tq.cro (zfX7_sizeAt w k_v1) fun y22 f94 => ?_
                refine Tq.ck (w.k k_v1) ?_
                refine Tq.csv (zfX7_mark (s := s) (b := b) w k_v1) fun g24 w95 u96 => ?_
                exact Zv.tr (cU.rf.trans u96) (zlX2_markBlocks_10 (s := s) (b := b) n _ _ _ w95 k_v1 (Nat.le_of_lt_succ (Nat.lt_of_lt_of_le (cm_s c67) hc)))
            · refine Tq.ck (w.k k_v1) ?_
              refine Tq.cro (zfX7_sizeAt w k_v1) fun y25 f97 => ?_
              refine Tq.ck (w.k k_v1) ?_
              refine Tq.csv (zfX7_mark (s := s) (b := b) w k_v1) fun g27 w98 u99 => ?_
              exact Zv.tr (cU.rf.trans u99) (zlX2_markBlocks_10 (s := s) (b := b) n _ _ _ w98 k_v1 (Nat.le_of_lt_succ (Nat.lt_of_lt_of_le (cm_s c67) hc)))
          · refine Tq.br (fun c100 => ?_) (fun c101 => ?_)
            · refine Tq.ck (w.k k_v1) ?_
              refine Tq.cro (zfX7_jumpsAt w k_v1) fun y28 f102 => ?_
              refine Tq.br (fun c103 => ?_) (fun c104 => ?_)
              · exact Zv.tr cU.rf (zlX2_markBlocks_10 (s := s) (b := b) n _ _ _ w k_v1 (Nat.le_of_lt_succ (Nat.lt_of_lt_of_le (cm_s c67) hc)))
              · refine Tq.ck (w.k k_v1) ?_
                refine Tq.cro (zfX7_sizeAt w k_v1) fun y30 f105 => ?_
                refine Tq.ck (w.k k_v1) ?_
                refine Tq.csv (zfX7_mark (s := s) (b := b) w k_v1) fun g32 w106 u107 => ?_
                exact Zv.tr (cU.rf.trans u107) (zlX2_markBlocks_10 (s := s) (b := b) n _ _ _ w106 k_v1 (Nat.le_of_lt_succ (Nat.lt_of_lt_of_le (cm_s c67) hc)))
            · refine Tq.ck (w.k k_v1) ?_
              refine Tq.cro (zfX7_sizeAt w k_v1) fun y33 f108 => ?_
              refine Tq.ck (w.k k_v1) ?_
              refine Tq.csv (zfX7_mark (s := s) (b := b) w k_v1) fun g35 w109 u110 => ?_
              exact Zv.tr (cU.rf.trans u110) (zlX2_markBlocks_10 (s := s) (b := b) n _ _ _ w109 k_v1 (Nat.le_of_lt_succ (Nat.lt_of_lt_of_le (cm_s c67) hc)))
      · refine Tq.ck (w.k k_v1) ?_
        refine Tq.cro (zfX7_targetOf w k_v1) fun y3 f111 => ?_
        refine Tq.ck (w.k k_v1) ?_
        refine Tq.csv (zfX7_mark (s := s) (b := b) w k_v1) fun g5 w112 u113 => ?_
        refine Tq.ck (w112.k k_v1) ?_
        refine Tq.cro (zfX7_begins w112 k_v1) fun y36 f114 => ?_
        refine Tq.br (fun c115 => ?_) (fun c116 => ?_)
        · refine Tq.br (fun c117 => ?_) (fun c118 => ?_)
          · refine Tq.ck (w112.k k_v1) ?_
            refine Tq.cro (zfX7_jumpsAt w112 k_v1) fun y42 f119 => ?_
            refine Tq.br (fun c120 => ?_) (fun c121 => ?_)
            · exact Zv.tr (cU.rf.trans u113) (zlX2_markBlocks_10 (s := s) (b := b) n _ _ _ w112 k_v1 (Nat.le_of_lt_succ (Nat.lt_of_lt_of_le (cm_s c67) hc)))
            · refine Tq.ck (w112.k k_v1) ?_
              refine Tq.cro (zfX7_sizeAt w112 k_v1) fun y44 f122 => ?_
              refine Tq.ck (w112.k k_v1) ?_
              refine Tq.csv (zfX7_mark (s := s) (b := b) w112 k_v1) fun g46 w123 u124 => ?_
              exact Zv.tr ((cU.rf.trans u113).trans u124) (zlX2_markBlocks_10 (s := s) (b := b) n _ _ _ w123 k_v1 (Nat.le_of_lt_succ (Nat.lt_of_lt_of_le (cm_s c67) hc)))
          · refine Tq.ck (w112.k k_v1) ?_
            refine Tq.cro (zfX7_sizeAt w112 k_v1) fun y47 f125 => ?_
            refine Tq.ck (w112.k k_v1) ?_
            refine Tq.csv (zfX7_mark (s := s) (b := b) w112 k_v1) fun g49 w126 u127 => ?_
            exact Zv.tr ((cU.rf.trans u113).trans u127) (zlX2_markBlocks_10 (s := s) (b := b) n _ _ _ w126 k_v1 (Nat.le_of_lt_succ (Nat.lt_of_lt_of_le (cm_s c67) hc)))
        · refine Tq.ck (w112.k k_v1) ?_
          refine Tq.cro (zfX7_valueAt w112 k_v1) fun y38 f128 => ?_
          refine Tq.cro (zfX4_endsWay w112 ) fun y40 f129 => ?_
          refine Tq.br (fun c130 => ?_) (fun c131 => ?_)
          · refine Tq.br (fun c132 => ?_) (fun c133 => ?_)
            · refine Tq.ck (w112.k k_v1) ?_
              refine Tq.cro (zfX7_jumpsAt w112 k_v1) fun y50 f134 => ?_
              refine Tq.br (fun c135 => ?_) (fun c136 => ?_)
              · exact Zv.tr (cU.rf.trans u113) (zlX2_markBlocks_10 (s := s) (b := b) n _ _ _ w112 k_v1 (Nat.le_of_lt_succ (Nat.lt_of_lt_of_le (cm_s c67) hc)))
              · refine Tq.ck (w112.k k_v1) ?_
                refine Tq.cro (zfX7_sizeAt w112 k_v1) fun y52 f137 => ?_
                refine Tq.ck (w112.k k_v1) ?_
                refine Tq.csv (zfX7_mark (s := s) (b := b) w112 k_v1) fun g54 w138 u139 => ?_
                exact Zv.tr ((cU.rf.trans u113).trans u139) (zlX2_markBlocks_10 (s := s) (b := b) n _ _ _ w138 k_v1 (Nat.le_of_lt_succ (Nat.lt_of_lt_of_le (cm_s c67) hc)))
            · refine Tq.ck (w112.k k_v1) ?_
              refine Tq.cro (zfX7_sizeAt w112 k_v1) fun y55 f140 => ?_
              refine Tq.ck (w112.k k_v1) ?_
              refine Tq.csv (zfX7_mark (s := s) (b := b) w112 k_v1) fun g57 w141 u142 => ?_
              exact Zv.tr ((cU.rf.trans u113).trans u142) (zlX2_markBlocks_10 (s := s) (b := b) n _ _ _ w141 k_v1 (Nat.le_of_lt_succ (Nat.lt_of_lt_of_le (cm_s c67) hc)))
          · refine Tq.br (fun c143 => ?_) (fun c144 => ?_)
            · refine Tq.ck (w112.k k_v1) ?_
              refine Tq.cro (zfX7_jumpsAt w112 k_v1) fun y58 f145 => ?_
              refine Tq.br (fun c146 => ?_) (fun c147 => ?_)
              · exact Zv.tr (cU.rf.trans u113) (zlX2_markBlocks_10 (s := s) (b := b) n _ _ _ w112 k_v1 (Nat.le_of_lt_succ (Nat.lt_of_lt_of_le (cm_s c67) hc)))
              · refine Tq.ck (w112.k k_v1) ?_
                refine Tq.cro (zfX7_sizeAt w112 k_v1) fun y60 f148 => ?_
                refine Tq.ck (w112.k k_v1) ?_
                refine Tq.csv (zfX7_mark (s := s) (b := b) w112 k_v1) fun g62 w149 u150 => ?_
                exact Zv.tr ((cU.rf.trans u113).trans u150) (zlX2_markBlocks_10 (s := s) (b := b) n _ _ _ w149 k_v1 (Nat.le_of_lt_succ (Nat.lt_of_lt_of_le (cm_s c67) hc)))
            · refine Tq.ck (w112.k k_v1) ?_
              refine Tq.cro (zfX7_sizeAt w112 k_v1) fun y63 f151 => ?_
              refine Tq.ck (w112.k k_v1) ?_
              refine Tq.csv (zfX7_mark (s := s) (b := b) w112 k_v1) fun g65 w152 u153 => ?_
              exact Zv.tr ((cU.rf.trans u113).trans u153) (zlX2_markBlocks_10 (s := s) (b := b) n _ _ _ w152 k_v1 (Nat.le_of_lt_succ (Nat.lt_of_lt_of_le (cm_s c67) hc)))
theorem zlX2_markBlocks_97 {s : Nat} {b : Bool} : ∀ (n : Nat) (v1 : Nat) (v2 : Int32) (g : hs_S), WT g → gm_k v1 = 6 → cm v2 ≤ n → Tq (lX2_markBlocks_97 n v1 v2 g) (Zv s b g)
  | 0, v1, v2, g, _, _, hc => absurd hc (by have := cm_pos v2; omega)
  | n + 1, v1, v2, g, w, k_v1, hc => by
    rw [lX2_markBlocks_97]
    refine Tq.ck (w.k k_v1) ?_
    refine Tq.br (fun c4 => ?_) (fun c5 => ?_)
    · exact Tq.some ⟨w, cU.rf⟩
    · refine Tq.cro (zfX7_handlerNumber w k_v1) fun y1 f6 => ?_
      refine Tq.ck (w.k k_v1) ?_
      refine Tq.csv (zfX7_mark (s := s) (b := b) w k_v1) fun g3 w7 u8 => ?_
      exact Zv.tr (cU.rf.trans u8) (zlX2_markBlocks_97 (s := s) (b := b) n _ _ _ w7 k_v1 (Nat.le_of_lt_succ (Nat.lt_of_lt_of_le (cm_s c5) hc)))
theorem zlX2_markBlocks_126 {s : Nat} {b : Bool} : ∀ (n : Nat) (v1 : Nat) (v2 : Int32) (g : hs_S), WT g → gm_k v1 = 6 → cm v2 ≤ n → Tq (lX2_markBlocks_126 n v1 v2 g) (Zv s b g)
  | 0, v1, v2, g, _, _, hc => absurd hc (by have := cm_pos v2; omega)
  | n + 1, v1, v2, g, w, k_v1, hc => by
    rw [lX2_markBlocks_126]
    unfold jX2_markBlocks_152
    refine Tq.ck (w.k k_v1) ?_
    refine Tq.br (fun c3 => ?_) (fun c4 => ?_)
    · exact Tq.some ⟨w, cU.rf⟩
    · refine Tq.cro (zfX7_beginsBlock w k_v1) fun y1 f5 => ?_
      refine Tq.br (fun c6 => ?_) (fun c7 => ?_)
      · refine Tq.ck (w.k k_v1) ?_
        exact Zv.tr (cU.rf.w (oW.m k_v1 (by decide))) (zlX2_markBlocks_126 (s := s) (b := b) n _ _ _ (w.w (oW.m k_v1 (by decide) : oW s b _ _ _)) k_v1 (Nat.le_of_lt_succ (Nat.lt_of_lt_of_le (cm_s c4) hc)))
      · refine Tq.ck (w.k k_v1) ?_
        exact Zv.tr (cU.rf.w (oW.m k_v1 (by decide))) (zlX2_markBlocks_126 (s := s) (b := b) n _ _ _ (w.w (oW.m k_v1 (by decide) : oW s b _ _ _)) k_v1 (Nat.le_of_lt_succ (Nat.lt_of_lt_of_le (cm_s c4) hc)))
theorem zfX2_markBlocks {s : Nat} {b : Bool} {g : hs_S} {v0 : Nat} {v1 : Nat} (w : WT g) (k_v1 : gm_k v1 = 6) : Tq (fX2_markBlocks v0 v1 g) (Zv s b g) := by
  unfold fX2_markBlocks
  refine Tq.ck (w.k k_v1) ?_
  refine Tq.csv (zfX7_mark (s := s) (b := b) w k_v1) fun g1 w5 u6 => ?_
  refine Tq.csv (zlX2_markBlocks_10 (s := s) (b := b) hs_N _ _ _ w5 k_v1 (cm_N _)) fun g2 w7 u8 => ?_
  refine Tq.csv (zlX2_markBlocks_97 (s := s) (b := b) hs_N _ _ _ w7 k_v1 (cm_N _)) fun g3 w9 u10 => ?_
  refine Tq.csv (zlX2_markBlocks_126 (s := s) (b := b) hs_N _ _ _ w9 k_v1 (cm_N _)) fun g4 w11 u12 => ?_
  exact Tq.some ⟨w11, ((((cU.rf.trans u6).trans u8).trans u10).trans u12)⟩
