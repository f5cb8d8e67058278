/-! rows -/
theorem gm_n_lt (a : Nat) : gm_n a < 2147483648 := by
  unfold gm_n
  have q : ∀ (l : List Nat), l.all (fun i => decide (i < 2147483648)) = true → ∀ i, l.getD i 0 < 2147483648 := by
    intro l h i
    rw [List.getD_eq_getElem?_getD]
    by_cases c : i < l.length
    · rw [List.getElem?_eq_getElem c]
      exact of_decide_eq_true (List.all_eq_true.mp h _ (List.getElem_mem c))
    · rw [List.getElem?_eq_none (by omega)]
      show 0 < 2147483648
      decide
  split
  · exact q hc_nl (by decide +kernel) a
  · exact q hm_nl (by decide +kernel) (a - 285)
theorem in_ofNat {i : Int32} {n : Nat} (hn : n < 2147483648) (h0 : ¬ i < 0) (h1 : ¬ Int32.ofNat n ≤ i) : hs_in i n = true := by
  obtain ⟨k, hk, rfl⟩ := nI_of h0
  have h2 : ¬ nI n ≤ nI k := h1
  exact hin (Nat.lt_of_not_le fun q => h2 ((lei (by omega) (by omega)).mpr q)) (by omega)
theorem zfX9_at {g : hs_S} {v0 : Nat} {v1 : Int32} (w : WT g) (k0 : gm_k v0 = 100) : Tq (fX9_at v0 v1 g) (Zr g tt) := by
  unfold fX9_at
  refine Tq.br (fun _ => Tq.some ⟨rfl, trivial⟩) (fun c1 => ?_)
  refine Tq.ck (w.k k0) ?_
  refine Tq.br (fun _ => Tq.some ⟨rfl, trivial⟩) (fun c2 => ?_)
  refine Tq.ck (in_ofNat ?_ c1 c2) (Tq.some ⟨rfl, trivial⟩)
  rw [w.ln]; exact gm_n_lt v0
theorem xfX9_put {g : hs_S} {v0 : Nat} {v1 v2 : Int32} (w : WT g) (k0 : gm_k v0 = 100) : Tq (fX9_put v0 v1 v2 g) (fun q => q = g ∨ ∃ i, q = hs_wI g v0 i v2) := by
  unfold fX9_put
  refine Tq.br (fun _ => Tq.some (Or.inl rfl)) (fun c1 => ?_)
  refine Tq.ck (w.k k0) ?_
  refine Tq.br (fun _ => Tq.some (Or.inl rfl)) (fun c2 => ?_)
  refine Tq.ck (in_ofNat ?_ c1 c2) (Tq.some (Or.inr ⟨_, rfl⟩))
  rw [w.ln]; exact gm_n_lt v0
theorem zfX9_put {s : Nat} {b : Bool} {g : hs_S} {v0 : Nat} {v1 v2 : Int32} (w : WT g) (k0 : aG v0) : Tq (fX9_put v0 v1 v2 g) (Zv s b g) := by
  refine (xfX9_put w k0.1).mono fun q hq => ?_
  rcases hq with hq | ⟨i, hq⟩
  · rw [hq]; exact ⟨w, cU.rf⟩
  · rw [hq]; exact ⟨w.w (oW.a (s := s) (b := b) k0), cU.rf.w (oW.a k0)⟩
/-- fill: only that row is written -/
def cA (v : Nat) (g q : hs_S) : Prop := WT q ∧ hs_R q = hs_R g ∧ ∀ a, a ≠ v → hs_I q a = hs_I g a
theorem cA.w {v : Nat} {g q : hs_S} (k0 : gm_k v = 100) (h : cA v g q) {i : Nat} {z : Int32} : cA v g (hs_wI q v i z) := ⟨h.1.wv ⟨fun c => absurd (k0.symm.trans c) (by decide), fun c => absurd (k0.symm.trans c) (by decide)⟩, h.2.1, fun a ha => by
  funext j
  rw [hs_I_w, if_neg ha, h.2.2 a ha]⟩
theorem cA.u {s v : Nat} {b : Bool} {g q : hs_S} (h : cA v g q) (k0 : aG v) : Zv s b g q := by
  refine ⟨h.1, fun a j x => ?_, fun a _ => by rw [h.2.1]⟩
  rw [h.2.2 a]
  intro e
  subst e
  rcases x with x | x | ⟨x, -, -⟩ | ⟨x, -, -⟩
  · exact absurd k0.2.1 (by omega)
  · exact k0.2.2 x
  · exact absurd (k0.1.symm.trans x) (by decide)
  · exact absurd (k0.1.symm.trans x) (by decide)
theorem xl_fill {v0 : Nat} (k0 : gm_k v0 = 100) {v1 v3 : Int32} (h3 : v3 = Int32.ofNat (gm_n v0)) {g0 : hs_S} : ∀ (n : Nat) (v2 : Int32) (g : hs_S), cm v2 ≤ n → ¬ v2 < 0 → cA v0 g0 g → Tq (lJ7_fill_53178_5 n v0 v1 v2 v3 g) (cA v0 g0)
  | 0, v2, g, hc, _, _ => absurd hc (by have := cm_pos v2; omega)
  | n + 1, v2, g, hc, h0, h => by
    rw [lJ7_fill_53178_5]
    refine Tq.br (fun _ => Tq.some h) (fun c => ?_)
    refine Tq.ck (h.1.k k0) (Tq.ck ?_ ?_)
    · rw [h.1.ln]
      exact in_ofNat (gm_n_lt v0) h0 (by rw [← h3]; exact c)
    · refine xl_fill k0 h3 n _ _ (Nat.le_of_lt_succ (Nat.lt_of_lt_of_le (cm_s c) hc)) ?_ (h.w k0)
      have h1 := toInt_succ c
      rw [Int32.lt_iff_toInt_lt] at h0 ⊢
      rw [h1]
      have : (0 : Int32).toInt = 0 := by decide
      omega
theorem xf_fill {v0 : Nat} (k0 : gm_k v0 = 100) {v1 : Int32} {g : hs_S} (w : WT g) : Tq (fJ7_fill_53178 v0 v1 g) (cA v0 g) := by
  unfold fJ7_fill_53178
  have h0 : cA v0 g g := ⟨w, rfl, fun _ _ => rfl⟩
  have hl : (Int32.ofNat (hs_ln g v0)) = Int32.ofNat (gm_n v0) := by rw [w.ln]
  refine Tq.ck (w.k k0) ?_
  obtain ⟨q, e, h⟩ := xl_fill k0 hl hs_N 0 g (cm_N _) (by decide) h0
  rw [e]
  exact Tq.some h
theorem zfJ7_fill_53178 {s : Nat} {b : Bool} {v0 : Nat} {v1 : Int32} {g : hs_S} (w : WT g) (k0 : aG v0) : Tq (fJ7_fill_53178 v0 v1 g) (Zv s b g) := (xf_fill k0.1 w).mono fun _ h => h.u k0
/-! methods -/
theorem lt_toInt {a b : Int32} (h : a < b) : a.toInt < b.toInt := (Int32.lt_iff_toInt_lt).mp h
theorem nlt_toInt {a b : Int32} (h : ¬ a < b) : b.toInt ≤ a.toInt := by
  rw [Int32.lt_iff_toInt_lt] at h
  omega
theorem nle_toInt {a b : Int32} (h : ¬ a ≤ b) : b.toInt < a.toInt := by
  rw [Int32.le_iff_toInt_le] at h
  omega
theorem le_toInt {a b : Int32} (h : a ≤ b) : a.toInt ≤ b.toInt := (Int32.le_iff_toInt_le).mp h
theorem of_lt {a b : Int32} (h : a.toInt < b.toInt) : a < b := (Int32.lt_iff_toInt_lt).mpr h
theorem of_le {a b : Int32} (h : a.toInt ≤ b.toInt) : a ≤ b := (Int32.le_iff_toInt_le).mpr h
theorem add_toInt {a b : Int32} (h1 : -2147483648 ≤ a.toInt + b.toInt) (h2 : a.toInt + b.toInt < 2147483648) : (a + b).toInt = a.toInt + b.toInt := by
  rw [Int32.toInt_add]
  exact Int.bmod_eq_of_le (by omega) (by omega)
theorem sub_toInt {a b : Int32} (h1 : -2147483648 ≤ a.toInt - b.toInt) (h2 : a.toInt - b.toInt < 2147483648) : (a - b).toInt = a.toInt - b.toInt := by
  rw [Int32.toInt_sub]
  exact Int.bmod_eq_of_le (by omega) (by omega)
theorem ti_0 : (0 : Int32).toInt = 0 := by decide
theorem ti_1 : (1 : Int32).toInt = 1 := by decide
theorem ti_m : (1000000 : Int32).toInt = 1000000 := by decide
theorem zfX7_hasPlace {g : hs_S} {v0 : Nat} {v1 : Int32} (w : WT g) (k0 : gm_k v0 = 6) : Tq (fX7_hasPlace v0 v1 g) (Zr g (fun r => hs_01 r = true ∧ (¬ r = 0 → hs_in (hs_I g v0 2 + v1) (hs_ln g (hs_R g v0 0 - 1)) = true))) := by
  have z : ∀ {P : Prop}, hs_01 0 = true ∧ (¬ (0 : Int32) = 0 → P) := fun {P} => ⟨by decide, fun q => absurd rfl q⟩
  have o1 : hs_01 1 = true := by decide
  unfold fX7_hasPlace
  refine Tq.br (fun _ => Tq.some ⟨rfl, z⟩) (fun c1 => ?_)
  refine Tq.ck (w.k k0) ?_
  refine Tq.br (fun _ => Tq.some ⟨rfl, z⟩) (fun c2 => ?_)
  refine Tq.br (fun _ => Tq.some ⟨rfl, z⟩) (fun c3 => ?_)
  refine Tq.ck (w.f6_0 k0).1 (Tq.ck (w.k (w.f6_0 k0).2.1) ?_)
  refine Tq.br (fun _ => Tq.some ⟨rfl, z⟩) (fun c4 => Tq.some ⟨rfl, o1, fun _ => in_ofNat ?_ ?_ c4⟩)
  · rw [w.ln]; exact gm_n_lt _
  · obtain ⟨h2, h3⟩ := w.2.2.2.2.1 v0 k0
    have a1 := lt_toInt h2
    have a2 := lt_toInt h3
    have a3 := nlt_toInt c1
    have a4 := nle_toInt c2
    have a5 := nlt_toInt c3
    rw [ti_m] at a1 a2
    rw [ti_0] at a3 a5
    intro q
    have q2 := lt_toInt q
    rw [add_toInt (by omega) (by omega), ti_0] at q2
    omega
theorem zfX7_valueAt {g : hs_S} {v0 : Nat} {v1 : Int32} (w : WT g) (k0 : gm_k v0 = 6) : Tq (fX7_valueAt v0 v1 g) (Zr g tt) := by
  unfold fX7_valueAt
  refine Tq.ck (w.k k0) (Tq.cro (zfX7_hasPlace w k0) fun r x => ?_)
  refine Tq.br (fun _ => Tq.some ⟨rfl, trivial⟩) (fun c => ?_)
  exact Tq.ck (w.k k0) (Tq.ck (w.f6_0 k0).1 (Tq.ck (w.k (w.f6_0 k0).2.1) (Tq.ck (x.2 c) (Tq.some ⟨rfl, trivial⟩))))
theorem zfX7_begins {g : hs_S} {v0 : Nat} {v1 : Int32} (w : WT g) (k0 : gm_k v0 = 6) : Tq (fX7_begins v0 v1 g) (Zr g tt) := by
  unfold fX7_begins
  refine Tq.ck (w.k k0) (Tq.cro (zfX7_hasPlace w k0) fun r x => ?_)
  refine Tq.br (fun _ => Tq.some ⟨rfl, trivial⟩) (fun c => ?_)
  exact Tq.ck (w.k k0) (Tq.ck (w.f6_0 k0).1 (Tq.ck (w.k (w.f6_0 k0).2.1) (Tq.ck (x.2 c) (Tq.br (fun _ => Tq.some ⟨rfl, trivial⟩) (fun _ => Tq.some ⟨rfl, trivial⟩)))))
theorem zfX7_beginsBlock {g : hs_S} {v0 : Nat} {v1 : Int32} (w : WT g) (k0 : gm_k v0 = 6) : Tq (fX7_beginsBlock v0 v1 g) (Zr g tt) := by
  unfold fX7_beginsBlock
  refine Tq.ck (w.k k0) (Tq.cro (zfX7_hasPlace w k0) fun r x => ?_)
  refine Tq.br (fun _ => Tq.some ⟨rfl, trivial⟩) (fun c => ?_)
  exact Tq.ck (w.k k0) (Tq.ck (w.f6_0 k0).1 (Tq.ck (w.k (w.f6_0 k0).2.1) (Tq.ck (x.2 c) (Tq.br (fun _ => Tq.some ⟨rfl, trivial⟩) (fun _ => Tq.some ⟨rfl, trivial⟩)))))
theorem zfX7_mark {s : Nat} {b : Bool} {g : hs_S} {v0 : Nat} {v1 v2 : Int32} (w : WT g) (k0 : gm_k v0 = 6) : Tq (fX7_mark v0 v1 v2 g) (Zv s b g) := by
  unfold fX7_mark
  refine Tq.ck (w.k k0) (Tq.cro (zfX7_hasPlace w k0) fun r x => ?_)
  refine Tq.br (fun _ => Tq.some ⟨w, cU.rf⟩) (fun c => ?_)
  have o : oW s b (hs_R g v0 0 - 1) (hs_I g v0 2 + v1).toNatClampNeg ((hs_I g ((hs_R g v0 0) - 1) ((hs_I g v0 2) + v1).toNatClampNeg) ||| v2) := oW.a (w.f6_0 k0).2
  exact Tq.ck (w.k k0) (Tq.ck (w.f6_0 k0).1 (Tq.ck (w.k (w.f6_0 k0).2.1) (Tq.ck (x.2 c) (Tq.some ⟨w.w o, cU.rf.w o⟩))))
theorem in_lit {v : Int32} {n : Nat} (hn : n < 2147483648) (h0 : ¬ v < 0) (h1 : ¬ nI n ≤ v) : hs_in v n = true := in_ofNat hn h0 h1
theorem zfX0_method {g : hs_S} {v0 : Nat} {v1 : Int32} (w : WT g) (k0 : gm_k v0 = 0) : Tq (fX0_method v0 v1 g) (Zr g (fun r => gm_k r = 6)) := by
  unfold fX0_method
  refine Tq.br (fun _ => Tq.ck (w.k k0) (Tq.ck (w.f0_2 k0).1 (Tq.some ⟨rfl, (w.f0_2 k0).2⟩))) (fun c1 => ?_)
  refine Tq.br (fun _ => Tq.ck (w.k k0) (Tq.ck (w.f0_2 k0).1 (Tq.some ⟨rfl, (w.f0_2 k0).2⟩))) (fun c2 => ?_)
  obtain ⟨h1, h2, h3, h4⟩ := w.f0_1 k0
  have hi : hs_in v1 8 = true := in_lit (by decide) c1 c2
  have hj : v1.toNatClampNeg < 8 := by
    simp only [hs_in, Bool.and_eq_true, decide_eq_true_eq] at hi
    exact hi.2
  refine Tq.ck (w.k k0) (Tq.ck h1 (Tq.ck (w.k h2) (Tq.ck ?_ (Tq.ck (h4 _ hj).1 (Tq.some ⟨rfl, (h4 _ hj).2⟩)))))
  rw [w.ln, h3]; exact hi
theorem zfX6_frame {g : hs_S} {v0 : Nat} {v1 : Int32} (w : WT g) (k0 : gm_k v0 = 5) : Tq (fX6_frame v0 v1 g) (Zr g (fun r => gm_k r = 3)) := by
  obtain ⟨h1, h2, h3, h4⟩ := w.f5_1 k0
  have h0 : Tq (jX6_frame_19 v0 g) (Zr g (fun r => gm_k r = 3)) := by
    unfold jX6_frame_19
    refine Tq.ck (w.k k0) (Tq.ck h1 (Tq.ck (w.k h2) (Tq.ck ?_ (Tq.ck (h4 0 (by decide)).1 (Tq.some ⟨rfl, (h4 0 (by decide)).2⟩)))))
    rw [w.ln, h3]; decide
  unfold fX6_frame
  refine Tq.br (fun _ => h0) (fun c1 => Tq.br (fun _ => h0) (fun c2 => ?_))
  have hi : hs_in v1 60 = true := in_lit (by decide) c1 c2
  have hj : v1.toNatClampNeg < 60 := by
    simp only [hs_in, Bool.and_eq_true, decide_eq_true_eq] at hi
    exact hi.2
  refine Tq.ck (w.k k0) (Tq.ck h1 (Tq.ck (w.k h2) (Tq.ck ?_ (Tq.ck (h4 _ hj).1 (Tq.some ⟨rfl, (h4 _ hj).2⟩)))))
  rw [w.ln, h3]; exact hi
/-! sets -/
theorem gm_n_le {a : Nat} (h : a < 285) : gm_n a ≤ 32000 := by
  unfold gm_n
  rw [if_pos h]
  have q : (List.range 285).all (fun i => decide (hc_nl.getD i 0 ≤ 32000)) = true := by decide +kernel
  exact of_decide_eq_true (List.all_eq_true.mp q a (List.mem_range.mpr h))
theorem ofNat_toInt {n : Nat} (h : n < 2147483648) : (Int32.ofNat n).toInt = n := Int32.toInt_ofNat_of_lt (by simpa using h)
/-- append: one more, where there is room -/
theorem xfX0_append {g : hs_S} {v0 : Nat} {v1 : Int32} (w : WT g) (k0 : gm_k v0 = 0) : Tq (fX0_append v0 v1 g) (fun q => (q = g ∧ Int32.ofNat (gm_n (hs_R g v0 0 - 1)) ≤ hs_I g v0 3) ∨ (¬ Int32.ofNat (gm_n (hs_R g v0 0 - 1)) ≤ hs_I g v0 3 ∧ ∃ g1, (g1 = g ∨ ∃ i z, g1 = hs_wI g (hs_R g v0 0 - 1) i z) ∧ q = hs_wI g1 v0 3 (hs_I g v0 3 + 1))) := by
  obtain ⟨h1, h2⟩ := w.f0_0 k0
  unfold fX0_append
  refine Tq.ck (w.k k0) (Tq.ck h1 (Tq.ck (w.k h2.1) ?_))
  rw [w.ln]
  refine Tq.br (fun c => Tq.some (Or.inl ⟨rfl, c⟩)) (fun c => ?_)
  obtain ⟨q, e, hq⟩ := xfX9_put (v1 := hs_I g v0 3) (v2 := v1 &&& (255 : Int32)) w h2.1
  rw [e]
  show Tq (if hs_kd q v0 = 0 then some (hs_wI q v0 3 (hs_I q v0 3 + 1)) else none) _
  have hne : v0 ≠ hs_R g v0 0 - 1 := fun e => absurd (h2.1.symm.trans ((congrArg gm_k e).symm.trans k0)) (by decide)
  rcases hq with hq | ⟨i, hq⟩
  · subst hq
    exact Tq.ck (w.k k0) (Tq.some (Or.inr ⟨c, q, Or.inl rfl, rfl⟩))
  · subst hq
    refine Tq.ck (w.k k0) (Tq.some (Or.inr ⟨c, hs_wI g (hs_R g v0 0 - 1) i (v1 &&& (255 : Int32)), Or.inr ⟨i, v1 &&& (255 : Int32), rfl⟩, ?_⟩))
    rw [hs_I_w, if_neg hne]
theorem zfX0_append {s : Nat} {b : Bool} {g : hs_S} {v0 : Nat} {v1 : Int32} (w : WT g) (k0 : gm_k v0 = 0) (e : v0 = s) : Tq (fX0_append v0 v1 g) (Zv s b g) := by
  subst e
  refine (xfX0_append w k0).mono fun q hq => ?_
  rcases hq with ⟨hq, -⟩ | ⟨c, g1, h1, hq⟩
  · rw [hq]; exact ⟨w, cU.rf⟩
  · have hg := gm_n_le (w.f0_0 k0).2.2.1
    have hv : 0 ≤ hs_I g v0 3 + 1 ∧ hs_I g v0 3 + 1 ≤ 32000 := by
      have a1 := nle_toInt c
      rw [ofNat_toInt (by omega)] at a1
      have a2 := le_toInt (w.2.2.2.2.2 v0 k0).1
      rw [ti_0] at a2
      have a3 : (hs_I g v0 3 + 1).toInt = (hs_I g v0 3).toInt + 1 := add_toInt (by rw [ti_1]; omega) (by rw [ti_1]; omega)
      refine ⟨of_le ?_, of_le ?_⟩
      · rw [a3, ti_0]; omega
      · rw [a3, show (32000 : Int32).toInt = 32000 by decide]; omega
    have o : oW v0 b v0 3 (hs_I g v0 3 + 1) := oW.s k0 hv
    rcases h1 with h1 | ⟨i, z, h1⟩
    · rw [hq, h1]; exact ⟨w.w o, cU.rf.w o⟩
    · have o2 : oW v0 b (hs_R g v0 0 - 1) i z := oW.a (w.f0_0 k0).2
      rw [hq, h1]; exact ⟨(w.w o2).w o, (cU.rf.w o2).w o⟩
theorem zfX0_empty {s : Nat} {b : Bool} {g : hs_S} {v0 : Nat} (w : WT g) (k0 : gm_k v0 = 0) (e : v0 = s) : Tq (fX0_empty v0 g) (Zv s b g) := by
  subst e
  unfold fX0_empty
  have o : oW v0 b v0 3 0 := oW.s k0 (by decide)
  have o2 : oW v0 b v0 4 0 := oW.n k0 (by decide)
  exact Tq.ck (w.k k0) (Tq.some ⟨(w.w o).w o2, (cU.rf.w o).w o2⟩)
/-! frames -/
theorem CR.wR {R : Nat → Nat → Nat} (h : CR R) {f m : Nat} (hf : gm_k f = 3) (hm6 : gm_k m = 6) : CR (fun b i => if b = f then (if i = 3 then m + 1 else R b i) else R b i) := by
  have o : ∀ a j, (gm_k a ≠ 3 ∨ j ≠ 3) → (fun b i => if b = f then (if i = 3 then m + 1 else R b i) else R b i) a j = R a j := by
    intro a j hj
    show (if a = f then (if j = 3 then m + 1 else R a j) else R a j) = R a j
    by_cases e : a = f
    · subst e
      rw [if_pos rfl, if_neg (fun q => hj.elim (fun z => z hf) (fun z => z q))]
    · rw [if_neg e]
  generalize hR : (fun b i => if b = f then (if i = 3 then m + 1 else R b i) else R b i) = R' at o
  have o3 : ∀ a, gm_k a = 3 → R' a 3 = R a 3 ∨ R' a 3 = m + 1 := by
    intro a ha
    rw [← hR]
    show (if a = f then (if 3 = 3 then m + 1 else R a 3) else R a 3) = R a 3 ∨ (if a = f then (if 3 = 3 then m + 1 else R a 3) else R a 3) = m + 1
    by_cases e : a = f
    · rw [if_pos e, if_pos rfl]; exact Or.inr rfl
    · rw [if_neg e]; exact Or.inl rfl
  have A : ∀ a j, (gm_k a ≠ 3 ∨ j ≠ 3) → rA R a j → rA R' a j := fun a j hj x => by
    unfold rA
    rw [o a j hj]; exact x
  have K : ∀ a j k, (gm_k a ≠ 3 ∨ j ≠ 3) → rK R a j k → rK R' a j k := fun a j k hj x => by
    unfold rK
    rw [o a j hj]; exact x
  have L : ∀ a j k n k2, k ≠ 3 → (gm_k a ≠ 3 ∨ j ≠ 3) → rL R a j k n k2 → rL R' a j k n k2 := fun a j k n k2 hk hj x => by
    unfold rL
    rw [o a j hj]
    exact ⟨x.1, x.2.1, x.2.2.1, fun i hi => K _ i k2 (Or.inl (by rw [x.2.1]; exact hk)) (x.2.2.2 i hi)⟩
  intro a
  obtain ⟨h0, h1, h2, h3, h4, h5, h6, h7, h8, h9⟩ := h a
  refine ⟨fun k => ?_, fun k => ?_, fun k => ?_, fun k => ?_, fun k => ?_, fun k => ?_, fun k => ?_, fun k => ?_, fun k => ?_, fun k => ?_⟩
  · have n3 : gm_k a ≠ 3 ∨ (0 : Nat) ≠ 3 := Or.inr (by decide)
    obtain ⟨x1, x2, x3⟩ := h0 k
    exact ⟨A a 0 (Or.inr (by decide)) x1, L a 1 102 8 6 (by decide) (Or.inr (by decide)) x2, K a 2 6 (Or.inr (by decide)) x3⟩
  · obtain ⟨x1, x2⟩ := h1 k
    exact ⟨A a 0 (Or.inr (by decide)) x1, A a 1 (Or.inr (by decide)) x2⟩
  · exact K a 0 1 (Or.inr (by decide)) (h2 k)
  · obtain ⟨x1, x2, x3⟩ := h3 k
    refine ⟨A a 0 (Or.inr (by decide)) x1, A a 1 (Or.inr (by decide)) x2, ?_⟩
    unfold rK
    rcases o3 a k with e | e
    · rw [e]; exact x3
    · rw [e]; exact ⟨by omega, hm6⟩
  · obtain ⟨x1, x2, x3, x4⟩ := h4 k
    exact ⟨A a 0 (Or.inr (by decide)) x1, A a 1 (Or.inr (by decide)) x2, A a 2 (Or.inr (by decide)) x3, A a 3 (Or.inl (by rw [k]; decide)) x4⟩
  · obtain ⟨x1, x2, x3⟩ := h5 k
    exact ⟨K a 0 0 (Or.inr (by decide)) x1, L a 1 103 60 3 (by decide) (Or.inr (by decide)) x2, K a 2 8 (Or.inr (by decide)) x3⟩
  · obtain ⟨x1, x2⟩ := h6 k
    exact ⟨A a 0 (Or.inr (by decide)) x1, A a 1 (Or.inr (by decide)) x2⟩
  · rw [o a 0 (Or.inr (by decide))]; exact h7 k
  · obtain ⟨x1, x2⟩ := h8 k
    exact ⟨A a 0 (Or.inr (by decide)) x1, A a 1 (Or.inr (by decide)) x2⟩
  · obtain ⟨x0, x1, x2, x3, x4, x5, x6, x7⟩ := h9 k
    have n3 : gm_k a ≠ 3 := by rw [k]; decide
    exact ⟨K a 0 0 (Or.inl n3) x0, K a 1 0 (Or.inl n3) x1, K a 2 0 (Or.inl n3) x2, K a 3 0 (Or.inl n3) x3, K a 4 7 (Or.inl n3) x4, K a 5 2 (Or.inl n3) x5, K a 6 4 (Or.inl n3) x6, K a 7 5 (Or.inl n3) x7⟩
theorem WT.wR {g : hs_S} (w : WT g) {f m : Nat} (hf : gm_k f = 3) (hm6 : gm_k m = 6) : WT (hs_wR g f 3 m) := ⟨w.1, w.2.1, w.2.2.1, w.2.2.2.1.wR hf hm6, w.2.2.2.2⟩
theorem cU.wR {s : Nat} {b : Bool} {g q : hs_S} (u : cU s b g q) {f m : Nat} (hf : gm_k f = 3) : cU s b g (hs_wR q f 3 m) := by
  refine ⟨u.1, fun a ha => ?_⟩
  rw [← u.2 a ha]
  funext i
  show (if a = f then (if i = 3 then m + 1 else hs_R q a i) else hs_R q a i) = hs_R q a i
  rw [if_neg (fun e => ha (by rw [e]; exact hf))]
theorem zfX3_begin {s : Nat} {b : Bool} {g : hs_S} {v0 v1 : Nat} (w : WT g) (k0 : gm_k v0 = 3) (k1 : gm_k v1 = 6) : Tq (fX3_begin v0 v1 g) (Zv s b g) := by
  unfold fX3_begin
  have o1 : oW s b v0 4 0 := oW.k k0 (by decide) (by decide) (by decide)
  have o2 : oW s b v0 2 0 := oW.k k0 (by decide) (by decide) (by decide)
  have w3 : WT (hs_wI (hs_wI (hs_wR g v0 3 v1) v0 4 (0 : Int32)) v0 2 (0 : Int32)) := ((w.wR k0 k1).w o1).w o2
  have u3 : cU s b g (hs_wI (hs_wI (hs_wR g v0 3 v1) v0 4 (0 : Int32)) v0 2 (0 : Int32)) := (((cU.rf (g := g)).wR k0).w o1).w o2
  refine Tq.ck (w.k k0) (Tq.ck (w3.f3_0 k0).1 (Tq.csv (zfJ7_fill_53178 (s := s) (b := b) w3 (w3.f3_0 k0).2) fun g' w' u' => Tq.some ⟨w', u3.trans u'⟩))
