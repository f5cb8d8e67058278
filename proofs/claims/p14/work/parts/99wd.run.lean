/-! THE TWO MACHINES: a run as a whole -/
theorem x_aempty {s : hs_S} (w : WT s) (X : MX (hs_R s)) : ∃ q, fX10_empty 102 s = some q ∧ WT q ∧ hs_R q = hs_R s ∧ (∀ b, b ≠ 103 → hs_I q b = hs_I s b) ∧ ∀ i, i < 4 → hs_I q 103 i = 0 := by
  obtain ⟨-, -, -, k4, k5, k6, k7, k8⟩ := mk0
  obtain ⟨q, e, ⟨w1, R1, f1⟩, z1⟩ := yf_fill (v1 := 0) k5 k6 w
  refine ⟨q, ?_, w1, R1, f1, z1⟩
  unfold fX10_empty
  rw [if_pos (w.k k4), X.2.2.2.2.1, if_pos (show ¬ 104 = 0 by decide)]
  show hs_bv (fJ7_fill_53178 103 (0 : Int32) s) _ = _
  rw [e]
  rfl
theorem x_forget {s : hs_S} (w : WT s) (X : MX (hs_R s)) : ∃ q, fX6_forget 100 s = some q ∧ WT q ∧ hs_R q = hs_R s ∧ (∀ b, b ≠ 100 → b ≠ 103 → hs_I q b = hs_I s b) ∧ hs_I q 100 5 = 0 ∧ hs_I q 100 6 = 0 ∧ hs_I q 100 7 = 0 ∧ ∀ i, i < 4 → hs_I q 103 i = 0 := by
  obtain ⟨k1, -, -, k4, -⟩ := mk0
  obtain ⟨q, e, w1, R1, f1, z1⟩ := x_aempty w X
  refine ⟨hs_wI (hs_wI (hs_wI (hs_wI q 100 3 (0 : Int32)) 100 5 (0 : Int32)) 100 6 (0 : Int32)) 100 7 (0 : Int32), ?_, (((w1.wm (by decide)).wm (by decide)).wm (by decide)).wm (by decide), R1, fun b h1 h2 => ?_, ?_, ?_, ?_, fun i hi => ?_⟩
  · unfold fX6_forget
    rw [if_pos (w.k k1), X.2.2.2.1, if_pos (show ¬ 103 = 0 by decide)]
    show (if hs_kd s 102 = 8 then hs_bv (fX10_empty 102 s) _ else none) = _
    rw [if_pos (w.k k4), e]
    show (if hs_kd q 100 = 5 then _ else none) = _
    rw [if_pos (w1.k k1)]
  · rw [← f1 b h2]
    funext i
    rw [hs_I_w, if_neg h1, hs_I_w, if_neg h1, hs_I_w, if_neg h1, hs_I_w, if_neg h1]
  · rw [hs_I_w, if_pos rfl, if_neg (by decide), hs_I_w, if_pos rfl, if_neg (by decide), hs_I_w, if_pos rfl, if_pos rfl]
  · rw [hs_I_w, if_pos rfl, if_neg (by decide), hs_I_w, if_pos rfl, if_pos rfl]
  · rw [hs_I_w, if_pos rfl, if_pos rfl]
  · rw [hs_I_w, if_neg (by decide), hs_I_w, if_neg (by decide), hs_I_w, if_neg (by decide), hs_I_w, if_neg (by decide)]; exact z1 i hi
/-- the locals at a run's begin -/
def l0 (pm : Nat) (xx yy : Int32) (i : Nat) : Int32 := if i = 0 ∧ 0 < pm then xx else if i = 1 ∧ 1 < pm then yy else 0
/-- the class's start of a run -/
theorem x_start {s0 : hs_S} {m n pm : Nat} (w : WT s0) (X : MX (hs_R s0)) (hS : SF (hs_R s0) 67) (hm8 : m < 8) (hpm : hs_I s0 (73 + 2 * m) 4 = nI pm) (hp4 : pm ≤ 4) (xx yy lim : Int32) : ∃ s3, fX6_perform 100 (nI m) xx yy lim s0 = jX6_perform_67 100 s3 ∧ WT s3 ∧ MX (hs_R s3) ∧ (∀ b, (b < 100 ∨ 285 ≤ b) → hs_I s3 b = hs_I s0 b) ∧ (∀ a, gm_k a ≠ 3 → hs_R s3 a = hs_R s0 a) ∧ hs_R s3 105 3 = 74 + 2 * m ∧ hs_I s3 100 4 = lim ∧ hs_I s3 100 5 = 0 ∧ hs_I s3 100 6 = 0 ∧ hs_I s3 100 7 = 0 ∧ (∀ i, i < 4 → hs_I s3 103 i = 0) ∧ hs_I s3 105 4 = nI 0 ∧ hs_I s3 105 2 = nI 0 ∧ ∀ i, i < 20 → hs_I s3 106 i = l0 pm xx yy i := by
  obtain ⟨k1, -⟩ := mk0
  have k3 : gm_k 105 = 3 := (mk (f := 0) (by decide)).1
  obtain ⟨s1, e1, w1, R1, f1, z5, z6, z7, z3⟩ := x_forget w X
  have w2 : WT (hs_wI s1 100 4 lim) := w1.wm (by decide)
  have X2 : MX (hs_R (hs_wI s1 100 4 lim)) := by
    show MX (hs_R s1)
    rw [R1]; exact X
  have hS2 : SF (hs_R (hs_wI s1 100 4 lim)) 67 := by
    show SF (hs_R s1) 67
    rw [R1]; exact hS
  obtain ⟨s2, b1, b2, b3, b4, b5, b6, b7, b8, b9⟩ := x_begin (f := 0) w2 X2 (by decide) hm8
  have b1' : fX3_begin 105 (67 + 6 + 2 * m) (hs_wI s1 100 4 lim) = some s2 := b1
  have X3 : MX (hs_R s2) := X2.to b8 b9
  have b7' : hs_R s2 105 3 = 74 + 2 * m := b7
  have kk : hs_kd s2 105 = 3 := b2.k k3
  have k6 : hs_kd s2 (73 + 2 * m) = 6 := b2.k (k6_m hm8).1
  have I2 : ∀ b, b ≠ 100 → b ≠ 103 → b ≠ 105 → b ≠ 106 → hs_I s2 b = hs_I s0 b := fun b h1 h2 h3 h4 => by
    rw [b3 b h3 h4, ← f1 b h1 h2]
    funext i
    rw [hs_I_w, if_neg h1]
  have I100 : ∀ i, hs_I s2 100 i = if i = 4 then lim else hs_I s1 100 i := fun i => by
    rw [b3 100 (by decide) (by decide), hs_I_w, if_pos rfl]
  have I103 : ∀ i, i < 4 → hs_I s2 103 i = 0 := fun i hi => by
    rw [b3 103 (by decide) (by decide), hs_I_w, if_neg (by decide)]; exact z3 i hi
  have ip : hs_I s2 (73 + 2 * m) 4 = nI pm := by rw [I2 _ (by omega) (by omega) (by omega) (by omega)]; exact hpm
  have RR : ∀ a, gm_k a ≠ 3 → hs_R s2 a = hs_R s0 a := fun a ha => by
    rw [b8 a (fun q => ha (by rw [q]; exact k3))]
    show hs_R s1 a = _
    rw [R1]
  -- up to the locals
  have per : ∀ v0, fX3_begin 105 (67 + 6 + 2 * m) (hs_wI s1 100 4 lim) = some s2 → fX6_perform 100 (nI m) xx yy lim s0 = v0 → (if nI pm ≤ 0 then jX6_perform_48 100 yy 105 s2 else hs_bv (fX3_setLocal 105 (0 : Int32) xx s2) fun g41 => jX6_perform_48 100 yy 105 g41) = v0 := by
    intro v0 _ hv
    unfold fX6_perform at hv
    have fr : fX6_frame 100 (0 : Int32) (hs_wI s1 100 4 lim) = some (105, hs_wI s1 100 4 lim) := x_frame (f := 0) w2 X2 (by decide)
    have r0 : hs_R (hs_wI s1 100 4 lim) 100 0 = 68 := X2.2.1
    have mt : fX0_method 67 (nI m) (hs_wI s1 100 4 lim) = some (67 + 6 + 2 * m, hs_wI s1 100 4 lim) := x_mth w2 isS_67 hS2 hm8
    rw [if_pos (w.k k1), e1] at hv
    have hv2 : (if hs_kd s1 100 = 5 then hs_bd (fX6_frame 100 (0 : Int32) (hs_wI s1 100 4 lim)) _ else none) = v0 := hv
    rw [if_pos (w1.k k1), fr, hs_bd_s, if_pos (w2.k k1), r0, if_pos (show ¬ 68 = 0 by decide)] at hv2
    have hv3 : (if hs_kd (hs_wI s1 100 4 lim) 67 = 0 then hs_bd (fX0_method 67 (nI m) (hs_wI s1 100 4 lim)) _ else none) = v0 := hv2
    rw [if_pos (w2.k (sk isS_67).1), mt, hs_bd_s, if_pos (w2.k k3), b1'] at hv3
    have hv4 : (if hs_kd s2 105 = 3 then _ else none) = v0 := hv3
    rw [if_pos kk, b7', if_pos (show ¬ 74 + 2 * m = 0 by omega), show 74 + 2 * m - 1 = 73 + 2 * m by omega, if_pos k6, ip] at hv4
    exact hv4
  have per' := per _ b1' rfl
  have j48 : ∀ s : hs_S, WT s → MX (hs_R s) → hs_R s 105 3 = 74 + 2 * m → hs_I s (73 + 2 * m) 4 = nI pm → jX6_perform_48 100 yy 105 s = if pm ≤ 1 then jX6_perform_67 100 s else jX6_perform_67 100 (hs_wI s 106 1 yy) := by
    intro s hw hX h3 h4
    unfold jX6_perform_48
    have sl : fX3_setLocal 105 (1 : Int32) yy s = some (hs_wI s 106 1 yy) := x_setLocal (f := 0) (a := 1) hw hX (by decide) (by decide) yy
    rw [if_pos (hw.k k3), h3, if_pos (show ¬ 74 + 2 * m = 0 by omega), show 74 + 2 * m - 1 = 73 + 2 * m by omega, if_pos (hw.k (k6_m hm8).1), h4]
    by_cases c : pm ≤ 1
    · rw [if_pos c, if_pos (show nI pm ≤ (1 : Int32) from (lei (b := 1) (by omega) (by decide)).mpr c)]
    · rw [if_neg c, if_neg (show ¬ nI pm ≤ (1 : Int32) from fun z => c ((lei (b := 1) (by omega) (by decide)).mp z)), sl]
      rfl
  have sl0 : fX3_setLocal 105 (0 : Int32) xx s2 = some (hs_wI s2 106 0 xx) := x_setLocal (f := 0) (a := 0) b2 X3 (by decide) (by decide) xx
  -- the three cases
  have fin : ∀ s3 : hs_S, fX6_perform 100 (nI m) xx yy lim s0 = jX6_perform_67 100 s3 → WT s3 → hs_R s3 = hs_R s2 → (∀ b, b ≠ 106 → hs_I s3 b = hs_I s2 b) → (∀ i, i < 20 → hs_I s3 106 i = l0 pm xx yy i) → ∃ s3, fX6_perform 100 (nI m) xx yy lim s0 = jX6_perform_67 100 s3 ∧ WT s3 ∧ MX (hs_R s3) ∧ (∀ b, (b < 100 ∨ 285 ≤ b) → hs_I s3 b = hs_I s0 b) ∧ (∀ a, gm_k a ≠ 3 → hs_R s3 a = hs_R s0 a) ∧ hs_R s3 105 3 = 74 + 2 * m ∧ hs_I s3 100 4 = lim ∧ hs_I s3 100 5 = 0 ∧ hs_I s3 100 6 = 0 ∧ hs_I s3 100 7 = 0 ∧ (∀ i, i < 4 → hs_I s3 103 i = 0) ∧ hs_I s3 105 4 = nI 0 ∧ hs_I s3 105 2 = nI 0 ∧ ∀ i, i < 20 → hs_I s3 106 i = l0 pm xx yy i := by
    intro s3 h1 h2 h3 h4 h5
    have e100 := h4 100 (by decide)
    refine ⟨s3, h1, h2, by rw [h3]; exact X3, fun b hb => (h4 b (by omega)).trans (I2 b (by omega) (by omega) (by omega) (by omega)), fun a ha => by rw [h3]; exact RR a ha, by rw [h3]; exact b7', ?_, ?_, ?_, ?_, fun i hi => by rw [h4 103 (by decide)]; exact I103 i hi, by rw [h4 105 (by decide)]; exact b4, by rw [h4 105 (by decide)]; exact b5, h5⟩
    · rw [e100, I100, if_pos rfl]
    · rw [e100, I100, if_neg (by decide)]; exact z5
    · rw [e100, I100, if_neg (by decide)]; exact z6
    · rw [e100, I100, if_neg (by decide)]; exact z7
  have b6' : ∀ i, i < 20 → hs_I s2 106 i = 0 := b6
  by_cases c0 : pm = 0
  · refine fin s2 ?_ b2 rfl (fun _ _ => rfl) (fun i hi => ?_)
    · rw [← per', if_pos (show nI pm ≤ (0 : Int32) by rw [c0]; decide), j48 s2 b2 X3 b7' ip, if_pos (by omega)]
    · unfold l0
      rw [if_neg (by omega), if_neg (by omega)]; exact b6' i hi
  have u0 : ¬ nI pm ≤ (0 : Int32) := fun z => c0 (by have := (lei (b := 0) (by omega) (by decide)).mp z; omega)
  have w4 : WT (hs_wI s2 106 0 xx) := b2.wm (by decide)
  have ip4 : hs_I (hs_wI s2 106 0 xx) (73 + 2 * m) 4 = nI pm := by rw [hs_I_w, if_neg (by omega)]; exact ip
  have step : fX6_perform 100 (nI m) xx yy lim s0 = jX6_perform_48 100 yy 105 (hs_wI s2 106 0 xx) := by
    rw [← per', if_neg u0, sl0]
    rfl
  by_cases c1 : pm = 1
  · refine fin (hs_wI s2 106 0 xx) ?_ w4 rfl (fun b hb => ?_) (fun i hi => ?_)
    · rw [step, j48 _ w4 X3 b7' ip4, if_pos (by omega)]
    · funext i
      rw [hs_I_w, if_neg hb]
    · unfold l0
      rw [hs_I_w, if_pos rfl]
      by_cases ci : i = 0
      · rw [if_pos ci, if_pos ⟨ci, by omega⟩]
      · rw [if_neg ci, if_neg (fun q => ci q.1), if_neg (by omega)]; exact b6' i hi
  · refine fin (hs_wI (hs_wI s2 106 0 xx) 106 1 yy) ?_ (w4.wm (by decide)) rfl (fun b hb => ?_) (fun i hi => ?_)
    · rw [step, j48 _ w4 X3 b7' ip4, if_neg (by omega)]
    · funext i
      rw [hs_I_w, if_neg hb, hs_I_w, if_neg hb]
    · unfold l0
      rw [hs_I_w, if_pos rfl, hs_I_w, if_pos rfl]
      by_cases ci : i = 0
      · rw [if_neg (by omega), if_pos ci, if_pos ⟨ci, by omega⟩]
      · by_cases cj : i = 1
        · rw [if_pos cj, if_neg (by omega), if_pos ⟨cj, by omega⟩]
        · rw [if_neg cj, if_neg ci, if_neg (fun q => ci q.1), if_neg (fun q => cj q.1)]; exact b6' i hi
/-- the reference's start of a run -/
theorem q_start {g : hm} {m N pm : Nat} (xx yy lim : Int32) (h22 : ¬ g 285 22 = 0) (h4 : g 285 4 = nI N) (hm0 : m < N) (hN : N ≤ 8) (hl0 : ¬ lim < 0) (hl : lim ≤ (100000 : Int32)) (h287 : g 287 m = nI pm) (hpm : pm ≤ 4) : ∃ g3, nX12_run (nI m) xx yy lim g = (hm_bd (nlX12_run_130 hs_N g3) fun k11 g12 => if k11 = 0 then (njX12_run_181 g12) else (some ((2 : Int32), (hm_w g12 285 36 (g12 285 47))))) ∧ (∀ Q, s_Rs g Q g3 1 0) ∧ (∀ a, a < 313 → a ≠ 285 → g3 a = g a) ∧ (∀ j, j ≠ 36 → j ≠ 37 → j ≠ 38 → j ≠ 39 → j ≠ 40 → j ≠ 46 → g3 285 j = g 285 j) ∧ g3 285 36 = 0 ∧ g3 285 37 = 0 ∧ g3 285 38 = nI 0 ∧ g3 285 39 = lim ∧ g3 285 40 = nI 1 ∧ g3 285 46 = 0 ∧ (∀ i, i < 4 → g3 313 i = 0) ∧ g3 315 0 = nI m ∧ g3 316 0 = nI 0 ∧ g3 317 0 = nI 0 ∧ ∀ i, i < 20 → g3 319 i = l0 pm xx yy i := by
  obtain ⟨q, e1, F1, Z1, -⟩ := q_r41 (nI m) xx yy lim 4 0 hs_N g (by omega) (by unfold hs_N; omega)
  have e1' : nlX12_run_41 hs_N (nI m) xx yy lim (0 : Int32) g = some q := e1
  have G1 : ∀ a, a ≠ 285 → hm_w (hm_w (hm_w (hm_w (hm_w (hm_w q 285 36 (0 : Int32)) 285 37 (0 : Int32)) 285 38 (0 : Int32)) 285 39 lim) 285 40 (0 : Int32)) 285 46 (0 : Int32) a = q a := fun a ha => by
    rw [hm_w_ne ha, hm_w_ne ha, hm_w_ne ha, hm_w_ne ha, hm_w_ne ha, hm_w_ne ha]
  have J : ∀ j, j ≠ 36 → j ≠ 37 → j ≠ 38 → j ≠ 39 → j ≠ 40 → j ≠ 46 → hm_w (hm_w (hm_w (hm_w (hm_w (hm_w q 285 36 (0 : Int32)) 285 37 (0 : Int32)) 285 38 (0 : Int32)) 285 39 lim) 285 40 (0 : Int32)) 285 46 (0 : Int32) 285 j = g 285 j := fun j h1 h2 h3 h4 h5 h6 => by
    rw [hm_w_o h6, hm_w_o h5, hm_w_o h4, hm_w_o h3, hm_w_o h2, hm_w_o h1, F1 285 (by decide)]
  have J36 : hm_w (hm_w (hm_w (hm_w (hm_w (hm_w q 285 36 (0 : Int32)) 285 37 (0 : Int32)) 285 38 (0 : Int32)) 285 39 lim) 285 40 (0 : Int32)) 285 46 (0 : Int32) 285 36 = 0 := by
    rw [hm_w_o (by decide), hm_w_o (by decide), hm_w_o (by decide), hm_w_o (by decide), hm_w_o (by decide), hm_w_eq]
  have J37 : hm_w (hm_w (hm_w (hm_w (hm_w (hm_w q 285 36 (0 : Int32)) 285 37 (0 : Int32)) 285 38 (0 : Int32)) 285 39 lim) 285 40 (0 : Int32)) 285 46 (0 : Int32) 285 37 = 0 := by
    rw [hm_w_o (by decide), hm_w_o (by decide), hm_w_o (by decide), hm_w_o (by decide), hm_w_eq]
  have J38 : hm_w (hm_w (hm_w (hm_w (hm_w (hm_w q 285 36 (0 : Int32)) 285 37 (0 : Int32)) 285 38 (0 : Int32)) 285 39 lim) 285 40 (0 : Int32)) 285 46 (0 : Int32) 285 38 = nI 0 := by
    rw [hm_w_o (by decide), hm_w_o (by decide), hm_w_o (by decide), hm_w_eq]; rfl
  have J39 : hm_w (hm_w (hm_w (hm_w (hm_w (hm_w q 285 36 (0 : Int32)) 285 37 (0 : Int32)) 285 38 (0 : Int32)) 285 39 lim) 285 40 (0 : Int32)) 285 46 (0 : Int32) 285 39 = lim := by
    rw [hm_w_o (by decide), hm_w_o (by decide), hm_w_eq]
  have J40 : hm_w (hm_w (hm_w (hm_w (hm_w (hm_w q 285 36 (0 : Int32)) 285 37 (0 : Int32)) 285 38 (0 : Int32)) 285 39 lim) 285 40 (0 : Int32)) 285 46 (0 : Int32) 285 40 = nI 0 := by
    rw [hm_w_o (by decide), hm_w_eq]; rfl
  have J46 : hm_w (hm_w (hm_w (hm_w (hm_w (hm_w q 285 36 (0 : Int32)) 285 37 (0 : Int32)) 285 38 (0 : Int32)) 285 39 lim) 285 40 (0 : Int32)) 285 46 (0 : Int32) 285 46 = 0 := hm_w_eq _ _ _ _
  have run0 : nX12_run (nI m) xx yy lim g = (hm_bv (nX12_enter (nI m) (hm_w (hm_w (hm_w (hm_w (hm_w (hm_w q 285 36 (0 : Int32)) 285 37 (0 : Int32)) 285 38 (0 : Int32)) 285 39 lim) 285 40 (0 : Int32)) 285 46 (0 : Int32))) fun g5 => if hs_in (nI m) 8 = true then (if (g5 287 (nI m).toNatClampNeg) ≤ 0 then (njX12_run_113 (nI m) yy g5) else (if hs_in (0 : Int32) 1200 = true then (njX12_run_113 (nI m) yy (hm_w g5 319 (0 : Int32).toNatClampNeg xx)) else none)) else none) := by
    unfold nX12_run
    rw [if_neg h22, if_neg (nI_pos (by omega)), h4, if_neg (fun z => absurd ((lei (by omega) (by omega)).mp z) (by omega)), if_neg hl0, if_pos hl, e1', hm_bv_s, hm_bv_s]
  have R1 : ∀ Q, s_Rs g Q (hm_w (hm_w (hm_w (hm_w (hm_w (hm_w q 285 36 (0 : Int32)) 285 37 (0 : Int32)) 285 38 (0 : Int32)) 285 39 lim) 285 40 (0 : Int32)) 285 46 (0 : Int32)) 0 0 := fun Q => by
    refine ⟨?_, ?_, J40, by omega, J38, by omega, ?_, fun f hf => absurd hf (by omega)⟩
    · exact ((((((F1.mono (by decide) : Fr [285, 313, 314, 315, 316, 317, 318, 319] g q).w (by decide)).w (by decide)).w (by decide)).w (by decide)).w (by decide)).w (by decide)
    · exact ((((((Fo.of F1 (by decide) : Fo [36, 37, 38, 39, 40, 46, 47] g q).w (by decide)).w (by decide)).w (by decide)).w (by decide)).w (by decide)).w (by decide)
    · intro a ha
      rw [G1 313 (by decide)]
      exact ⟨0, by omega, Z1 a (Nat.zero_le _) ha⟩
  generalize hm_w (hm_w (hm_w (hm_w (hm_w (hm_w q 285 36 (0 : Int32)) 285 37 (0 : Int32)) 285 38 (0 : Int32)) 285 39 lim) 285 40 (0 : Int32)) 285 46 (0 : Int32) = g1 at G1 J J36 J37 J38 J39 J40 J46 run0 R1
  obtain ⟨g5, d1, d2, d3, d4, d5, d6, d7, d8, d9, d10, d11⟩ := qx_enter (o := m) (show 0 < 60 by decide) J40
  have R5 : ∀ Q, s_Rs g Q g5 1 0 := fun Q => by
    obtain ⟨q2, e2, ⟨R2, -⟩, -⟩ := q_enter (m := m) (R1 Q) (by omega) (fun f hf => absurd hf (by omega))
    have e3 : q2 = g5 := Option.some.inj (e2.symm.trans d1)
    rw [← e3]; exact R2
  have hi : hs_in (nI m) 8 = true := hin (by omega) (by decide)
  have a287 : g5 287 m = nI pm := by rw [d2 287 (by decide) (by decide), G1 287 (by decide), F1 287 (by decide)]; exact h287
  rw [d1, hm_bv_s, if_pos hi, cl (show m < 2147483648 by omega), a287] at run0
  have j113 : ∀ y : hm, y 287 m = nI pm → njX12_run_113 (nI m) yy y = (hm_bd (nlX12_run_130 hs_N (if pm ≤ 1 then y else hm_w y 319 1 yy)) fun k11 g12 => if k11 = 0 then (njX12_run_181 g12) else (some ((2 : Int32), (hm_w g12 285 36 (g12 285 47))))) := by
    intro y hy
    unfold njX12_run_113
    rw [if_pos hi, cl (show m < 2147483648 by omega), hy]
    by_cases c : pm ≤ 1
    · rw [if_pos c, if_pos (show nI pm ≤ (1 : Int32) from (lei (b := 1) (by omega) (by decide)).mpr c)]
    · rw [if_neg c, if_neg (show ¬ nI pm ≤ (1 : Int32) from fun z => c ((lei (b := 1) (by omega) (by decide)).mp z)), if_pos (show hs_in (1 : Int32) 1200 = true by decide)]
      rfl
  have fin : ∀ g3 : hm, nX12_run (nI m) xx yy lim g = (hm_bd (nlX12_run_130 hs_N g3) fun k11 g12 => if k11 = 0 then (njX12_run_181 g12) else (some ((2 : Int32), (hm_w g12 285 36 (g12 285 47))))) → (∀ Q, s_Rs g Q g3 1 0) → (∀ a, a ≠ 319 → g3 a = g5 a) → (∀ i, i < 20 → g3 319 i = l0 pm xx yy i) → ∃ g3, nX12_run (nI m) xx yy lim g = (hm_bd (nlX12_run_130 hs_N g3) fun k11 g12 => if k11 = 0 then (njX12_run_181 g12) else (some ((2 : Int32), (hm_w g12 285 36 (g12 285 47))))) ∧ (∀ Q, s_Rs g Q g3 1 0) ∧ (∀ a, a < 313 → a ≠ 285 → g3 a = g a) ∧ (∀ j, j ≠ 36 → j ≠ 37 → j ≠ 38 → j ≠ 39 → j ≠ 40 → j ≠ 46 → g3 285 j = g 285 j) ∧ g3 285 36 = 0 ∧ g3 285 37 = 0 ∧ g3 285 38 = nI 0 ∧ g3 285 39 = lim ∧ g3 285 40 = nI 1 ∧ g3 285 46 = 0 ∧ (∀ i, i < 4 → g3 313 i = 0) ∧ g3 315 0 = nI m ∧ g3 316 0 = nI 0 ∧ g3 317 0 = nI 0 ∧ ∀ i, i < 20 → g3 319 i = l0 pm xx yy i := by
    intro g3 h1 hRs h2 h3
    have e285 := h2 285 (by decide)
    refine ⟨g3, h1, hRs, fun a x1 x2 => ?_, fun j x1 x2 x3 x4 x5 x6 => ?_, ?_, ?_, ?_, ?_, ?_, ?_, fun i hi2 => ?_, ?_, ?_, ?_, h3⟩
    · rw [h2 a (by omega), d2 a (by omega) x2, G1 a x2, F1 a (by simp; omega)]
    · rw [e285, d11 j x5, J j x1 x2 x3 x4 x5 x6]
    · rw [e285, d11 36 (by decide)]; exact J36
    · rw [e285, d11 37 (by decide)]; exact J37
    · rw [e285, d11 38 (by decide)]; exact J38
    · rw [e285, d11 39 (by decide)]; exact J39
    · rw [e285]; exact d10
    · rw [e285, d11 46 (by decide)]; exact J46
    · rw [h2 313 (by decide), d2 313 (by decide) (by decide), G1 313 (by decide)]; exact Z1 i (Nat.zero_le _) hi2
    · rw [h2 315 (by decide)]; exact d4
    · rw [h2 316 (by decide)]; exact d5
    · rw [h2 317 (by decide)]; exact d6
  have d8' : ∀ i, i < 20 → g5 319 i = 0 := fun i hi2 => by
    have := d8 i hi2
    rw [show 20 * 0 + i = i by omega] at this
    exact this
  by_cases c0 : pm = 0
  · refine fin g5 ?_ R5 (fun _ _ => rfl) (fun i hi2 => ?_)
    · rw [run0, if_pos (show nI pm ≤ (0 : Int32) by rw [c0]; decide), j113 g5 a287, if_pos (by omega)]
    · unfold l0
      rw [if_neg (by omega), if_neg (by omega)]; exact d8' i hi2
  have u0 : ¬ nI pm ≤ (0 : Int32) := fun z => c0 (by have := (lei (b := 0) (by omega) (by decide)).mp z; omega)
  have a287' : hm_w g5 319 0 xx 287 m = nI pm := by rw [hm_w_ne (by decide)]; exact a287
  have run1 : nX12_run (nI m) xx yy lim g = njX12_run_113 (nI m) yy (hm_w g5 319 0 xx) := by
    rw [run0, if_neg u0, if_pos (show hs_in (0 : Int32) 1200 = true by decide)]
    rfl
  by_cases c1 : pm = 1
  · refine fin (hm_w g5 319 0 xx) ?_ (fun Q => (R5 Q).w1 (by decide)) (fun a ha => hm_w_ne ha) (fun i hi2 => ?_)
    · rw [run1, j113 _ a287', if_pos (by omega)]
    · unfold l0
      rw [hm_w_at]
      by_cases ci : i = 0
      · rw [if_pos ci, if_pos ⟨ci, by omega⟩]
      · rw [if_neg ci, if_neg (fun q => ci q.1), if_neg (by omega)]; exact d8' i hi2
  · refine fin (hm_w (hm_w g5 319 0 xx) 319 1 yy) ?_ (fun Q => ((R5 Q).w1 (by decide)).w1 (by decide)) (fun a ha => by rw [hm_w_ne ha, hm_w_ne ha]) (fun i hi2 => ?_)
    · rw [run1, j113 _ a287', if_neg (by omega)]
    · unfold l0
      rw [hm_w_at, hm_w_at]
      by_cases ci : i = 0
      · rw [if_neg (by omega), if_pos ci, if_pos ⟨ci, by omega⟩]
      · by_cases cj : i = 1
        · rw [if_pos cj, if_neg (by omega), if_pos ⟨cj, by omega⟩]
        · rw [if_neg cj, if_neg ci, if_neg (fun q => ci q.1), if_neg (fun q => cj q.1)]; exact d8' i hi2
/-- a run: the two answer alike -/
theorem run_sim {s0 : hs_S} {g : hm} {N m pm : Nat} {p l n h P : Nat → Nat} {c R : Nat → Nat → Nat} (w : WT s0) (X : MX (hs_R s0)) (hS : SF (hs_R s0) 67) (hg : ∀ a, 285 ≤ a → g a = hs_I s0 a) (hW : s_WB g N p l n h c R P) (h4 : g 285 4 = nI N) (hM : HM s0 N) (h22 : ¬ g 285 22 = 0) (hm0 : m < N) (hpm : hs_I s0 (73 + 2 * m) 4 = nI pm) (hp4 : pm ≤ 4) (h287 : hs_I s0 287 m = nI pm) (xx yy lim : Int32) (hl0 : ¬ lim < 0) (hl : lim ≤ (100000 : Int32)) : ∃ r s' g', fX6_perform 100 (nI m) xx yy lim s0 = some (r, s') ∧ nX12_run (nI m) xx yy lim g = some (r, g') ∧ EN s0 s' g' := by
  have hN := hW.2.1.2.1
  obtain ⟨s3, a1, a2, a3, a4, a5, a6, a7, a8, a9, a10, a11, a12, a13, a14⟩ := x_start (n := 0) w X hS (show m < 8 by omega) hpm hp4 xx yy lim
  obtain ⟨g3, b1, b2, b3, b4, b5, b6, b7, b8, b9, b10, b11, b12, b13, b14, b15⟩ := q_start xx yy lim h22 h4 hm0 hN hl0 hl (show g 287 m = nI pm by rw [hg 287 (by decide)]; exact h287) hp4
  obtain ⟨rk, hrk, hgd⟩ := hW.start hm0
  have hl0' : (0 : Int32) ≤ lim := by rw [Int32.le_iff_toInt_le]; have := nlt_toInt hl0; omega
  have I : ∀ b, b ≠ 100 → hs_I (hs_wI s3 100 3 (nI 1)) b = hs_I s3 b := fun b hb => by
    funext i
    rw [hs_I_w, if_neg hb]
  have I100 : ∀ i, i ≠ 3 → hs_I (hs_wI s3 100 3 (nI 1)) 100 i = hs_I s3 100 i := fun i hi => by
    rw [hs_I_w, if_pos rfl, if_neg hi]
  have gr : ∀ a, a ≠ 285 → hm_w g3 285 47 (0 : Int32) a = g3 a := fun a ha => hm_w_ne ha
  have g285 : ∀ j, j ≠ 47 → hm_w g3 285 47 (0 : Int32) 285 j = g3 285 j := fun j hj => hm_w_o hj
  have T : TR s0 (hs_wI s3 100 3 (nI 1)) (hm_w g3 285 47 (0 : Int32)) 0 m 0 0 := by
    refine ⟨⟨a2.wm (by decide), a3, fun b hb => (I b (by omega)).trans (a4 b (by omega)), fun b hb => (I b (by omega)).trans (a4 b (by omega)), a5, fun a x1 x2 => ?_, ?_, ?_, ⟨?_, ?_⟩, ?_, ?_, fun a ha => ?_, fun a z ha hz hg i hi => ?_⟩, by decide, by rw [hs_I_w, if_pos rfl, if_pos rfl], by rw [g285 40 (by decide)]; exact b9, fun f hf => absurd hf (Nat.not_lt_zero _), by omega, by rw [gr 315 (by decide)]; exact b12, a6, by rw [gr 316 (by decide)]; exact b13, ?_, fun i hi => ?_, by decide, by rw [gr 317 (by decide)]; exact b14, ?_, fun i hi => absurd hi (Nat.not_lt_zero _), by rw [hm_w_eq], by rw [g285 46 (by decide)]; exact b10⟩
    · rw [gr a (by omega), b3 a x2 (by omega)]; exact hg a (by omega)
    · rw [I100 6 (by decide), a9, g285 37 (by decide), b6]
    · rw [I100 7 (by decide), a10, g285 38 (by decide), b7]; rfl
    · rw [I100 4 (by decide), I100 6 (by decide), a7, a9, g285 39 (by decide), b8, Int32.sub_zero]
    · rw [g285 39 (by decide), b8]; exact hl0'
    · rw [I100 5 (by decide)]; exact a8
    · rw [g285 36 (by decide)]; exact b5
    · rw [I 103 (by decide), a11 a ha, gr 313 (by decide), b11 a ha]
    · rw [gr 313 (by decide), b11 a ha] at hg
      have := (eqi (a := 0) (b := z) (by decide) (by omega)).mp hg
      omega
    · show hs_I (hs_wI s3 100 3 (nI 1)) 105 4 = nI 0
      rw [I 105 (by decide)]; exact a12
    · show hs_I (hs_wI s3 100 3 (nI 1)) 106 i = hm_w g3 285 47 (0 : Int32) 319 (20 * 0 + i)
      rw [I 106 (by decide), a14 i hi, gr 319 (by decide), show 20 * 0 + i = i by omega, b15 i hi]
    · show hs_I (hs_wI s3 100 3 (nI 1)) 105 2 = nI 0
      rw [I 105 (by decide)]; exact a13
  obtain ⟨r, s', kk, g', e1, e2, e3⟩ := sim_loop (g0 := g) (fun a x1 x2 => hg a (by omega)) hW hS hM hs_N hs_N 60002 0 _ g3 0 0 rk m 0 0 (by unfold hs_N; omega) (by unfold hs_N; omega) (by omega) T (b2 _) b10 hgd (by omega)
  have e1' : lX6_perform_75 hs_N 100 (0 : Int32) (hs_wI s3 100 3 (1 : Int32)) = some (1, r, s') := e1
  have hp : fX6_perform 100 (nI m) xx yy lim s0 = some (r, s') := by
    rw [a1]
    unfold jX6_perform_67
    rw [if_pos (a2.k mk0.1), e1', hs_b3_s, if_neg (by decide)]
  rcases e3 with ⟨k0, g'', q1, q2⟩ | ⟨k1, q1, q2⟩
  · refine ⟨r, s', g'', hp, ?_, q2⟩
    rw [b1, e2, hm_bd_s, if_pos k0]; exact q1
  · refine ⟨r, s', _, hp, ?_, q2⟩
    rw [b1, e2, hm_bd_s, if_neg (by rw [k1]; decide), q1]
