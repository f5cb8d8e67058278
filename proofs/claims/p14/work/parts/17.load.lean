/-! KEEPING AND LOADING -/
/-- the rows of the FILE that is kept -/
def s_F (g : hm) (N : Nat) (p l n h : Nat → Nat) (c R : Nat → Nat → Nat) : Prop := g 285 4 = nI N ∧ ∀ m, m < N → g 287 m = nI (p m) ∧ g 288 m = nI (l m) ∧ g 289 m = nI (n m) ∧ g 290 m = nI (h m) ∧ s_C g 292 (2001 * m) (n m) (c m) ∧ s_Rw g 291 (32 * m) (h m) (R m)
/-- a FILE that is right -/
def s_VF (N : Nat) (p l n h : Nat → Nat) (c R : Nat → Nat → Nat) : Prop := 1 ≤ N ∧ N ≤ 8 ∧ ∀ m, m < N → p m ≤ 4 ∧ p m ≤ l m ∧ l m ≤ 20 ∧ s_Mt (n m) (l m) N (h m) (c m) (R m) ∧ s_DOK (c m) p (n m) (h m) (R m)
def s_FV (g : hm) : Prop := ∃ N p l n h c R, s_F g N p l n h c R ∧ s_VF N p l n h c R
theorem q_k2 : ∀ (d k f : Nat) (g : hm), k + d = 8 → d < f →
    Tq (nlX12_keep_2 f (nI k) g) (fun q => Fr [287, 288, 289, 290] g q ∧ (∀ i, k ≤ i → i < 8 → q 287 i = g 297 i ∧ q 288 i = g 298 i ∧ q 289 i = g 299 i ∧ q 290 i = g 301 i) ∧ ∀ i, i < k → q 287 i = g 287 i ∧ q 288 i = g 288 i ∧ q 289 i = g 289 i ∧ q 290 i = g 290 i)
  | d, k, 0, g, _, hf => absurd hf (Nat.not_lt_zero _)
  | 0, k, f + 1, g, hk, _ => by
    have u : (8 : Int32) ≤ nI k := (lei (a := 8) (by decide) (by omega)).mpr (by omega)
    rw [nlX12_keep_2_s, if_pos u]
    exact Tq.some ⟨Fr.rf, fun i h1 h2 => absurd h2 (by omega), fun i _ => ⟨rfl, rfl, rfl, rfl⟩⟩
  | d + 1, k, f + 1, g, hk, hf => by
    have u : ¬ (8 : Int32) ≤ nI k := fun q => absurd ((lei (a := 8) (by decide) (by omega)).mp q) (by omega)
    have hi : hs_in (nI k) 8 = true := hin (by omega) (by decide)
    rw [nlX12_keep_2_s, if_neg u, if_pos hi, if_pos hi, if_pos hi, if_pos hi]
    refine Tq.bve rfl ?_
    rw [if_pos hi, if_pos hi, if_pos hi, if_pos hi]
    refine Tq.bve rfl ?_
    rw [nI_1, cl (by omega)]
    refine (q_k2 d (k + 1) f _ (by omega) (by omega)).mono fun q hq => ?_
    obtain ⟨h1, h2, h3⟩ := hq
    refine ⟨fun a ha => (h1 a ha).trans ?_, fun i i1 i2 => ?_, fun i i1 => ?_⟩
    · simp only [List.mem_cons, List.not_mem_nil, or_false, not_or] at ha
      rw [hm_w_ne ha.2.2.2, hm_w_ne ha.2.2.1, hm_w_ne ha.2.1, hm_w_ne ha.1]
    · by_cases e : i = k
      · obtain ⟨x1, x2, x3, x4⟩ := h3 i (by omega)
        rw [x1, x2, x3, x4, e]
        simp [hm_w]
      · obtain ⟨x1, x2, x3, x4⟩ := h2 i (by omega) i2
        rw [x1, x2, x3, x4]
        simp [hm_w]
    · obtain ⟨x1, x2, x3, x4⟩ := h3 i (by omega)
      rw [x1, x2, x3, x4]
      have e : ¬ i = k := by omega
      simp [hm_w, e]
theorem q_k64 : ∀ (d k f : Nat) (g : hm), k + d = 256 → d < f →
    Tq (nlX12_keep_64 f (nI k) g) (fun q => Fr [291] g q ∧ (∀ i, k ≤ i → i < 256 → q 291 i = g 302 i) ∧ ∀ i, i < k → q 291 i = g 291 i)
  | d, k, 0, g, _, hf => absurd hf (Nat.not_lt_zero _)
  | 0, k, f + 1, g, hk, _ => by
    have u : (256 : Int32) ≤ nI k := (lei (a := 256) (by decide) (by omega)).mpr (by omega)
    rw [nlX12_keep_64_s, if_pos u]
    exact Tq.some ⟨Fr.rf, fun i h1 h2 => absurd h2 (by omega), fun i _ => rfl⟩
  | d + 1, k, f + 1, g, hk, hf => by
    have u : ¬ (256 : Int32) ≤ nI k := fun q => absurd ((lei (a := 256) (by decide) (by omega)).mp q) (by omega)
    have hi : hs_in (nI k) 256 = true := hin (by omega) (by decide)
    rw [nlX12_keep_64_s, if_neg u, if_pos hi, if_pos hi, nI_1, cl (by omega)]
    refine (q_k64 d (k + 1) f _ (by omega) (by omega)).mono fun q hq => ?_
    obtain ⟨h1, h2, h3⟩ := hq
    refine ⟨fun a ha => (h1 a ha).trans (hm_w_ne (by simpa using ha)), fun i i1 i2 => ?_, fun i i1 => ?_⟩
    · by_cases e : i = k
      · rw [h3 i (by omega), e, hm_w_eq]
      · rw [h2 i (by omega) i2, hm_w_ne (by decide)]
    · rw [h3 i (by omega), hm_w_o (by omega)]
theorem q_k91 : ∀ (d k f : Nat) (g : hm), k + d = 16008 → d < f →
    Tq (nlX12_keep_91 f (nI k) g) (fun q => Fr [292] g q ∧ (∀ i, k ≤ i → i < 16008 → q 292 i = g 303 i) ∧ ∀ i, i < k → q 292 i = g 292 i)
  | d, k, 0, g, _, hf => absurd hf (Nat.not_lt_zero _)
  | 0, k, f + 1, g, hk, _ => by
    have u : (16008 : Int32) ≤ nI k := (lei (a := 16008) (by decide) (by omega)).mpr (by omega)
    rw [nlX12_keep_91_s, if_pos u]
    exact Tq.some ⟨Fr.rf, fun i h1 h2 => absurd h2 (by omega), fun i _ => rfl⟩
  | d + 1, k, f + 1, g, hk, hf => by
    have u : ¬ (16008 : Int32) ≤ nI k := fun q => absurd ((lei (a := 16008) (by decide) (by omega)).mp q) (by omega)
    have hi : hs_in (nI k) 16008 = true := hin (by omega) (by decide)
    rw [nlX12_keep_91_s, if_neg u, if_pos hi, if_pos hi, nI_1, cl (by omega)]
    refine (q_k91 d (k + 1) f _ (by omega) (by omega)).mono fun q hq => ?_
    obtain ⟨h1, h2, h3⟩ := hq
    refine ⟨fun a ha => (h1 a ha).trans (hm_w_ne (by simpa using ha)), fun i i1 i2 => ?_, fun i i1 => ?_⟩
    · by_cases e : i = k
      · rw [h3 i (by omega), e, hm_w_eq]
      · rw [h2 i (by omega) i2, hm_w_ne (by decide)]
    · rw [h3 i (by omega), hm_w_o (by omega)]
theorem q_keep (g : hm) : Tq (nX12_keep g) (fun q => Fr [287, 288, 289, 290, 291, 292] g q ∧ (∀ i, i < 8 → q 287 i = g 297 i ∧ q 288 i = g 298 i ∧ q 289 i = g 299 i ∧ q 290 i = g 301 i) ∧ (∀ i, i < 256 → q 291 i = g 302 i) ∧ ∀ i, i < 16008 → q 292 i = g 303 i) := by
  unfold nX12_keep
  have e0 : (0 : Int32) = nI 0 := rfl
  rw [e0]
  refine Tq.bv ((q_k2 8 0 hs_N g rfl (by unfold hs_N; omega)).mono fun q1 h1 => ?_)
  refine Tq.bv ((q_k64 256 0 hs_N q1 rfl (by unfold hs_N; omega)).mono fun q2 h2 => ?_)
  refine Tq.bv ((q_k91 16008 0 hs_N q2 rfl (by unfold hs_N; omega)).mono fun q3 h3 => ?_)
  refine Tq.some ⟨((h1.1.mono (by decide)).trans (h2.1.mono (by decide))).trans (h3.1.mono (by decide)), fun i hi => ?_, fun i hi => ?_, fun i hi => ?_⟩
  · rw [h3.1 287 (by decide), h3.1 288 (by decide), h3.1 289 (by decide), h3.1 290 (by decide), h2.1 287 (by decide), h2.1 288 (by decide), h2.1 289 (by decide), h2.1 290 (by decide)]
    exact h1.2.1 i (by omega) hi
  · rw [h3.1 291 (by decide), h2.2.1 i (by omega) hi, h1.1 302 (by decide)]
  · rw [h3.2.1 i (by omega) hi, h2.1 303 (by decide), h1.1 303 (by decide)]
/-- load() -/
theorem q_load {t : Nat} {T : Nat → Nat} {g : hm} (hT : s_T g t T) :
    Tq (nX12_load g) (fun q => Fr [285, 287, 288, 289, 290, 291, 292, 293, 295, 296, 297, 298, 299, 300, 301, 302, 303] g q.2 ∧ Fo [2, 3, 4, 22, 33] g q.2 ∧ q.2 285 2 = 0 ∧ (s_V3 g → s_V3 q.2) ∧
      ((s_AC T t ∧ q.1 = nI (T 0) ∧ q.2 285 3 = 1 ∧ q.2 285 22 = 0 ∧ s_F q.2 (T 0) (s_par T) (fun m => T (s_off T m + 1)) (fun m => s_n T (s_off T m)) (fun m => s_h T (s_off T m)) (fun m => s_c T (s_off T m)) (fun m => s_R T (s_off T m)) ∧ s_VF (T 0) (s_par T) (fun m => T (s_off T m + 1)) (fun m => s_n T (s_off T m)) (fun m => s_h T (s_off T m)) (fun m => s_c T (s_off T m)) (fun m => s_R T (s_off T m))) ∨
        (¬ s_AC T t ∧ Fr [285, 293, 295, 296, 297, 298, 299, 300, 301, 302, 303] g q.2 ∧ Fo [2, 33] g q.2))) := by
  unfold nX12_load
  refine Tq.bd ((q_read hT).mono fun q hq => ?_)
  obtain ⟨F, O, Y, alt⟩ := hq
  rcases alt with ⟨q0, hac, hz⟩ | ⟨qn, hno⟩
  · have hN : T 0 ≤ 8 := hac.2.2.1
    have u : (0 : Int32) ≤ q.1 := by rw [q0]; exact (lei (a := 0) (by decide) (by omega)).mpr (by omega)
    rw [if_pos u]
    refine Tq.bve rfl ?_
    generalize hg1 : hm_w (hm_w (hm_w (hm_w q.2 285 2 (0 : Int32)) 285 4 q.1) 285 3 (1 : Int32)) 285 22 (0 : Int32) = g1
    have F1 : Fr [285, 293, 295, 296, 297, 298, 299, 300, 301, 302, 303] g g1 := by rw [← hg1]; exact (((F.w (by decide)).w (by decide)).w (by decide)).w (by decide)
    have G1 : Fr [285] q.2 g1 := by rw [← hg1]; exact (((Fr.rf.w (by decide)).w (by decide)).w (by decide)).w (by decide)
    have O1 : Fo [2, 3, 4, 22, 33] g g1 := by
      rw [← hg1]
      have O' : Fo [2, 3, 4, 22, 33] g q.2 := fun j hj => O j (fun e => hj (by simp only [List.mem_cons, List.not_mem_nil, or_false] at e; rw [e]; decide))
      exact (((O'.w (by decide)).w (by decide)).w (by decide)).w (by decide)
    have a2 : g1 285 2 = 0 := by rw [← hg1, hm_w_o (by decide), hm_w_o (by decide), hm_w_o (by decide), hm_w_eq]
    have a4 : g1 285 4 = nI (T 0) := by rw [← hg1, hm_w_o (by decide), hm_w_o (by decide), hm_w_eq, q0]
    have a3 : g1 285 3 = 1 := by rw [← hg1, hm_w_o (by decide), hm_w_eq]
    have a22 : g1 285 22 = 0 := by rw [← hg1, hm_w_eq]
    refine Tq.bv ((q_keep g1).mono fun q' hq' => ?_)
    obtain ⟨F2, k1, k2, k3⟩ := hq'
    refine Tq.some ⟨(F1.mono (by decide)).trans (F2.mono (by decide)), O1.trans (Fo.of F2 (by decide)), (congrFun (F2 285 (by decide)) _).trans a2, fun v => (Y v).fr ((F2 300 (by decide)).trans (G1 300 (by decide))), Or.inl ⟨hac, q0, (congrFun (F2 285 (by decide)) _).trans a3, (congrFun (F2 285 (by decide)) _).trans a22, ⟨(congrFun (F2 285 (by decide)) _).trans a4, fun m hm8 => ?_⟩, hac.2.1, hN, fun m hm8 => ?_⟩⟩
    · obtain ⟨x1, x2, x3, x4, x5, x6, x7⟩ := hz m hm8
      obtain ⟨y1, y2, y3, y4⟩ := k1 m (by omega)
      have hok := hac.2.2.2.1 m hm8
      have b1 := hok.2.2.2.2.2.2.2.1
      have b2 := hok.2.2.2.2.2.2.2.2.2.1
      refine ⟨(y1.trans (congrFun (G1 297 (by decide)) m)).trans x1, (y2.trans (congrFun (G1 298 (by decide)) m)).trans x2, (y3.trans (congrFun (G1 299 (by decide)) m)).trans x3, (y4.trans (congrFun (G1 301 (by decide)) m)).trans x5, fun k hk => ?_, fun i hi => ?_⟩
      · have hk' : k < s_n T (s_off T m) := hk
        have e := (k3 (2001 * m + k) (by omega)).trans (congrFun (G1 303 (by decide)) (2001 * m + k))
        exact ⟨e.trans (x6 k hk').1, (x6 k hk').2⟩
      · have hi' : i < 4 * s_h T (s_off T m) := hi
        have e := (k2 (32 * m + i) (by omega)).trans (congrFun (G1 302 (by decide)) (32 * m + i))
        exact ⟨e.trans (x7 i hi').1, (x7 i hi').2⟩
    · have hok := hac.2.2.2.1 m hm8
      exact ⟨hok.2.1, hok.2.2.2.1, hok.2.2.2.2.1, hok.mt hN, hac.2.2.2.2.2 m hm8⟩
  · have u : ¬ (0 : Int32) ≤ q.1 := fun u => absurd qn (Int32.not_lt.mpr u)
    rw [if_neg u]
    refine Tq.some ⟨(F.mono (by decide)).w (by decide), ?_, hm_w_eq q.2 285 2 0, fun v => (Y v).fr (show hm_w q.2 285 2 (0 : Int32) 300 = q.2 300 from hm_w_ne (by decide)), Or.inr ⟨hno, F.w (by decide), ?_⟩⟩
    · exact Fo.w (fun j hj => O j (fun e => hj (by simp only [List.mem_cons, List.not_mem_nil, or_false] at e; rw [e]; decide))) (by decide)
    · exact Fo.w (fun j hj => O j (fun e => hj (by simp only [List.mem_cons, List.not_mem_nil, or_false] at e; rw [e]; decide))) (by decide)
