theorem s_U.sj {c : Nat → Nat} {n l N h : Nat} {R : Nat → Nat} {far : Nat → Bool} {S c' : Nat → Nat} (u : s_U c n l N h R far S c') {α : Type} (f : Nat → α) (h0 : f 167 = f 168) {j : Nat} (hB : s_B c j) (hj : j < n) : f (c' (S j)) = f (c j) := by
  rw [u.kd hB hj]
  exact s_kd_same f h0 (u.2.1 j hj hB)
theorem s_U.nj {c : Nat → Nat} {n l N h : Nat} {R : Nat → Nat} {far : Nat → Bool} {S c' : Nat → Nat} (u : s_U c n l N h R far S c') {j : Nat} (hB : s_B c j) (hj : j < n) (hJ : ¬ s_isJ (c j) = true) : c' (S j) = c j ∧ ∀ o, o < s_sz (c j) → c' (S j + o) = c (j + o) := by
  constructor
  · rw [u.kd hB hj]
    unfold s_kd
    rw [if_neg hJ]
  · intro o ho
    have := u.2.2.2.2.2.2 j hB hj o (by rw [s_ln_n hJ]; exact ho)
    rw [if_neg hJ] at this
    exact this
theorem s_U.fix {c : Nat → Nat} {n l N h : Nat} {R : Nat → Nat} {far : Nat → Bool} {S c' : Nat → Nat} (u : s_U c n l N h R far S c') {j : Nat} (hB : s_B c j) (hj : j < n) {K : Nat} (hK : s_isJ K = false) (hs : s_sz K = 2) (e : c' (S j) = K) : c j = K ∧ c' (S j + 1) = c (j + 1) := by
  have h1 := u.sj s_isJ (by decide) hB hj
  rw [e, hK] at h1
  have hJ : ¬ s_isJ (c j) = true := by rw [← h1]; decide
  obtain ⟨a1, a2⟩ := u.nj hB hj hJ
  have e2 : c j = K := by rw [← a1]; exact e
  exact ⟨e2, a2 1 (by rw [e2, hs]; decide)⟩
theorem s_U.end_ {c : Nat → Nat} {n l N h : Nat} {R : Nat → Nat} {far : Nat → Bool} {S c' : Nat → Nat} (u : s_U c n l N h R far S c') : 1 ≤ S n ∧ S n ≤ n := by
  have h1 := u.lt (s_B_0 c) u.nb (by have := u.1.1; omega) (Nat.le_refl n)
  have h2 := (u.2.2.1 0 n (s_B_0 c) u.nb (by omega) (Nat.le_refl n)).2
  rw [u.2.2.2.1] at h1 h2
  omega
theorem s_U.is {c : Nat → Nat} {n l N h : Nat} {R : Nat → Nat} {far : Nat → Bool} {S c' : Nat → Nat} (u : s_U c n l N h R far S c') {j : Nat} (hB : s_B c j) (hj : j < n) : s_is c' (S n) (S j : Int) := by
  have h1 := u.lt hB u.nb hj (Nat.le_refl n)
  refine ⟨by omega, by omega, ?_⟩
  rw [Int.toNat_natCast]
  exact u.b hB (by omega)
theorem s_U.mt {c : Nat → Nat} {n l N h : Nat} {R : Nat → Nat} {far : Nat → Bool} {S c' : Nat → Nat} (u : s_U c n l N h R far S c') {R' : Nat → Nat} (hR : ∀ q, q < h → (∀ i, i < 3 → R' (4 * q + i) = S (R (4 * q + i))) ∧ R' (4 * q + 3) = R (4 * q + 3)) : s_Mt (S n) l N h c' R' := by
  obtain ⟨e1, e2⟩ := u.end_
  have hn := u.1.2.1
  refine ⟨e1, by omega, u.1.2.2.1, u.1.2.2.2.1, fun k hB hk => ?_, fun q hq => ?_, fun k hk hB hJ => ?_⟩
  · obtain ⟨j, j1, j2, rfl⟩ := u.bi hB hk
    obtain ⟨o1, o2, o3⟩ := u.ok j1 j2
    refine ⟨by rw [u.sj s_isK (by decide) j1 j2]; exact o1.1, ?_, fun q => ?_, fun q => ?_, fun q => ?_⟩
    · rw [u.sz j1 j2, ← u.2.2.2.2.1 j j1 j2]
      exact (u.2.2.1 _ n (s_B_next j1) u.nb o1.2.1 (Nat.le_refl n)).1
    · rcases q with q | q
      · obtain ⟨a1, a2⟩ := u.fix j1 j2 (by decide) (by decide) q
        rw [a2]; exact o1.2.2.1 (Or.inl a1)
      · obtain ⟨a1, a2⟩ := u.fix j1 j2 (by decide) (by decide) q
        rw [a2]; exact o1.2.2.1 (Or.inr a1)
    · obtain ⟨a1, a2⟩ := u.fix j1 j2 (by decide) (by decide) q
      rw [a2]; exact o1.2.2.2.1 a1
    · rcases q with q | q | q | q
      · obtain ⟨a1, a2⟩ := u.fix j1 j2 (by decide) (by decide) q
        rw [a2]; exact o1.2.2.2.2 (Or.inl a1)
      · obtain ⟨a1, a2⟩ := u.fix j1 j2 (by decide) (by decide) q
        rw [a2]; exact o1.2.2.2.2 (Or.inr (Or.inl a1))
      · obtain ⟨a1, a2⟩ := u.fix j1 j2 (by decide) (by decide) q
        rw [a2]; exact o1.2.2.2.2 (Or.inr (Or.inr (Or.inl a1)))
      · obtain ⟨a1, a2⟩ := u.fix j1 j2 (by decide) (by decide) q
        rw [a2]; exact o1.2.2.2.2 (Or.inr (Or.inr (Or.inr a1)))
  · obtain ⟨r1, r2⟩ := hR q hq
    obtain ⟨h1, h2, h3, h4, h5⟩ := u.1.2.2.2.2.2.1 q hq
    obtain ⟨z0, y0⟩ := u.1.r3 hq (show 0 < 3 by decide)
    obtain ⟨z1, y1⟩ := u.1.r3 hq (show 1 < 3 by decide)
    obtain ⟨z2, y2⟩ := u.1.r3 hq (show 2 < 3 by decide)
    rw [Nat.add_zero] at z0 y0
    have q0 := r1 0 (by decide)
    rw [Nat.add_zero] at q0
    have l0 := h1.2.1
    have l2 := h2.2.1
    refine ⟨?_, ?_, ?_, ?_, by rw [r2]; exact h5⟩
    · rw [q0]; exact u.is y0 (by omega)
    · rw [r1 2 (by decide)]; exact u.is y2 (by omega)
    · rw [q0, r1 1 (by decide)]; exact u.lt y0 y1 h3 z1
    · rw [r1 1 (by decide)]
      rcases h4 with w | w
      · rw [w]; exact Or.inl rfl
      · have := w.2.1
        exact Or.inr (u.is y1 (by omega))
  · obtain ⟨j, j1, j2, rfl⟩ := u.bi hB hk
    rw [u.sj s_isJ (by decide) j1 j2] at hJ
    obtain ⟨t1, t2, t3⟩ := u.1.2.2.2.2.2.2 j j2 j1 hJ
    rw [u.t j1 j2 hJ]
    exact u.is t3 (by omega)
theorem s_U.tq {c : Nat → Nat} {n l N h : Nat} {R : Nat → Nat} {far : Nat → Bool} {S c' : Nat → Nat} (u : s_U c n l N h R far S c') (par : Nat → Nat) {j : Nat} (hB : s_B c j) (hj : j < n) : s_tq c' par (S j) = s_tq c par j := by
  unfold s_tq
  by_cases e : c j = 184
  · obtain ⟨a1, a2⟩ := u.nj hB hj (by rw [e]; decide)
    rw [if_pos (by rw [a1]; exact e), if_pos e, a2 1 (by rw [e]; decide)]
  · have ne : ¬ c' (S j) = 184 := fun q => e (u.fix hB hj (by decide) (by decide) q).1
    rw [if_neg ne, if_neg e]
    exact u.sj s_tk (by decide) hB hj
theorem s_U.d2 {c : Nat → Nat} {n l N h : Nat} {R : Nat → Nat} {far : Nat → Bool} {S c' : Nat → Nat} (u : s_U c n l N h R far S c') (par : Nat → Nat) {j : Nat} (hB : s_B c j) (hj : j < n) (d : Nat) : s_d2 c' par (S j) d = s_d2 c par j d := by
  unfold s_d2
  rw [u.tq par hB hj, u.sj s_gv (by decide) hB hj]
theorem s_U.rc {c : Nat → Nat} {n l N h : Nat} {R : Nat → Nat} {far : Nat → Bool} {S c' : Nat → Nat} (u : s_U c n l N h R far S c') {par R' : Nat → Nat} (hR : ∀ q, q < h → (∀ i, i < 3 → R' (4 * q + i) = S (R (4 * q + i))) ∧ R' (4 * q + 3) = R (4 * q + 3)) (hD : s_DOK c par n h R) : ∀ (t k d : Nat), s_Rc c' par h R' t k d → ∃ j, s_B c j ∧ j < n ∧ k = S j ∧ s_Rc c par h R t j d
  | 0, k, d, x => by
    rcases x with ⟨x1, x2⟩ | ⟨q, q1, q2, q3⟩
    · exact ⟨0, s_B_0 c, u.1.1, by rw [x1, u.2.2.2.1], Or.inl ⟨rfl, x2⟩⟩
    · obtain ⟨z2, y2⟩ := u.1.h2 q1
      exact ⟨R (4 * q + 2), y2, z2, by rw [q2, (hR q q1).1 2 (by decide)], Or.inr ⟨q, q1, rfl, q3⟩⟩
  | t + 1, k, d, x => by
    rcases x with x | ⟨k0, d0, x1, x2, x3⟩
    · obtain ⟨j, j1, j2, j3, j4⟩ := s_U.rc u hR hD t k d x
      exact ⟨j, j1, j2, j3, Or.inl j4⟩
    · obtain ⟨j, j1, j2, j3, j4⟩ := s_U.rc u hR hD t k0 d0 x1
      subst j3
      have o := hD.2.1 t j d0 j4
      rcases x2 with ⟨f1, f2⟩ | ⟨f1, f2⟩
      · rw [u.sj s_fl (by decide) j1 j2] at f1
        refine ⟨j + s_sz (c j), s_B_next j1, o.2.2 f1, ?_, Or.inr ⟨j, d0, j4, Or.inl ⟨f1, rfl⟩, ?_⟩⟩
        · rw [f2, u.sz j1 j2, u.2.2.2.2.1 j j1 j2]
        · rw [x3, u.d2 par j1 j2]
      · rw [u.sj s_isJ (by decide) j1 j2] at f1
        obtain ⟨t1, t2, t3⟩ := u.1.2.2.2.2.2.2 j j2 j1 f1
        refine ⟨(s_tgt c j).toNat, t3, by omega, ?_, Or.inr ⟨j, d0, j4, Or.inr ⟨f1, rfl⟩, ?_⟩⟩
        · rw [f2, u.t j1 j2 f1, Int.toNat_natCast]
        · rw [x3, u.d2 par j1 j2]
theorem s_U.dok {c : Nat → Nat} {n l N h : Nat} {R : Nat → Nat} {far : Nat → Bool} {S c' : Nat → Nat} (u : s_U c n l N h R far S c') {par R' : Nat → Nat} (hR : ∀ q, q < h → (∀ i, i < 3 → R' (4 * q + i) = S (R (4 * q + i))) ∧ R' (4 * q + 3) = R (4 * q + 3)) (hD : s_DOK c par n h R) : s_DOK c' par (S n) h R' := by
  refine ⟨fun q hq => ?_, fun t k d x => ?_, fun t k d t' d' x y => ?_⟩
  · obtain ⟨z2, y2⟩ := u.1.h2 hq
    have := u.lt (s_B_0 c) y2 (by have := hD.1 q hq; omega) (by omega)
    rw [(hR q hq).1 2 (by decide)]
    omega
  · obtain ⟨j, j1, j2, j3, j4⟩ := u.rc hR hD t k d x
    subst j3
    obtain ⟨o1, o2, o3⟩ := hD.2.1 t j d j4
    refine ⟨by rw [u.tq par j1 j2]; exact o1, by rw [u.d2 par j1 j2]; exact o2, fun f1 => ?_⟩
    rw [u.sj s_fl (by decide) j1 j2] at f1
    have := u.lt (s_B_next j1) u.nb (o3 f1) (Nat.le_refl n)
    rw [u.sz j1 j2, ← u.2.2.2.2.1 j j1 j2]
    exact this
  · obtain ⟨j, j1, j2, j3, j4⟩ := u.rc hR hD t k d x
    obtain ⟨i, i1, i2, i3, i4⟩ := u.rc hR hD t' k d' y
    have e : j = i := u.inj j1 i1 (by omega) (by omega) (by rw [← j3, ← i3])
    subst e
    exact hD.2.2 t j d t' d' j4 i4
