/-! WHAT IS PUT -/
def s_lo (z : Int) : Nat := (z % 256).toNat
def s_hi (z : Int) : Nat := (z / 256 % 256).toNat
theorem s_lo_b (z : Int) : s_lo z < 256 := by unfold s_lo; omega
theorem s_hi_b (z : Int) : s_hi z < 256 := by unfold s_hi; omega
theorem s_lo_s {z : Int} (h1 : -128 ≤ z) (h2 : z ≤ 127) : s_s8 (s_lo z) = z := by
  unfold s_s8 s_lo
  split <;> omega
theorem s_hi_s {z : Int} (h1 : -32768 ≤ z) (h2 : z ≤ 32767) : s_s16 (256 * s_hi z + s_lo z) = z := by
  unfold s_s16 s_lo s_hi
  split <;> omega
theorem nz_lo (z : Int) : zI z &&& (255 : Int32) = nI (s_lo z) := by
  rw [pk_and (zI z) (m := 255) 8 (by decide)]
  have e : (zI z).toBitVec.toNat = (z % 4294967296).toNat := by
    unfold zI
    rw [Int32.toBitVec_ofInt, BitVec.toNat_ofInt]
    rfl
  rw [e]
  unfold s_lo
  congr 1
  omega
theorem nz_hi {z : Int} (h1 : -1000000 < z) (h2 : z < 1000000) : (zI z >>> ((8 : Int32) &&& 31)) &&& (255 : Int32) = nI (s_hi z) := by
  have e : (zI z >>> ((8 : Int32) &&& 31)).toInt = z / 256 := by
    rw [pk_shr (zI z) ((8 : Int32) &&& 31) 8 (by decide), zI_toInt (by omega) (by omega), Int.shiftRight_eq_div_pow]
    rfl
  have e2 : zI z >>> ((8 : Int32) &&& 31) = zI (z / 256) := by
    apply Int32.toInt_inj.mp
    rw [e, zI_toInt (by omega) (by omega)]
  rw [e2, nz_lo]
  rfl
/-- the four bytes of a sum -/
def s_b4 (v i : Nat) : Nat := v / 2 ^ (24 - 8 * i) % 256
theorem q_b4 {v i : Nat} (hv : v < 2147483648) (hi : i < 4) : (nI v >>> (((24 : Int32) - ((8 : Int32) * nI i)) &&& 31)) &&& (255 : Int32) = nI (s_b4 v i) := by
  have go : ∀ (s : Int32) (k : Nat), (s.toBitVec.smod 32).toNat = k → (nI v >>> s) &&& (255 : Int32) = nI (v / 2 ^ k % 256) := by
    intro s k hs
    rw [pk_shrN (by omega) s k hs, pk_andN (Nat.lt_of_le_of_lt (Nat.div_le_self _ _) (by omega)) 8 (by decide)]
  obtain e | e | e | e : i = 0 ∨ i = 1 ∨ i = 2 ∨ i = 3 := by omega
  all_goals
    subst e
    exact go _ _ (by decide)
/-- the row of what is put, outside of [a, e) as it was -/
def s_O (g g' : hm) (a e : Nat) : Prop := Fr [285, 311] g g' ∧ Fo [31] g g' ∧ ∀ i, (i < a ∨ e ≤ i) → g' 311 i = g 311 i
theorem s_O.rf {g : hm} {a e : Nat} : s_O g g a e := ⟨Fr.rf, Fo.rf, fun _ _ => rfl⟩
theorem s_O.tr {g g' g'' : hm} {a e a' e' A E : Nat} (x : s_O g g' a e) (y : s_O g' g'' a' e') (h1 : A ≤ a) (h2 : A ≤ a') (h3 : e ≤ E) (h4 : e' ≤ E) : s_O g g'' A E :=
  ⟨x.1.trans y.1, x.2.1.trans y.2.1, fun i hi => (y.2.2 i (by omega)).trans (x.2.2 i (by omega))⟩
theorem s_O.w {g : hm} {a e j : Nat} {v : Int32} (h1 : a ≤ j) (h2 : j < e) : s_O g (hm_w g 311 j v) a e :=
  ⟨Fr.rf.w (by decide), Fo.rf.wa (by decide), fun i hi => hm_w_o (by omega)⟩
theorem s_O.w31 {g : hm} {a e : Nat} {v : Int32} : s_O g (hm_w g 285 31 v) a e :=
  ⟨Fr.rf.w (by decide), Fo.rf.w (by decide), fun i hi => by rw [hm_w_ne (by decide)]⟩
theorem q_p158 {m n h k p : Nat} {c R : Nat → Nat} (hk : k < n) (hsz : k + s_sz (c k) ≤ n) (hc : c k < 256) (hp : p + s_sz (c k) ≤ 12008) (v2 : Int32) : ∀ (d i f : Nat) (g : hm), i + d = s_sz (c k) → d < f → s_G g m n h c R →
    Tq (nlX12_put_158 f (nI m) v2 (nI k) (nI (c k)) (nI p) (nI i) g) (fun q => s_O g q (p + i) (p + s_sz (c k)) ∧ ∀ j, i ≤ j → j < s_sz (c k) → q 311 (p + j) = nI (c (k + j)))
  | d, i, 0, g, _, hf => absurd hf (Nat.not_lt_zero _)
  | 0, i, f + 1, g, hi, _ => by
    intro x
    rw [nlX12_put_158_s, q_size hc, hm_bd_s, if_pos ((lei (by omega) (by omega)).mpr (by omega))]
    exact Tq.some ⟨s_O.rf, fun j j1 j2 => absurd j2 (by omega)⟩
  | d + 1, i, f + 1, g, hi, hf => by
    intro x
    have x' := x
    obtain ⟨hm8, hn, hh, gn, gh, hC, hR⟩ := x
    have e1 : ((2001 : Int32) * nI m + nI k) + nI i = nI (2001 * m + (k + i)) := by rw [show (2001 : Int32) * nI m + nI k = nI (2001 * m + k) from ix 2001 m k, nI_add, Nat.add_assoc]
    rw [nlX12_put_158_s, q_size hc, hm_bd_s, if_neg (fun q => absurd ((lei (by omega) (by omega)).mp q) (by omega)), e1, nI_add, if_pos (hin (show 2001 * m + (k + i) < 16008 by omega) (by decide)), if_pos (hin (show p + i < 12008 by omega) (by decide)), cl (show p + i < 2147483648 by omega), cl (show 2001 * m + (k + i) < 2147483648 by omega), (hC (k + i) (by omega)).1]
    refine Tq.bve rfl ?_
    rw [nI_1]
    have O1 : s_O g (hm_w g 311 (p + i) (nI (c (k + i)))) (p + i) (p + s_sz (c k)) := s_O.w (by omega) (by omega)
    refine (q_p158 hk hsz hc hp v2 d (i + 1) f _ (by omega) (by omega) (x'.fr O1.1 (by decide) (by decide) (by decide) (by decide))).mono fun q hq => ⟨O1.tr hq.1 (by omega) (by omega) (by omega) (by omega), fun j j1 j2 => ?_⟩
    by_cases ej : j = i
    · rw [hq.1.2.2 (p + j) (by omega), ej, hm_w_eq]
    · exact hq.2 j (by omega) j2
theorem q_p64 {p v : Nat} (hp : p + 5 ≤ 12008) (hv : v < 2147483648) (v1 v2 v3 v4 : Int32) : ∀ (d i f : Nat) (g : hm), i + d = 4 → d < f →
    Tq (nlX12_put_64 f v1 v2 v3 v4 (nI p) (nI v) (nI i) g) (fun q => s_O g q (p + 1 + i) (p + 5) ∧ ∀ j, i ≤ j → j < 4 → q 311 (p + 1 + j) = nI (s_b4 v j))
  | d, i, 0, g, _, hf => absurd hf (Nat.not_lt_zero _)
  | 0, i, f + 1, g, hi, _ => by
    have u : (4 : Int32) ≤ nI i := (lei (a := 4) (by decide) (by omega)).mpr (by omega)
    rw [nlX12_put_64_s, if_pos u]
    exact Tq.some ⟨s_O.rf, fun j j1 j2 => absurd j2 (by omega)⟩
  | d + 1, i, f + 1, g, hi, hf => by
    have u : ¬ (4 : Int32) ≤ nI i := fun q => absurd ((lei (a := 4) (by decide) (by omega)).mp q) (by omega)
    have e1 : (nI p + (1 : Int32)) + nI i = nI (p + 1 + i) := by rw [nI_1, nI_add]
    rw [nlX12_put_64_s, if_neg u, e1, if_pos (hin (show p + 1 + i < 12008 by omega) (by decide)), cl (show p + 1 + i < 2147483648 by omega), q_b4 hv (by omega)]
    refine Tq.bve rfl ?_
    rw [nI_1]
    have O1 : s_O g (hm_w g 311 (p + 1 + i) (nI (s_b4 v i))) (p + 1 + i) (p + 5) := s_O.w (by omega) (by omega)
    refine (q_p64 hp hv v1 v2 v3 v4 d (i + 1) f _ (by omega) (by omega)).mono fun q hq => ⟨O1.tr hq.1 (by omega) (by omega) (by omega) (by omega), fun j j1 j2 => ?_⟩
    by_cases ej : j = i
    · rw [hq.1.2.2 (p + 1 + j) (by omega), ej, hm_w_eq]
    · exact hq.2 j (by omega) j2
