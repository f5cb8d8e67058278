/-- told() -/
theorem q_told {g : hm} {t : Nat} (gt : g 285 2 = nI t) (ht : t ≤ 6000) (hv : s_V3 g) (hF : ¬ g 285 3 = 0 → s_FV g) (hW : ¬ g 285 22 = 0 → s_WV g) (h32 : ¬ g 285 22 = 0 → ¬ g 285 3 = 0) (a1 a2 a3 : Int32) :
    Tq (nX12_told a1 a2 a3 g) (fun q => Fr [294, 295, 296, 297, 298, 299, 301, 302, 303] g q.2) := by
  have go : s_FV g → (¬ a2 = 0 → s_WV g) → Tq (njX12_told_24 a1 a2 a3 g) (fun q => Fr [294, 295, 296, 297, 298, 299, 301, 302, 303] g q.2) := by
    rintro ⟨N, p, l, n, h, c, R, x, y⟩ hw
    have hN := y.2.1
    unfold njX12_told_24
    by_cases c1 : a1 < 0
    · rw [if_pos c1]; exact Tq.some Fr.rf
    obtain ⟨m, hm0, em⟩ := nI_of c1
    subst em
    rw [if_neg c1, x.1]
    by_cases c2 : m < N
    rotate_left
    · rw [if_pos ((lei (by omega) (by omega)).mpr (by omega))]; exact Tq.some Fr.rf
    rw [if_neg (fun q => absurd ((lei (by omega) (by omega)).mp q) (by omega))]
    obtain ⟨G, M⟩ := x.g y c2
    have hi : hs_in (nI m) 8 = true := hin (by omega) (by decide)
    by_cases c3 : a3 < 0
    · rw [if_pos c3]; exact Tq.some Fr.rf
    rw [if_neg c3]
    by_cases c4 : a3 ≤ (5 : Int32)
    rotate_left
    · rw [if_neg c4]; exact Tq.some Fr.rf
    rw [if_pos c4]
    by_cases d0 : a3 = (0 : Int32)
    · rw [if_pos d0, if_pos hi, if_pos hi]
      exact Tq.br (fun _ => Tq.some Fr.rf) (fun _ => Tq.some Fr.rf)
    rw [if_neg d0]
    by_cases d1 : a3 = (1 : Int32)
    · rw [if_pos d1]
      refine Tq.bd ((q_countBlocks G M).mono fun q hq => ?_)
      exact Tq.some (hq.1.mono (by decide))
    rw [if_neg d1]
    by_cases d2 : a3 = (2 : Int32)
    · rw [if_pos d2, if_pos hi]; exact Tq.some Fr.rf
    rw [if_neg d2]
    by_cases d3 : a3 = (3 : Int32)
    · rw [if_pos d3, if_pos hi]
      exact Tq.br (fun _ => Tq.some Fr.rf) (fun _ => Tq.some Fr.rf)
    rw [if_neg d3]
    by_cases d4 : a3 = (4 : Int32)
    · rw [if_pos d4]
      obtain ⟨r, er⟩ := q_longJumps (g := g) (m := m) a2 (fun _ => ⟨n m, h m, l m, N, c m, R m, M, G⟩) (fun q => by
        obtain ⟨N', p', l', n', h', c', R', P', z1, z2, z3, z4, z5⟩ := hw q
        have hN' := z3.2.1
        have eN : N' = N := (eqi (by omega) (by omega)).mp (z1.symm.trans x.1)
        obtain ⟨w1, w2⟩ := z5 m (by omega)
        exact ⟨by omega, n' m, h' m, l' m, N', c' m, R' m, P', (z3.2.2 m (by omega)).2.2.2.1, w2, w1⟩)
      rw [er, hm_bd_s, if_pos hi]
      exact Tq.br (fun _ => Tq.some Fr.rf) (fun _ => Tq.some Fr.rf)
    rw [if_neg d4]
    by_cases d5 : a2 = 0
    · rw [if_pos d5]
      refine Tq.bd ((q_deepest x y c2 gt ht hv).mono fun q hq => ?_)
      exact Tq.some (Fr.mono hq (by decide))
    · rw [if_neg d5]; exact Tq.some Fr.rf
  unfold nX12_told
  by_cases c0 : a2 = 0
  · rw [if_pos c0]
    by_cases c5 : g 285 3 = 0
    · rw [if_pos c5]; exact Tq.some Fr.rf
    · rw [if_neg c5]; exact go (hF c5) (fun q => absurd c0 q)
  · rw [if_neg c0]
    by_cases c5 : g 285 22 = 0
    · rw [if_pos c5]; exact Tq.some Fr.rf
    · rw [if_neg c5]; exact go (hF (h32 c5)) (fun _ => hW c5)
