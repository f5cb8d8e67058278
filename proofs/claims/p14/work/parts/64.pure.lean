/-! THE STATE THAT THE CONSTRUCTORS LEAVE -/
def pp_st : Option (Nat × hs_S) := hs_bv (fX11_init hs_0.1 (hs_new hs_0 9 0)) fun g1 => hs_bv (fX12_init g1.1 (hs_new g1 10 0)) fun g4 => some (g1.1, g4)
def pb_A (g : hs_S) (a j : Nat) : Bool := !(decide (hs_R g a j = 0)) && (decide (gm_k (hs_R g a j - 1) = 100) && (decide (hs_R g a j - 1 < 285) && !(decide (hs_R g a j - 1 = 90))))
def pb_K (g : hs_S) (a j k : Nat) : Bool := !(decide (hs_R g a j = 0)) && decide (gm_k (hs_R g a j - 1) = k)
def pb_L (g : hs_S) (a j k m k2 : Nat) : Bool := !(decide (hs_R g a j = 0)) && (decide (gm_k (hs_R g a j - 1) = k) && (decide (gm_n (hs_R g a j - 1) = m) && (List.range m).all (fun i => pb_K g (hs_R g a j - 1) i k2)))
def pb_C (g : hs_S) (a : Nat) : Bool :=
  (!(decide (gm_k a = 0)) || (pb_A g a 0 && (pb_L g a 1 102 8 6 && pb_K g a 2 6))) && ((!(decide (gm_k a = 1)) || (pb_A g a 0 && pb_A g a 1)) && ((!(decide (gm_k a = 2)) || pb_K g a 0 1) && ((!(decide (gm_k a = 3)) || (pb_A g a 0 && (pb_A g a 1 && pb_K g a 3 6))) &&
  ((!(decide (gm_k a = 4)) || (pb_A g a 0 && (pb_A g a 1 && (pb_A g a 2 && pb_A g a 3)))) && ((!(decide (gm_k a = 5)) || (pb_K g a 0 0 && (pb_L g a 1 103 60 3 && pb_K g a 2 8))) && ((!(decide (gm_k a = 6)) || (pb_A g a 0 && pb_A g a 1)) && ((!(decide (gm_k a = 7)) || (!(decide (hs_R g a 0 = 0)) && decide (hs_R g a 0 - 1 = 90))) && ((!(decide (gm_k a = 8)) || (pb_A g a 0 && pb_A g a 1)) &&
  (!(decide (gm_k a = 9)) || (pb_K g a 0 0 && (pb_K g a 1 0 && (pb_K g a 2 0 && (pb_K g a 3 0 && (pb_K g a 4 7 && (pb_K g a 5 2 && (pb_K g a 6 4 && pb_K g a 7 5))))))))))))))))
def pb_J (g : hs_S) (a : Nat) : Bool := (!(decide (gm_k a = 6)) || (decide (hs_I g a 2 < 1000000) && decide (hs_I g a 3 < 1000000))) && (!(decide (gm_k a = 0)) || (decide (0 ≤ hs_I g a 3) && decide (hs_I g a 3 ≤ 32000)))
def pb_1 (g : hs_S) : Bool := decide (g.1 = 320) && (List.range 320).all (fun a => decide (g.2.1 a = gm_k a) && (decide (g.2.2.1 a = gm_n a) && (pb_C g a && pb_J g a)))
def pb_2 (g : hs_S) : Bool := (List.range 48).all (fun j => decide (hs_R g 285 j = hm_R j)) && ((!(decide (hs_R g 0 0 = hs_R g 0 1))) && ((!(decide (hs_R g 0 0 = hs_R g 0 2))) && ((!(decide (hs_R g 0 1 = hs_R g 0 2))) && ((!(decide (hs_R g 0 0 = hs_R g 0 3))) && ((!(decide (hs_R g 0 1 = hs_R g 0 3))) && ((!(decide (hs_R g 0 2 = hs_R g 0 3))) && (List.range 3).all (fun j => decide (gm_n (hs_R g (hs_R g 0 j - 1) 0 - 1) = 6000))))))))
def pb_3 (g : hs_S) : Bool := decide (hs_I g 285 2 = 0) && (decide (hs_I g 285 3 = 0) && (decide (hs_I g 285 22 = 0) && ((List.range 256).all (fun k => decide (hs_I g 312 k = nI (s_p0 k)) && decide (hs_I g 90 k = nI (s_p0 k))) && ((List.range 8).all (fun m => decide (hs_I g 300 m = 0)) && ((List.range 4).all (fun a => decide (hs_I g 313 a = 0)) && decide (hs_I g (hs_R g 0 0 - 1) 3 = 0))))))
def pb_all : Bool := match pp_st with
  | none => false
  | some (b, g) => decide (b = 285) && (pb_1 g && (pb_2 g && pb_3 g))
set_option maxRecDepth 100000 in
theorem pb_run : pb_all = true := by decide +kernel
