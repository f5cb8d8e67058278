def nX12_paidAt (v1 : Int32) (v2 : Int32) (v3 : Int32) (g : hm) : Option (Int32 × hm) :=
  if v3 = 0 then (
    some ((0 : Int32), g)
  ) else (
    if hs_in v2 2008 = true then
    if (g 294 v2.toNatClampNeg) = 0 then (
      some ((0 : Int32), g)
    ) else (
      hm_bd (nX12_sum v1 v2 g) fun r2 g1 =>
      if r2 ≤ 0 then (
        some ((0 : Int32), g1)
      ) else (
        some ((5 : Int32), g1)
      )
    )
    else none
  )
set_option maxHeartbeats 4000000 in
theorem tX12_paidAt (R : Nat → Nat → Nat) (hR : R 285 = hm_R) (v1 : Int32) (v2 : Int32) (v3 : Int32) (g : hm) : fX12_paidAt 285 v1 v2 v3 (gm g R) = hl_d R (nX12_paidAt v1 v2 v3 g) := by
  unfold fX12_paidAt nX12_paidAt
  simp only [gm_I, gm_R, gm_w, gm_kd, gm_ln, not_false_eq_true, if_true, ite_true, gk_285, gk_286, gk_287, gk_288, gk_289, gk_290, gk_291, gk_292, gk_293, gk_294, gk_295, gk_296, gk_297, gk_298, gk_299, gk_300, gk_301, gk_302, gk_303, gk_304, gk_305, gk_306, gk_307, gk_308, gk_309, gk_310, gk_311, gk_312, gk_313, gk_314, gk_315, gk_316, gk_317, gk_318, gk_319, gn_286, gn_287, gn_288, gn_289, gn_290, gn_291, gn_292, gn_293, gn_294, gn_295, gn_296, gn_297, gn_298, gn_299, gn_300, gn_301, gn_302, gn_303, gn_304, gn_305, gn_306, gn_307, gn_308, gn_309, gn_310, gn_311, gn_312, gn_313, gn_314, gn_315, gn_316, gn_317, gn_318, gn_319, gr_1, gr_5, gr_6, gr_7, gr_8, gr_9, gr_10, gr_11, gr_12, gr_13, gr_14, gr_15, gr_16, gr_17, gr_18, gr_19, gr_20, gr_21, gr_23, gr_24, gr_25, gr_26, gr_27, gr_28, gr_29, gr_30, gr_32, gr_34, gr_35, gr_41, gr_42, gr_43, gr_44, gr_45, gz_1, gz_5, gz_6, gz_7, gz_8, gz_9, gz_10, gz_11, gz_12, gz_13, gz_14, gz_15, gz_16, gz_17, gz_18, gz_19, gz_20, gz_21, gz_23, gz_24, gz_25, gz_26, gz_27, gz_28, gz_29, gz_30, gz_32, gz_34, gz_35, gz_41, gz_42, gz_43, gz_44, gz_45, hl_v_none, hl_v_ite, hl_d_none, hl_d_ite, hl_3_none, hl_3_ite, hl_4_none, hl_4_ite, hl_5_none, hl_5_ite, hl_v_some, hl_d_some, hl_3_some, hl_4_some, hl_5_some, hl_v_bv, hl_d_bv, hl_3_bv, hl_4_bv, hl_5_bv, hl_bv, hl_v_bd, hl_d_bd, hl_3_bd, hl_4_bd, hl_5_bd, hl_bd, hl_v_b3, hl_d_b3, hl_3_b3, hl_4_b3, hl_5_b3, hl_b3, hl_v_b4, hl_d_b4, hl_3_b4, hl_4_b4, hl_5_b4, hl_b4, hl_v_b5, hl_d_b5, hl_3_b5, hl_4_b5, hl_5_b5, hl_b5, hs_bv_i, hm_bv_i, hR, tX12_sum R hR]
  all_goals rfl
def nX12_fits (v0 : Int32) (g : hm) : Option (Int32 × hm) :=
  if v0 < (-128 : Int32) then (
    some ((0 : Int32), g)
  ) else (
    if (127 : Int32) < v0 then (
      some ((0 : Int32), g)
    ) else (
      some ((1 : Int32), g)
    )
  )
set_option maxHeartbeats 4000000 in
theorem tX12_fits (R : Nat → Nat → Nat) (hR : R 285 = hm_R) (v0 : Int32) (g : hm) : fX12_fits v0 (gm g R) = hl_d R (nX12_fits v0 g) := by
  unfold fX12_fits nX12_fits
  simp only [gm_I, gm_R, gm_w, gm_kd, gm_ln, not_false_eq_true, if_true, ite_true, gk_285, gk_286, gk_287, gk_288, gk_289, gk_290, gk_291, gk_292, gk_293, gk_294, gk_295, gk_296, gk_297, gk_298, gk_299, gk_300, gk_301, gk_302, gk_303, gk_304, gk_305, gk_306, gk_307, gk_308, gk_309, gk_310, gk_311, gk_312, gk_313, gk_314, gk_315, gk_316, gk_317, gk_318, gk_319, gn_286, gn_287, gn_288, gn_289, gn_290, gn_291, gn_292, gn_293, gn_294, gn_295, gn_296, gn_297, gn_298, gn_299, gn_300, gn_301, gn_302, gn_303, gn_304, gn_305, gn_306, gn_307, gn_308, gn_309, gn_310, gn_311, gn_312, gn_313, gn_314, gn_315, gn_316, gn_317, gn_318, gn_319, gr_1, gr_5, gr_6, gr_7, gr_8, gr_9, gr_10, gr_11, gr_12, gr_13, gr_14, gr_15, gr_16, gr_17, gr_18, gr_19, gr_20, gr_21, gr_23, gr_24, gr_25, gr_26, gr_27, gr_28, gr_29, gr_30, gr_32, gr_34, gr_35, gr_41, gr_42, gr_43, gr_44, gr_45, gz_1, gz_5, gz_6, gz_7, gz_8, gz_9, gz_10, gz_11, gz_12, gz_13, gz_14, gz_15, gz_16, gz_17, gz_18, gz_19, gz_20, gz_21, gz_23, gz_24, gz_25, gz_26, gz_27, gz_28, gz_29, gz_30, gz_32, gz_34, gz_35, gz_41, gz_42, gz_43, gz_44, gz_45, hl_v_none, hl_v_ite, hl_d_none, hl_d_ite, hl_3_none, hl_3_ite, hl_4_none, hl_4_ite, hl_5_none, hl_5_ite, hl_v_some, hl_d_some, hl_3_some, hl_4_some, hl_5_some, hl_v_bv, hl_d_bv, hl_3_bv, hl_4_bv, hl_5_bv, hl_bv, hl_v_bd, hl_d_bd, hl_3_bd, hl_4_bd, hl_5_bd, hl_bd, hl_v_b3, hl_d_b3, hl_3_b3, hl_4_b3, hl_5_b3, hl_b3, hl_v_b4, hl_d_b4, hl_3_b4, hl_4_b4, hl_5_b4, hl_b4, hl_v_b5, hl_d_b5, hl_3_b5, hl_4_b5, hl_5_b5, hl_b5, hs_bv_i, hm_bv_i, hR]
  all_goals rfl
def nlX12_lay_7 : Nat → Int32 → Int32 → Int32 → hm → Option (hm)
  | 0, _, _, _, _ => none
  | n + 1, v1, v2, v3, g =>
    if hs_in v1 8 = true then
    if (g 289 v1.toNatClampNeg) ≤ v3 then (
      some g
    ) else (
      if hs_in v3 2001 = true then
      nlX12_lay_7 n v1 v2 (v3 + (1 : Int32)) (hm_w g 310 v3.toNatClampNeg (0 : Int32))
      else none
    )
    else none
theorem nlX12_lay_7_s (n : Nat) (v1 : Int32) (v2 : Int32) (v3 : Int32) (g : hm) : nlX12_lay_7 (n + 1) v1 v2 v3 g =
    if hs_in v1 8 = true then
    if (g 289 v1.toNatClampNeg) ≤ v3 then (
      some g
    ) else (
      if hs_in v3 2001 = true then
      nlX12_lay_7 n v1 v2 (v3 + (1 : Int32)) (hm_w g 310 v3.toNatClampNeg (0 : Int32))
      else none
    )
    else none := rfl
def njX12_lay_174 (rec : Int32 → Int32 → hm → Option (Int32 × hm)) (v1 : Int32) (v2 : Int32) (v5 : Int32) (v6 : Int32) (s0 : Int32) (s1 : Int32) (g : hm) : Option (Int32 × hm) :=
  hm_bd (nX12_size v6 g) fun r11 g10 =>
  rec (s1 + s0) (v5 + r11) g10
def njX12_lay_129 (rec : Int32 → Int32 → hm → Option (Int32 × hm)) (v1 : Int32) (v2 : Int32) (v5 : Int32) (v6 : Int32) (s0 : Int32) (g : hm) : Option (Int32 × hm) :=
  if hs_in v5 2001 = true then
  if (g 310 v5.toNatClampNeg) = 0 then (
    njX12_lay_174 rec v1 v2 v5 v6 (2 : Int32) s0 g
  ) else (
    njX12_lay_174 rec v1 v2 v5 v6 (3 : Int32) s0 g
  )
  else none
def njX12_lay_169 (rec : Int32 → Int32 → hm → Option (Int32 × hm)) (v1 : Int32) (v2 : Int32) (v5 : Int32) (v6 : Int32) (s0 : Int32) (g : hm) : Option (Int32 × hm) :=
  hm_bd (nX12_size v6 g) fun r15 g14 =>
  njX12_lay_174 rec v1 v2 v5 v6 r15 s0 g14
def njX12_lay_98 (rec : Int32 → Int32 → hm → Option (Int32 × hm)) (v1 : Int32) (v2 : Int32) (v5 : Int32) (v6 : Int32) (s0 : Int32) (s1 : Int32) (s2 : Int32) (g : hm) : Option (Int32 × hm) :=
  if hs_in v5 2001 = true then
  if v6 = (167 : Int32) then (
    njX12_lay_129 rec v1 v2 v5 v6 (s2 + (s1 + s0)) (hm_w g 309 v5.toNatClampNeg (s2 + (s1 + s0)))
  ) else (
    if v6 = (168 : Int32) then (
      njX12_lay_129 rec v1 v2 v5 v6 (s2 + (s1 + s0)) (hm_w g 309 v5.toNatClampNeg (s2 + (s1 + s0)))
    ) else (
      hm_bd (nX12_isJump v6 (hm_w g 309 v5.toNatClampNeg (s2 + (s1 + s0)))) fun r13 g12 =>
      if r13 = 0 then (
        njX12_lay_169 rec v1 v2 v5 v6 (s2 + (s1 + s0)) g12
      ) else (
        if hs_in v5 2001 = true then
        if (g12 310 v5.toNatClampNeg) = 0 then (
          njX12_lay_169 rec v1 v2 v5 v6 (s2 + (s1 + s0)) g12
        ) else (
          njX12_lay_174 rec v1 v2 v5 v6 (5 : Int32) (s2 + (s1 + s0)) g12
        )
        else none
      )
    )
  )
  else none
def njX12_lay_97 (rec : Int32 → Int32 → hm → Option (Int32 × hm)) (v1 : Int32) (v2 : Int32) (v5 : Int32) (v6 : Int32) (s0 : Int32) (s1 : Int32) (g : hm) : Option (Int32 × hm) :=
  njX12_lay_98 rec v1 v2 v5 v6 (0 : Int32) s0 s1 g
def nlX12_lay_42 : Nat → Int32 → Int32 → Int32 → Int32 → hm → Option (Int32 × hm)
  | 0, _, _, _, _, _ => none
  | n + 1, v1, v2, v4, v5, g =>
    if hs_in v1 8 = true then
    if (g 289 v1.toNatClampNeg) ≤ v5 then (
      some (v4, g)
    ) else (
      hm_bd (nX12_kindAt v1 v5 g) fun r7 g6 =>
      if hs_in v5 2001 = true then
      hm_bd (nX12_paidAt v1 v5 v2 (hm_w g6 308 v5.toNatClampNeg v4)) fun r9 g8 =>
      if v2 = 0 then (
        njX12_lay_97 (fun y0 y1 g => nlX12_lay_42 n v1 v2 y0 y1 g) v1 v2 v5 r7 r9 v4 g8
      ) else (
        if r7 = (188 : Int32) then (
          njX12_lay_98 (fun y0 y1 g => nlX12_lay_42 n v1 v2 y0 y1 g) v1 v2 v5 r7 (1 : Int32) r9 v4 g8
        ) else (
          njX12_lay_97 (fun y0 y1 g => nlX12_lay_42 n v1 v2 y0 y1 g) v1 v2 v5 r7 r9 v4 g8
        )
      )
      else none
    )
    else none
theorem nlX12_lay_42_s (n : Nat) (v1 : Int32) (v2 : Int32) (v4 : Int32) (v5 : Int32) (g : hm) : nlX12_lay_42 (n + 1) v1 v2 v4 v5 g =
    if hs_in v1 8 = true then
    if (g 289 v1.toNatClampNeg) ≤ v5 then (
      some (v4, g)
    ) else (
      hm_bd (nX12_kindAt v1 v5 g) fun r7 g6 =>
      if hs_in v5 2001 = true then
      hm_bd (nX12_paidAt v1 v5 v2 (hm_w g6 308 v5.toNatClampNeg v4)) fun r9 g8 =>
      if v2 = 0 then (
        njX12_lay_97 (fun y0 y1 g => nlX12_lay_42 n v1 v2 y0 y1 g) v1 v2 v5 r7 r9 v4 g8
      ) else (
        if r7 = (188 : Int32) then (
          njX12_lay_98 (fun y0 y1 g => nlX12_lay_42 n v1 v2 y0 y1 g) v1 v2 v5 r7 (1 : Int32) r9 v4 g8
        ) else (
          njX12_lay_97 (fun y0 y1 g => nlX12_lay_42 n v1 v2 y0 y1 g) v1 v2 v5 r7 r9 v4 g8
        )
      )
      else none
    )
    else none := rfl
def njX12_lay_282 (rec : Int32 → Int32 → hm → Option (Int32 × hm)) (v1 : Int32) (v2 : Int32) (v3 : Int32) (v5 : Int32) (v6 : Int32) (g : hm) : Option (Int32 × hm) :=
  hm_bd (nX12_size v6 g) fun r25 g24 =>
  rec v3 (v5 + r25) g24
def nlX12_lay_208 : Nat → Int32 → Int32 → Int32 → Int32 → hm → Option (Int32 × hm)
  | 0, _, _, _, _, _ => none
  | n + 1, v1, v2, v3, v5, g =>
    if hs_in v1 8 = true then
    if (g 289 v1.toNatClampNeg) ≤ v5 then (
      some (v3, g)
    ) else (
      hm_bd (nX12_kindAt v1 v5 g) fun r21 g20 =>
      hm_bd (nX12_isJump r21 g20) fun r23 g22 =>
      if r23 = 0 then (
        njX12_lay_282 (fun y0 y1 g => nlX12_lay_208 n v1 v2 y0 y1 g) v1 v2 v3 v5 r21 g22
      ) else (
        if hs_in v5 2001 = true then
        if (g22 310 v5.toNatClampNeg) = 0 then (
          hm_bd (nX12_leads v1 v5 g22) fun r27 g26 =>
          if hs_in r27 2001 = true then
          if hs_in v5 2001 = true then
          hm_bd (nX12_fits ((g26 308 r27.toNatClampNeg) - (g26 309 v5.toNatClampNeg)) g26) fun r29 g28 =>
          if r29 = 0 then (
            if hs_in v5 2001 = true then
            njX12_lay_282 (fun y0 y1 g => nlX12_lay_208 n v1 v2 y0 y1 g) v1 v2 (1 : Int32) v5 r21 (hm_w g28 310 v5.toNatClampNeg (1 : Int32))
            else none
          ) else (
            njX12_lay_282 (fun y0 y1 g => nlX12_lay_208 n v1 v2 y0 y1 g) v1 v2 v3 v5 r21 g28
          )
          else none else none
        ) else (
          njX12_lay_282 (fun y0 y1 g => nlX12_lay_208 n v1 v2 y0 y1 g) v1 v2 v3 v5 r21 g22
        )
        else none
      )
    )
    else none
theorem nlX12_lay_208_s (n : Nat) (v1 : Int32) (v2 : Int32) (v3 : Int32) (v5 : Int32) (g : hm) : nlX12_lay_208 (n + 1) v1 v2 v3 v5 g =
    if hs_in v1 8 = true then
    if (g 289 v1.toNatClampNeg) ≤ v5 then (
      some (v3, g)
    ) else (
      hm_bd (nX12_kindAt v1 v5 g) fun r21 g20 =>
      hm_bd (nX12_isJump r21 g20) fun r23 g22 =>
      if r23 = 0 then (
        njX12_lay_282 (fun y0 y1 g => nlX12_lay_208 n v1 v2 y0 y1 g) v1 v2 v3 v5 r21 g22
      ) else (
        if hs_in v5 2001 = true then
        if (g22 310 v5.toNatClampNeg) = 0 then (
          hm_bd (nX12_leads v1 v5 g22) fun r27 g26 =>
          if hs_in r27 2001 = true then
          if hs_in v5 2001 = true then
          hm_bd (nX12_fits ((g26 308 r27.toNatClampNeg) - (g26 309 v5.toNatClampNeg)) g26) fun r29 g28 =>
          if r29 = 0 then (
            if hs_in v5 2001 = true then
            njX12_lay_282 (fun y0 y1 g => nlX12_lay_208 n v1 v2 y0 y1 g) v1 v2 (1 : Int32) v5 r21 (hm_w g28 310 v5.toNatClampNeg (1 : Int32))
            else none
          ) else (
            njX12_lay_282 (fun y0 y1 g => nlX12_lay_208 n v1 v2 y0 y1 g) v1 v2 v3 v5 r21 g28
          )
          else none else none
        ) else (
          njX12_lay_282 (fun y0 y1 g => nlX12_lay_208 n v1 v2 y0 y1 g) v1 v2 v3 v5 r21 g22
        )
        else none
      )
    )
    else none := rfl
def nlX12_lay_32 : Nat → Int32 → Int32 → Int32 → hm → Option (hm)
  | 0, _, _, _, _ => none
  | n + 1, v1, v2, v3, g =>
    if v3 = 0 then (
      some g
    ) else (
      hm_bd (nlX12_lay_42 hs_N v1 v2 (0 : Int32) (0 : Int32) g) fun x16 g18 =>
      if hs_in v1 8 = true then
      if hs_in (g18 289 v1.toNatClampNeg) 2001 = true then
      hm_bd (nlX12_lay_208 hs_N v1 v2 (0 : Int32) (0 : Int32) (hm_w g18 308 (g18 289 v1.toNatClampNeg).toNatClampNeg x16)) fun x30 g32 =>
      nlX12_lay_32 n v1 v2 x30 g32
      else none else none
    )
theorem nlX12_lay_32_s (n : Nat) (v1 : Int32) (v2 : Int32) (v3 : Int32) (g : hm) : nlX12_lay_32 (n + 1) v1 v2 v3 g =
    if v3 = 0 then (
      some g
    ) else (
      hm_bd (nlX12_lay_42 hs_N v1 v2 (0 : Int32) (0 : Int32) g) fun x16 g18 =>
      if hs_in v1 8 = true then
      if hs_in (g18 289 v1.toNatClampNeg) 2001 = true then
      hm_bd (nlX12_lay_208 hs_N v1 v2 (0 : Int32) (0 : Int32) (hm_w g18 308 (g18 289 v1.toNatClampNeg).toNatClampNeg x16)) fun x30 g32 =>
      nlX12_lay_32 n v1 v2 x30 g32
      else none else none
    ) := rfl
def nX12_lay (v1 : Int32) (v2 : Int32) (g : hm) : Option (Int32 × hm) :=
  hm_bv (nX12_mark v1 g) fun g1 =>
  hm_bv (nlX12_lay_7 hs_N v1 v2 (0 : Int32) g1) fun g4 =>
  hm_bv (nlX12_lay_32 hs_N v1 v2 (1 : Int32) g4) fun g35 =>
  if hs_in v1 8 = true then
  if hs_in (g35 289 v1.toNatClampNeg) 2001 = true then
  some ((g35 308 (g35 289 v1.toNatClampNeg).toNatClampNeg), g35)
  else none else none
set_option maxHeartbeats 4000000 in
theorem tlX12_lay_7 (R : Nat → Nat → Nat) (hR : R 285 = hm_R) : ∀ (n : Nat) (v1 : Int32) (v2 : Int32) (v3 : Int32) (g : hm), lX12_lay_7 n 285 v1 v2 v3 (gm g R) = hl_v R (nlX12_lay_7 n v1 v2 v3 g) := by
  intro n
  induction n with
  | zero => intros; rfl
  | succ n ih =>
    intro v1 v2 v3 g
    rw [lX12_lay_7_s, nlX12_lay_7_s]
    simp only [gm_I, gm_R, gm_w, gm_kd, gm_ln, not_false_eq_true, if_true, ite_true, gk_285, gk_286, gk_287, gk_288, gk_289, gk_290, gk_291, gk_292, gk_293, gk_294, gk_295, gk_296, gk_297, gk_298, gk_299, gk_300, gk_301, gk_302, gk_303, gk_304, gk_305, gk_306, gk_307, gk_308, gk_309, gk_310, gk_311, gk_312, gk_313, gk_314, gk_315, gk_316, gk_317, gk_318, gk_319, gn_286, gn_287, gn_288, gn_289, gn_290, gn_291, gn_292, gn_293, gn_294, gn_295, gn_296, gn_297, gn_298, gn_299, gn_300, gn_301, gn_302, gn_303, gn_304, gn_305, gn_306, gn_307, gn_308, gn_309, gn_310, gn_311, gn_312, gn_313, gn_314, gn_315, gn_316, gn_317, gn_318, gn_319, gr_1, gr_5, gr_6, gr_7, gr_8, gr_9, gr_10, gr_11, gr_12, gr_13, gr_14, gr_15, gr_16, gr_17, gr_18, gr_19, gr_20, gr_21, gr_23, gr_24, gr_25, gr_26, gr_27, gr_28, gr_29, gr_30, gr_32, gr_34, gr_35, gr_41, gr_42, gr_43, gr_44, gr_45, gz_1, gz_5, gz_6, gz_7, gz_8, gz_9, gz_10, gz_11, gz_12, gz_13, gz_14, gz_15, gz_16, gz_17, gz_18, gz_19, gz_20, gz_21, gz_23, gz_24, gz_25, gz_26, gz_27, gz_28, gz_29, gz_30, gz_32, gz_34, gz_35, gz_41, gz_42, gz_43, gz_44, gz_45, hl_v_none, hl_v_ite, hl_d_none, hl_d_ite, hl_3_none, hl_3_ite, hl_4_none, hl_4_ite, hl_5_none, hl_5_ite, hl_v_some, hl_d_some, hl_3_some, hl_4_some, hl_5_some, hl_v_bv, hl_d_bv, hl_3_bv, hl_4_bv, hl_5_bv, hl_bv, hl_v_bd, hl_d_bd, hl_3_bd, hl_4_bd, hl_5_bd, hl_bd, hl_v_b3, hl_d_b3, hl_3_b3, hl_4_b3, hl_5_b3, hl_b3, hl_v_b4, hl_d_b4, hl_3_b4, hl_4_b4, hl_5_b4, hl_b4, hl_v_b5, hl_d_b5, hl_3_b5, hl_4_b5, hl_5_b5, hl_b5, hs_bv_i, hm_bv_i, hR, tX12_fits R hR, tX12_isJump R hR, tX12_kindAt R hR, tX12_leads R hR, tX12_mark R hR, tX12_paidAt R hR, tX12_size R hR, ih]
    all_goals rfl
set_option maxHeartbeats 4000000 in
theorem tjX12_lay_174 (R : Nat → Nat → Nat) (hR : R 285 = hm_R) (rec : Int32 → Int32 → hs_S → Option (Int32 × hs_S)) (rec2 : Int32 → Int32 → hm → Option (Int32 × hm)) (hrec : ∀ (y0 : Int32) (y1 : Int32) (g : hm), rec y0 y1 (gm g R) = hl_d R (rec2 y0 y1 g)) (v1 : Int32) (v2 : Int32) (v5 : Int32) (v6 : Int32) (s0 : Int32) (s1 : Int32) (g : hm) : jX12_lay_174 rec 285 v1 v2 v5 v6 s0 s1 (gm g R) = hl_d R (njX12_lay_174 rec2 v1 v2 v5 v6 s0 s1 g) := by
  unfold jX12_lay_174 njX12_lay_174
  simp only [gm_I, gm_R, gm_w, gm_kd, gm_ln, not_false_eq_true, if_true, ite_true, gk_285, gk_286, gk_287, gk_288, gk_289, gk_290, gk_291, gk_292, gk_293, gk_294, gk_295, gk_296, gk_297, gk_298, gk_299, gk_300, gk_301, gk_302, gk_303, gk_304, gk_305, gk_306, gk_307, gk_308, gk_309, gk_310, gk_311, gk_312, gk_313, gk_314, gk_315, gk_316, gk_317, gk_318, gk_319, gn_286, gn_287, gn_288, gn_289, gn_290, gn_291, gn_292, gn_293, gn_294, gn_295, gn_296, gn_297, gn_298, gn_299, gn_300, gn_301, gn_302, gn_303, gn_304, gn_305, gn_306, gn_307, gn_308, gn_309, gn_310, gn_311, gn_312, gn_313, gn_314, gn_315, gn_316, gn_317, gn_318, gn_319, gr_1, gr_5, gr_6, gr_7, gr_8, gr_9, gr_10, gr_11, gr_12, gr_13, gr_14, gr_15, gr_16, gr_17, gr_18, gr_19, gr_20, gr_21, gr_23, gr_24, gr_25, gr_26, gr_27, gr_28, gr_29, gr_30, gr_32, gr_34, gr_35, gr_41, gr_42, gr_43, gr_44, gr_45, gz_1, gz_5, gz_6, gz_7, gz_8, gz_9, gz_10, gz_11, gz_12, gz_13, gz_14, gz_15, gz_16, gz_17, gz_18, gz_19, gz_20, gz_21, gz_23, gz_24, gz_25, gz_26, gz_27, gz_28, gz_29, gz_30, gz_32, gz_34, gz_35, gz_41, gz_42, gz_43, gz_44, gz_45, hl_v_none, hl_v_ite, hl_d_none, hl_d_ite, hl_3_none, hl_3_ite, hl_4_none, hl_4_ite, hl_5_none, hl_5_ite, hl_v_some, hl_d_some, hl_3_some, hl_4_some, hl_5_some, hl_v_bv, hl_d_bv, hl_3_bv, hl_4_bv, hl_5_bv, hl_bv, hl_v_bd, hl_d_bd, hl_3_bd, hl_4_bd, hl_5_bd, hl_bd, hl_v_b3, hl_d_b3, hl_3_b3, hl_4_b3, hl_5_b3, hl_b3, hl_v_b4, hl_d_b4, hl_3_b4, hl_4_b4, hl_5_b4, hl_b4, hl_v_b5, hl_d_b5, hl_3_b5, hl_4_b5, hl_5_b5, hl_b5, hs_bv_i, hm_bv_i, hR, tX12_fits R hR, tX12_isJump R hR, tX12_kindAt R hR, tX12_leads R hR, tX12_mark R hR, tX12_paidAt R hR, tX12_size R hR, tlX12_lay_7 R hR, hrec]
  all_goals rfl
set_option maxHeartbeats 4000000 in
theorem tjX12_lay_129 (R : Nat → Nat → Nat) (hR : R 285 = hm_R) (rec : Int32 → Int32 → hs_S → Option (Int32 × hs_S)) (rec2 : Int32 → Int32 → hm → Option (Int32 × hm)) (hrec : ∀ (y0 : Int32) (y1 : Int32) (g : hm), rec y0 y1 (gm g R) = hl_d R (rec2 y0 y1 g)) (v1 : Int32) (v2 : Int32) (v5 : Int32) (v6 : Int32) (s0 : Int32) (g : hm) : jX12_lay_129 rec 285 v1 v2 v5 v6 s0 (gm g R) = hl_d R (njX12_lay_129 rec2 v1 v2 v5 v6 s0 g) := by
  unfold jX12_lay_129 njX12_lay_129
  simp only [gm_I, gm_R, gm_w, gm_kd, gm_ln, not_false_eq_true, if_true, ite_true, gk_285, gk_286, gk_287, gk_288, gk_289, gk_290, gk_291, gk_292, gk_293, gk_294, gk_295, gk_296, gk_297, gk_298, gk_299, gk_300, gk_301, gk_302, gk_303, gk_304, gk_305, gk_306, gk_307, gk_308, gk_309, gk_310, gk_311, gk_312, gk_313, gk_314, gk_315, gk_316, gk_317, gk_318, gk_319, gn_286, gn_287, gn_288, gn_289, gn_290, gn_291, gn_292, gn_293, gn_294, gn_295, gn_296, gn_297, gn_298, gn_299, gn_300, gn_301, gn_302, gn_303, gn_304, gn_305, gn_306, gn_307, gn_308, gn_309, gn_310, gn_311, gn_312, gn_313, gn_314, gn_315, gn_316, gn_317, gn_318, gn_319, gr_1, gr_5, gr_6, gr_7, gr_8, gr_9, gr_10, gr_11, gr_12, gr_13, gr_14, gr_15, gr_16, gr_17, gr_18, gr_19, gr_20, gr_21, gr_23, gr_24, gr_25, gr_26, gr_27, gr_28, gr_29, gr_30, gr_32, gr_34, gr_35, gr_41, gr_42, gr_43, gr_44, gr_45, gz_1, gz_5, gz_6, gz_7, gz_8, gz_9, gz_10, gz_11, gz_12, gz_13, gz_14, gz_15, gz_16, gz_17, gz_18, gz_19, gz_20, gz_21, gz_23, gz_24, gz_25, gz_26, gz_27, gz_28, gz_29, gz_30, gz_32, gz_34, gz_35, gz_41, gz_42, gz_43, gz_44, gz_45, hl_v_none, hl_v_ite, hl_d_none, hl_d_ite, hl_3_none, hl_3_ite, hl_4_none, hl_4_ite, hl_5_none, hl_5_ite, hl_v_some, hl_d_some, hl_3_some, hl_4_some, hl_5_some, hl_v_bv, hl_d_bv, hl_3_bv, hl_4_bv, hl_5_bv, hl_bv, hl_v_bd, hl_d_bd, hl_3_bd, hl_4_bd, hl_5_bd, hl_bd, hl_v_b3, hl_d_b3, hl_3_b3, hl_4_b3, hl_5_b3, hl_b3, hl_v_b4, hl_d_b4, hl_3_b4, hl_4_b4, hl_5_b4, hl_b4, hl_v_b5, hl_d_b5, hl_3_b5, hl_4_b5, hl_5_b5, hl_b5, hs_bv_i, hm_bv_i, hR, tX12_fits R hR, tX12_isJump R hR, tX12_kindAt R hR, tX12_leads R hR, tX12_mark R hR, tX12_paidAt R hR, tX12_size R hR, tlX12_lay_7 R hR, hrec, tjX12_lay_174 R hR rec rec2 hrec]
  all_goals rfl
set_option maxHeartbeats 4000000 in
theorem tjX12_lay_169 (R : Nat → Nat → Nat) (hR : R 285 = hm_R) (rec : Int32 → Int32 → hs_S → Option (Int32 × hs_S)) (rec2 : Int32 → Int32 → hm → Option (Int32 × hm)) (hrec : ∀ (y0 : Int32) (y1 : Int32) (g : hm), rec y0 y1 (gm g R) = hl_d R (rec2 y0 y1 g)) (v1 : Int32) (v2 : Int32) (v5 : Int32) (v6 : Int32) (s0 : Int32) (g : hm) : jX12_lay_169 rec 285 v1 v2 v5 v6 s0 (gm g R) = hl_d R (njX12_lay_169 rec2 v1 v2 v5 v6 s0 g) := by
  unfold jX12_lay_169 njX12_lay_169
  simp only [gm_I, gm_R, gm_w, gm_kd, gm_ln, not_false_eq_true, if_true, ite_true, gk_285, gk_286, gk_287, gk_288, gk_289, gk_290, gk_291, gk_292, gk_293, gk_294, gk_295, gk_296, gk_297, gk_298, gk_299, gk_300, gk_301, gk_302, gk_303, gk_304, gk_305, gk_306, gk_307, gk_308, gk_309, gk_310, gk_311, gk_312, gk_313, gk_314, gk_315, gk_316, gk_317, gk_318, gk_319, gn_286, gn_287, gn_288, gn_289, gn_290, gn_291, gn_292, gn_293, gn_294, gn_295, gn_296, gn_297, gn_298, gn_299, gn_300, gn_301, gn_302, gn_303, gn_304, gn_305, gn_306, gn_307, gn_308, gn_309, gn_310, gn_311, gn_312, gn_313, gn_314, gn_315, gn_316, gn_317, gn_318, gn_319, gr_1, gr_5, gr_6, gr_7, gr_8, gr_9, gr_10, gr_11, gr_12, gr_13, gr_14, gr_15, gr_16, gr_17, gr_18, gr_19, gr_20, gr_21, gr_23, gr_24, gr_25, gr_26, gr_27, gr_28, gr_29, gr_30, gr_32, gr_34, gr_35, gr_41, gr_42, gr_43, gr_44, gr_45, gz_1, gz_5, gz_6, gz_7, gz_8, gz_9, gz_10, gz_11, gz_12, gz_13, gz_14, gz_15, gz_16, gz_17, gz_18, gz_19, gz_20, gz_21, gz_23, gz_24, gz_25, gz_26, gz_27, gz_28, gz_29, gz_30, gz_32, gz_34, gz_35, gz_41, gz_42, gz_43, gz_44, gz_45, hl_v_none, hl_v_ite, hl_d_none, hl_d_ite, hl_3_none, hl_3_ite, hl_4_none, hl_4_ite, hl_5_none, hl_5_ite, hl_v_some, hl_d_some, hl_3_some, hl_4_some, hl_5_some, hl_v_bv, hl_d_bv, hl_3_bv, hl_4_bv, hl_5_bv, hl_bv, hl_v_bd, hl_d_bd, hl_3_bd, hl_4_bd, hl_5_bd, hl_bd, hl_v_b3, hl_d_b3, hl_3_b3, hl_4_b3, hl_5_b3, hl_b3, hl_v_b4, hl_d_b4, hl_3_b4, hl_4_b4, hl_5_b4, hl_b4, hl_v_b5, hl_d_b5, hl_3_b5, hl_4_b5, hl_5_b5, hl_b5, hs_bv_i, hm_bv_i, hR, tX12_fits R hR, tX12_isJump R hR, tX12_kindAt R hR, tX12_leads R hR, tX12_mark R hR, tX12_paidAt R hR, tX12_size R hR, tlX12_lay_7 R hR, hrec, tjX12_lay_174 R hR rec rec2 hrec, tjX12_lay_129 R hR rec rec2 hrec]
  all_goals rfl
set_option maxHeartbeats 4000000 in
theorem tjX12_lay_98 (R : Nat → Nat → Nat) (hR : R 285 = hm_R) (rec : Int32 → Int32 → hs_S → Option (Int32 × hs_S)) (rec2 : Int32 → Int32 → hm → Option (Int32 × hm)) (hrec : ∀ (y0 : Int32) (y1 : Int32) (g : hm), rec y0 y1 (gm g R) = hl_d R (rec2 y0 y1 g)) (v1 : Int32) (v2 : Int32) (v5 : Int32) (v6 : Int32) (s0 : Int32) (s1 : Int32) (s2 : Int32) (g : hm) : jX12_lay_98 rec 285 v1 v2 v5 v6 s0 s1 s2 (gm g R) = hl_d R (njX12_lay_98 rec2 v1 v2 v5 v6 s0 s1 s2 g) := by
  unfold jX12_lay_98 njX12_lay_98
  simp only [gm_I, gm_R, gm_w, gm_kd, gm_ln, not_false_eq_true, if_true, ite_true, gk_285, gk_286, gk_287, gk_288, gk_289, gk_290, gk_291, gk_292, gk_293, gk_294, gk_295, gk_296, gk_297, gk_298, gk_299, gk_300, gk_301, gk_302, gk_303, gk_304, gk_305, gk_306, gk_307, gk_308, gk_309, gk_310, gk_311, gk_312, gk_313, gk_314, gk_315, gk_316, gk_317, gk_318, gk_319, gn_286, gn_287, gn_288, gn_289, gn_290, gn_291, gn_292, gn_293, gn_294, gn_295, gn_296, gn_297, gn_298, gn_299, gn_300, gn_301, gn_302, gn_303, gn_304, gn_305, gn_306, gn_307, gn_308, gn_309, gn_310, gn_311, gn_312, gn_313, gn_314, gn_315, gn_316, gn_317, gn_318, gn_319, gr_1, gr_5, gr_6, gr_7, gr_8, gr_9, gr_10, gr_11, gr_12, gr_13, gr_14, gr_15, gr_16, gr_17, gr_18, gr_19, gr_20, gr_21, gr_23, gr_24, gr_25, gr_26, gr_27, gr_28, gr_29, gr_30, gr_32, gr_34, gr_35, gr_41, gr_42, gr_43, gr_44, gr_45, gz_1, gz_5, gz_6, gz_7, gz_8, gz_9, gz_10, gz_11, gz_12, gz_13, gz_14, gz_15, gz_16, gz_17, gz_18, gz_19, gz_20, gz_21, gz_23, gz_24, gz_25, gz_26, gz_27, gz_28, gz_29, gz_30, gz_32, gz_34, gz_35, gz_41, gz_42, gz_43, gz_44, gz_45, hl_v_none, hl_v_ite, hl_d_none, hl_d_ite, hl_3_none, hl_3_ite, hl_4_none, hl_4_ite, hl_5_none, hl_5_ite, hl_v_some, hl_d_some, hl_3_some, hl_4_some, hl_5_some, hl_v_bv, hl_d_bv, hl_3_bv, hl_4_bv, hl_5_bv, hl_bv, hl_v_bd, hl_d_bd, hl_3_bd, hl_4_bd, hl_5_bd, hl_bd, hl_v_b3, hl_d_b3, hl_3_b3, hl_4_b3, hl_5_b3, hl_b3, hl_v_b4, hl_d_b4, hl_3_b4, hl_4_b4, hl_5_b4, hl_b4, hl_v_b5, hl_d_b5, hl_3_b5, hl_4_b5, hl_5_b5, hl_b5, hs_bv_i, hm_bv_i, hR, tX12_fits R hR, tX12_isJump R hR, tX12_kindAt R hR, tX12_leads R hR, tX12_mark R hR, tX12_paidAt R hR, tX12_size R hR, tlX12_lay_7 R hR, hrec, tjX12_lay_174 R hR rec rec2 hrec, tjX12_lay_129 R hR rec rec2 hrec, tjX12_lay_169 R hR rec rec2 hrec]
  all_goals rfl
set_option maxHeartbeats 4000000 in
theorem tjX12_lay_97 (R : Nat → Nat → Nat) (hR : R 285 = hm_R) (rec : Int32 → Int32 → hs_S → Option (Int32 × hs_S)) (rec2 : Int32 → Int32 → hm → Option (Int32 × hm)) (hrec : ∀ (y0 : Int32) (y1 : Int32) (g : hm), rec y0 y1 (gm g R) = hl_d R (rec2 y0 y1 g)) (v1 : Int32) (v2 : Int32) (v5 : Int32) (v6 : Int32) (s0 : Int32) (s1 : Int32) (g : hm) : jX12_lay_97 rec 285 v1 v2 v5 v6 s0 s1 (gm g R) = hl_d R (njX12_lay_97 rec2 v1 v2 v5 v6 s0 s1 g) := by
  unfold jX12_lay_97 njX12_lay_97
  simp only [gm_I, gm_R, gm_w, gm_kd, gm_ln, not_false_eq_true, if_true, ite_true, gk_285, gk_286, gk_287, gk_288, gk_289, gk_290, gk_291, gk_292, gk_293, gk_294, gk_295, gk_296, gk_297, gk_298, gk_299, gk_300, gk_301, gk_302, gk_303, gk_304, gk_305, gk_306, gk_307, gk_308, gk_309, gk_310, gk_311, gk_312, gk_313, gk_314, gk_315, gk_316, gk_317, gk_318, gk_319, gn_286, gn_287, gn_288, gn_289, gn_290, gn_291, gn_292, gn_293, gn_294, gn_295, gn_296, gn_297, gn_298, gn_299, gn_300, gn_301, gn_302, gn_303, gn_304, gn_305, gn_306, gn_307, gn_308, gn_309, gn_310, gn_311, gn_312, gn_313, gn_314, gn_315, gn_316, gn_317, gn_318, gn_319, gr_1, gr_5, gr_6, gr_7, gr_8, gr_9, gr_10, gr_11, gr_12, gr_13, gr_14, gr_15, gr_16, gr_17, gr_18, gr_19, gr_20, gr_21, gr_23, gr_24, gr_25, gr_26, gr_27, gr_28, gr_29, gr_30, gr_32, gr_34, gr_35, gr_41, gr_42, gr_43, gr_44, gr_45, gz_1, gz_5, gz_6, gz_7, gz_8, gz_9, gz_10, gz_11, gz_12, gz_13, gz_14, gz_15, gz_16, gz_17, gz_18, gz_19, gz_20, gz_21, gz_23, gz_24, gz_25, gz_26, gz_27, gz_28, gz_29, gz_30, gz_32, gz_34, gz_35, gz_41, gz_42, gz_43, gz_44, gz_45, hl_v_none, hl_v_ite, hl_d_none, hl_d_ite, hl_3_none, hl_3_ite, hl_4_none, hl_4_ite, hl_5_none, hl_5_ite, hl_v_some, hl_d_some, hl_3_some, hl_4_some, hl_5_some, hl_v_bv, hl_d_bv, hl_3_bv, hl_4_bv, hl_5_bv, hl_bv, hl_v_bd, hl_d_bd, hl_3_bd, hl_4_bd, hl_5_bd, hl_bd, hl_v_b3, hl_d_b3, hl_3_b3, hl_4_b3, hl_5_b3, hl_b3, hl_v_b4, hl_d_b4, hl_3_b4, hl_4_b4, hl_5_b4, hl_b4, hl_v_b5, hl_d_b5, hl_3_b5, hl_4_b5, hl_5_b5, hl_b5, hs_bv_i, hm_bv_i, hR, tX12_fits R hR, tX12_isJump R hR, tX12_kindAt R hR, tX12_leads R hR, tX12_mark R hR, tX12_paidAt R hR, tX12_size R hR, tlX12_lay_7 R hR, hrec, tjX12_lay_174 R hR rec rec2 hrec, tjX12_lay_129 R hR rec rec2 hrec, tjX12_lay_169 R hR rec rec2 hrec, tjX12_lay_98 R hR rec rec2 hrec]
  all_goals rfl
set_option maxHeartbeats 4000000 in
theorem tlX12_lay_42 (R : Nat → Nat → Nat) (hR : R 285 = hm_R) : ∀ (n : Nat) (v1 : Int32) (v2 : Int32) (v4 : Int32) (v5 : Int32) (g : hm), lX12_lay_42 n 285 v1 v2 v4 v5 (gm g R) = hl_d R (nlX12_lay_42 n v1 v2 v4 v5 g) := by
  intro n
  induction n with
  | zero => intros; rfl
  | succ n ih =>
    intro v1 v2 v4 v5 g
    rw [lX12_lay_42_s, nlX12_lay_42_s]
    simp only [gm_I, gm_R, gm_w, gm_kd, gm_ln, not_false_eq_true, if_true, ite_true, gk_285, gk_286, gk_287, gk_288, gk_289, gk_290, gk_291, gk_292, gk_293, gk_294, gk_295, gk_296, gk_297, gk_298, gk_299, gk_300, gk_301, gk_302, gk_303, gk_304, gk_305, gk_306, gk_307, gk_308, gk_309, gk_310, gk_311, gk_312, gk_313, gk_314, gk_315, gk_316, gk_317, gk_318, gk_319, gn_286, gn_287, gn_288, gn_289, gn_290, gn_291, gn_292, gn_293, gn_294, gn_295, gn_296, gn_297, gn_298, gn_299, gn_300, gn_301, gn_302, gn_303, gn_304, gn_305, gn_306, gn_307, gn_308, gn_309, gn_310, gn_311, gn_312, gn_313, gn_314, gn_315, gn_316, gn_317, gn_318, gn_319, gr_1, gr_5, gr_6, gr_7, gr_8, gr_9, gr_10, gr_11, gr_12, gr_13, gr_14, gr_15, gr_16, gr_17, gr_18, gr_19, gr_20, gr_21, gr_23, gr_24, gr_25, gr_26, gr_27, gr_28, gr_29, gr_30, gr_32, gr_34, gr_35, gr_41, gr_42, gr_43, gr_44, gr_45, gz_1, gz_5, gz_6, gz_7, gz_8, gz_9, gz_10, gz_11, gz_12, gz_13, gz_14, gz_15, gz_16, gz_17, gz_18, gz_19, gz_20, gz_21, gz_23, gz_24, gz_25, gz_26, gz_27, gz_28, gz_29, gz_30, gz_32, gz_34, gz_35, gz_41, gz_42, gz_43, gz_44, gz_45, hl_v_none, hl_v_ite, hl_d_none, hl_d_ite, hl_3_none, hl_3_ite, hl_4_none, hl_4_ite, hl_5_none, hl_5_ite, hl_v_some, hl_d_some, hl_3_some, hl_4_some, hl_5_some, hl_v_bv, hl_d_bv, hl_3_bv, hl_4_bv, hl_5_bv, hl_bv, hl_v_bd, hl_d_bd, hl_3_bd, hl_4_bd, hl_5_bd, hl_bd, hl_v_b3, hl_d_b3, hl_3_b3, hl_4_b3, hl_5_b3, hl_b3, hl_v_b4, hl_d_b4, hl_3_b4, hl_4_b4, hl_5_b4, hl_b4, hl_v_b5, hl_d_b5, hl_3_b5, hl_4_b5, hl_5_b5, hl_b5, hs_bv_i, hm_bv_i, hR, tX12_fits R hR, tX12_isJump R hR, tX12_kindAt R hR, tX12_leads R hR, tX12_mark R hR, tX12_paidAt R hR, tX12_size R hR, tlX12_lay_7 R hR, ih, tjX12_lay_174 R hR _ _ (fun y0 y1 g => ih v1 v2 y0 y1 g), tjX12_lay_129 R hR _ _ (fun y0 y1 g => ih v1 v2 y0 y1 g), tjX12_lay_169 R hR _ _ (fun y0 y1 g => ih v1 v2 y0 y1 g), tjX12_lay_98 R hR _ _ (fun y0 y1 g => ih v1 v2 y0 y1 g), tjX12_lay_97 R hR _ _ (fun y0 y1 g => ih v1 v2 y0 y1 g)]
    all_goals rfl
set_option maxHeartbeats 4000000 in
theorem tjX12_lay_282 (R : Nat → Nat → Nat) (hR : R 285 = hm_R) (rec : Int32 → Int32 → hs_S → Option (Int32 × hs_S)) (rec2 : Int32 → Int32 → hm → Option (Int32 × hm)) (hrec : ∀ (y0 : Int32) (y1 : Int32) (g : hm), rec y0 y1 (gm g R) = hl_d R (rec2 y0 y1 g)) (v1 : Int32) (v2 : Int32) (v3 : Int32) (v5 : Int32) (v6 : Int32) (g : hm) : jX12_lay_282 rec 285 v1 v2 v3 v5 v6 (gm g R) = hl_d R (njX12_lay_282 rec2 v1 v2 v3 v5 v6 g) := by
  unfold jX12_lay_282 njX12_lay_282
  simp only [gm_I, gm_R, gm_w, gm_kd, gm_ln, not_false_eq_true, if_true, ite_true, gk_285, gk_286, gk_287, gk_288, gk_289, gk_290, gk_291, gk_292, gk_293, gk_294, gk_295, gk_296, gk_297, gk_298, gk_299, gk_300, gk_301, gk_302, gk_303, gk_304, gk_305, gk_306, gk_307, gk_308, gk_309, gk_310, gk_311, gk_312, gk_313, gk_314, gk_315, gk_316, gk_317, gk_318, gk_319, gn_286, gn_287, gn_288, gn_289, gn_290, gn_291, gn_292, gn_293, gn_294, gn_295, gn_296, gn_297, gn_298, gn_299, gn_300, gn_301, gn_302, gn_303, gn_304, gn_305, gn_306, gn_307, gn_308, gn_309, gn_310, gn_311, gn_312, gn_313, gn_314, gn_315, gn_316, gn_317, gn_318, gn_319, gr_1, gr_5, gr_6, gr_7, gr_8, gr_9, gr_10, gr_11, gr_12, gr_13, gr_14, gr_15, gr_16, gr_17, gr_18, gr_19, gr_20, gr_21, gr_23, gr_24, gr_25, gr_26, gr_27, gr_28, gr_29, gr_30, gr_32, gr_34, gr_35, gr_41, gr_42, gr_43, gr_44, gr_45, gz_1, gz_5, gz_6, gz_7, gz_8, gz_9, gz_10, gz_11, gz_12, gz_13, gz_14, gz_15, gz_16, gz_17, gz_18, gz_19, gz_20, gz_21, gz_23, gz_24, gz_25, gz_26, gz_27, gz_28, gz_29, gz_30, gz_32, gz_34, gz_35, gz_41, gz_42, gz_43, gz_44, gz_45, hl_v_none, hl_v_ite, hl_d_none, hl_d_ite, hl_3_none, hl_3_ite, hl_4_none, hl_4_ite, hl_5_none, hl_5_ite, hl_v_some, hl_d_some, hl_3_some, hl_4_some, hl_5_some, hl_v_bv, hl_d_bv, hl_3_bv, hl_4_bv, hl_5_bv, hl_bv, hl_v_bd, hl_d_bd, hl_3_bd, hl_4_bd, hl_5_bd, hl_bd, hl_v_b3, hl_d_b3, hl_3_b3, hl_4_b3, hl_5_b3, hl_b3, hl_v_b4, hl_d_b4, hl_3_b4, hl_4_b4, hl_5_b4, hl_b4, hl_v_b5, hl_d_b5, hl_3_b5, hl_4_b5, hl_5_b5, hl_b5, hs_bv_i, hm_bv_i, hR, tX12_fits R hR, tX12_isJump R hR, tX12_kindAt R hR, tX12_leads R hR, tX12_mark R hR, tX12_paidAt R hR, tX12_size R hR, tlX12_lay_7 R hR, tlX12_lay_42 R hR, hrec]
  all_goals rfl
set_option maxHeartbeats 4000000 in
theorem tlX12_lay_208 (R : Nat → Nat → Nat) (hR : R 285 = hm_R) : ∀ (n : Nat) (v1 : Int32) (v2 : Int32) (v3 : Int32) (v5 : Int32) (g : hm), lX12_lay_208 n 285 v1 v2 v3 v5 (gm g R) = hl_d R (nlX12_lay_208 n v1 v2 v3 v5 g) := by
  intro n
  induction n with
  | zero => intros; rfl
  | succ n ih =>
    intro v1 v2 v3 v5 g
    rw [lX12_lay_208_s, nlX12_lay_208_s]
    simp only [gm_I, gm_R, gm_w, gm_kd, gm_ln, not_false_eq_true, if_true, ite_true, gk_285, gk_286, gk_287, gk_288, gk_289, gk_290, gk_291, gk_292, gk_293, gk_294, gk_295, gk_296, gk_297, gk_298, gk_299, gk_300, gk_301, gk_302, gk_303, gk_304, gk_305, gk_306, gk_307, gk_308, gk_309, gk_310, gk_311, gk_312, gk_313, gk_314, gk_315, gk_316, gk_317, gk_318, gk_319, gn_286, gn_287, gn_288, gn_289, gn_290, gn_291, gn_292, gn_293, gn_294, gn_295, gn_296, gn_297, gn_298, gn_299, gn_300, gn_301, gn_302, gn_303, gn_304, gn_305, gn_306, gn_307, gn_308, gn_309, gn_310, gn_311, gn_312, gn_313, gn_314, gn_315, gn_316, gn_317, gn_318, gn_319, gr_1, gr_5, gr_6, gr_7, gr_8, gr_9, gr_10, gr_11, gr_12, gr_13, gr_14, gr_15, gr_16, gr_17, gr_18, gr_19, gr_20, gr_21, gr_23, gr_24, gr_25, gr_26, gr_27, gr_28, gr_29, gr_30, gr_32, gr_34, gr_35, gr_41, gr_42, gr_43, gr_44, gr_45, gz_1, gz_5, gz_6, gz_7, gz_8, gz_9, gz_10, gz_11, gz_12, gz_13, gz_14, gz_15, gz_16, gz_17, gz_18, gz_19, gz_20, gz_21, gz_23, gz_24, gz_25, gz_26, gz_27, gz_28, gz_29, gz_30, gz_32, gz_34, gz_35, gz_41, gz_42, gz_43, gz_44, gz_45, hl_v_none, hl_v_ite, hl_d_none, hl_d_ite, hl_3_none, hl_3_ite, hl_4_none, hl_4_ite, hl_5_none, hl_5_ite, hl_v_some, hl_d_some, hl_3_some, hl_4_some, hl_5_some, hl_v_bv, hl_d_bv, hl_3_bv, hl_4_bv, hl_5_bv, hl_bv, hl_v_bd, hl_d_bd, hl_3_bd, hl_4_bd, hl_5_bd, hl_bd, hl_v_b3, hl_d_b3, hl_3_b3, hl_4_b3, hl_5_b3, hl_b3, hl_v_b4, hl_d_b4, hl_3_b4, hl_4_b4, hl_5_b4, hl_b4, hl_v_b5, hl_d_b5, hl_3_b5, hl_4_b5, hl_5_b5, hl_b5, hs_bv_i, hm_bv_i, hR, tX12_fits R hR, tX12_isJump R hR, tX12_kindAt R hR, tX12_leads R hR, tX12_mark R hR, tX12_paidAt R hR, tX12_size R hR, tlX12_lay_7 R hR, tlX12_lay_42 R hR, ih, tjX12_lay_282 R hR _ _ (fun y0 y1 g => ih v1 v2 y0 y1 g)]
    all_goals rfl
set_option maxHeartbeats 4000000 in
theorem tlX12_lay_32 (R : Nat → Nat → Nat) (hR : R 285 = hm_R) : ∀ (n : Nat) (v1 : Int32) (v2 : Int32) (v3 : Int32) (g : hm), lX12_lay_32 n 285 v1 v2 v3 (gm g R) = hl_v R (nlX12_lay_32 n v1 v2 v3 g) := by
  intro n
  induction n with
  | zero => intros; rfl
  | succ n ih =>
    intro v1 v2 v3 g
    rw [lX12_lay_32_s, nlX12_lay_32_s]
    simp only [gm_I, gm_R, gm_w, gm_kd, gm_ln, not_false_eq_true, if_true, ite_true, gk_285, gk_286, gk_287, gk_288, gk_289, gk_290, gk_291, gk_292, gk_293, gk_294, gk_295, gk_296, gk_297, gk_298, gk_299, gk_300, gk_301, gk_302, gk_303, gk_304, gk_305, gk_306, gk_307, gk_308, gk_309, gk_310, gk_311, gk_312, gk_313, gk_314, gk_315, gk_316, gk_317, gk_318, gk_319, gn_286, gn_287, gn_288, gn_289, gn_290, gn_291, gn_292, gn_293, gn_294, gn_295, gn_296, gn_297, gn_298, gn_299, gn_300, gn_301, gn_302, gn_303, gn_304, gn_305, gn_306, gn_307, gn_308, gn_309, gn_310, gn_311, gn_312, gn_313, gn_314, gn_315, gn_316, gn_317, gn_318, gn_319, gr_1, gr_5, gr_6, gr_7, gr_8, gr_9, gr_10, gr_11, gr_12, gr_13, gr_14, gr_15, gr_16, gr_17, gr_18, gr_19, gr_20, gr_21, gr_23, gr_24, gr_25, gr_26, gr_27, gr_28, gr_29, gr_30, gr_32, gr_34, gr_35, gr_41, gr_42, gr_43, gr_44, gr_45, gz_1, gz_5, gz_6, gz_7, gz_8, gz_9, gz_10, gz_11, gz_12, gz_13, gz_14, gz_15, gz_16, gz_17, gz_18, gz_19, gz_20, gz_21, gz_23, gz_24, gz_25, gz_26, gz_27, gz_28, gz_29, gz_30, gz_32, gz_34, gz_35, gz_41, gz_42, gz_43, gz_44, gz_45, hl_v_none, hl_v_ite, hl_d_none, hl_d_ite, hl_3_none, hl_3_ite, hl_4_none, hl_4_ite, hl_5_none, hl_5_ite, hl_v_some, hl_d_some, hl_3_some, hl_4_some, hl_5_some, hl_v_bv, hl_d_bv, hl_3_bv, hl_4_bv, hl_5_bv, hl_bv, hl_v_bd, hl_d_bd, hl_3_bd, hl_4_bd, hl_5_bd, hl_bd, hl_v_b3, hl_d_b3, hl_3_b3, hl_4_b3, hl_5_b3, hl_b3, hl_v_b4, hl_d_b4, hl_3_b4, hl_4_b4, hl_5_b4, hl_b4, hl_v_b5, hl_d_b5, hl_3_b5, hl_4_b5, hl_5_b5, hl_b5, hs_bv_i, hm_bv_i, hR, tX12_fits R hR, tX12_isJump R hR, tX12_kindAt R hR, tX12_leads R hR, tX12_mark R hR, tX12_paidAt R hR, tX12_size R hR, tlX12_lay_7 R hR, tlX12_lay_42 R hR, tlX12_lay_208 R hR, ih]
    all_goals rfl
set_option maxHeartbeats 4000000 in
theorem tX12_lay (R : Nat → Nat → Nat) (hR : R 285 = hm_R) (v1 : Int32) (v2 : Int32) (g : hm) : fX12_lay 285 v1 v2 (gm g R) = hl_d R (nX12_lay v1 v2 g) := by
  unfold fX12_lay nX12_lay
  simp only [gm_I, gm_R, gm_w, gm_kd, gm_ln, not_false_eq_true, if_true, ite_true, gk_285, gk_286, gk_287, gk_288, gk_289, gk_290, gk_291, gk_292, gk_293, gk_294, gk_295, gk_296, gk_297, gk_298, gk_299, gk_300, gk_301, gk_302, gk_303, gk_304, gk_305, gk_306, gk_307, gk_308, gk_309, gk_310, gk_311, gk_312, gk_313, gk_314, gk_315, gk_316, gk_317, gk_318, gk_319, gn_286, gn_287, gn_288, gn_289, gn_290, gn_291, gn_292, gn_293, gn_294, gn_295, gn_296, gn_297, gn_298, gn_299, gn_300, gn_301, gn_302, gn_303, gn_304, gn_305, gn_306, gn_307, gn_308, gn_309, gn_310, gn_311, gn_312, gn_313, gn_314, gn_315, gn_316, gn_317, gn_318, gn_319, gr_1, gr_5, gr_6, gr_7, gr_8, gr_9, gr_10, gr_11, gr_12, gr_13, gr_14, gr_15, gr_16, gr_17, gr_18, gr_19, gr_20, gr_21, gr_23, gr_24, gr_25, gr_26, gr_27, gr_28, gr_29, gr_30, gr_32, gr_34, gr_35, gr_41, gr_42, gr_43, gr_44, gr_45, gz_1, gz_5, gz_6, gz_7, gz_8, gz_9, gz_10, gz_11, gz_12, gz_13, gz_14, gz_15, gz_16, gz_17, gz_18, gz_19, gz_20, gz_21, gz_23, gz_24, gz_25, gz_26, gz_27, gz_28, gz_29, gz_30, gz_32, gz_34, gz_35, gz_41, gz_42, gz_43, gz_44, gz_45, hl_v_none, hl_v_ite, hl_d_none, hl_d_ite, hl_3_none, hl_3_ite, hl_4_none, hl_4_ite, hl_5_none, hl_5_ite, hl_v_some, hl_d_some, hl_3_some, hl_4_some, hl_5_some, hl_v_bv, hl_d_bv, hl_3_bv, hl_4_bv, hl_5_bv, hl_bv, hl_v_bd, hl_d_bd, hl_3_bd, hl_4_bd, hl_5_bd, hl_bd, hl_v_b3, hl_d_b3, hl_3_b3, hl_4_b3, hl_5_b3, hl_b3, hl_v_b4, hl_d_b4, hl_3_b4, hl_4_b4, hl_5_b4, hl_b4, hl_v_b5, hl_d_b5, hl_3_b5, hl_4_b5, hl_5_b5, hl_b5, hs_bv_i, hm_bv_i, hR, tX12_fits R hR, tX12_isJump R hR, tX12_kindAt R hR, tX12_leads R hR, tX12_mark R hR, tX12_paidAt R hR, tX12_size R hR, tlX12_lay_7 R hR, tlX12_lay_42 R hR, tlX12_lay_208 R hR, tlX12_lay_32 R hR]
  all_goals rfl
def njX12_putJump_144 (v5 : Int32) (v6 : Int32) (g : hm) : Option (hm) :=
  if hs_in v5 12008 = true then
  if hs_in (v5 + (1 : Int32)) 12008 = true then
  hm_bv (some (hm_w (hm_w g 311 v5.toNatClampNeg (168 : Int32)) 311 (v5 + (1 : Int32)).toNatClampNeg ((v6 >>> ((8 : Int32) &&& 31)) &&& (255 : Int32)))) fun g5 =>
  if hs_in (v5 + (2 : Int32)) 12008 = true then
  some (hm_w g5 311 (v5 + (2 : Int32)).toNatClampNeg (v6 &&& (255 : Int32)))
  else none else none else none
def njX12_putJump_117 (v5 : Int32) (v6 : Int32) (s0 : Int32) (s1 : Int32) (g : hm) : Option (hm) :=
  if hs_in s1 12008 = true then
  if hs_in (v5 + (1 : Int32)) 12008 = true then
  njX12_putJump_144 (v5 + (2 : Int32)) (v6 + (-2 : Int32)) (hm_w (hm_w (hm_w g 311 s1.toNatClampNeg s0) 311 (v5 + (1 : Int32)).toNatClampNeg (5 : Int32)) 285 31 (((hm_w (hm_w g 311 s1.toNatClampNeg s0) 311 (v5 + (1 : Int32)).toNatClampNeg (5 : Int32)) 285 31) + (1 : Int32)))
  else none else none
def njX12_putJump_70 (v5 : Int32) (v6 : Int32) (s0 : Int32) (s1 : Int32) (g : hm) : Option (hm) :=
  if hs_in s1 12008 = true then
  if hs_in (v5 + (1 : Int32)) 12008 = true then
  some (hm_w (hm_w g 311 s1.toNatClampNeg s0) 311 (v5 + (1 : Int32)).toNatClampNeg (v6 &&& (255 : Int32)))
  else none else none
def njX12_putJump_40 (v2 : Int32) (v4 : Int32) (v5 : Int32) (v6 : Int32) (s0 : Int32) (g : hm) : Option (hm) :=
  if hs_in v2 2001 = true then
  if (g 310 v2.toNatClampNeg) = 0 then (
    if s0 = 0 then (
      njX12_putJump_70 v5 v6 (167 : Int32) v5 g
    ) else (
      njX12_putJump_70 v5 v6 v4 v5 g
    )
  ) else (
    if s0 = 0 then (
      njX12_putJump_144 v5 v6 g
    ) else (
      if ¬ (2 : Int32) = 0 then
      if (v4 - v4 / (2 : Int32) * (2 : Int32)) = (1 : Int32) then (
        njX12_putJump_117 v5 v6 (v4 + (1 : Int32)) v5 g
      ) else (
        njX12_putJump_117 v5 v6 (v4 - (1 : Int32)) v5 g
      )
      else none
    )
  )
  else none
def nX12_putJump (v1 : Int32) (v2 : Int32) (v3 : Int32) (g : hm) : Option (hm) :=
  hm_bd (nX12_kindAt v1 v2 g) fun r2 g1 =>
  hm_bd (nX12_leads v1 v2 g1) fun r4 g3 =>
  if hs_in r4 2001 = true then
  if (167 : Int32) ≤ r2 then (
    njX12_putJump_40 v2 r2 v3 ((g3 308 r4.toNatClampNeg) - v3) (0 : Int32) g3
  ) else (
    njX12_putJump_40 v2 r2 v3 ((g3 308 r4.toNatClampNeg) - v3) (1 : Int32) g3
  )
  else none
set_option maxHeartbeats 4000000 in
theorem tjX12_putJump_144 (R : Nat → Nat → Nat) (hR : R 285 = hm_R) (v5 : Int32) (v6 : Int32) (g : hm) : jX12_putJump_144 285 v5 v6 (gm g R) = hl_v R (njX12_putJump_144 v5 v6 g) := by
  unfold jX12_putJump_144 njX12_putJump_144
  simp only [gm_I, gm_R, gm_w, gm_kd, gm_ln, not_false_eq_true, if_true, ite_true, gk_285, gk_286, gk_287, gk_288, gk_289, gk_290, gk_291, gk_292, gk_293, gk_294, gk_295, gk_296, gk_297, gk_298, gk_299, gk_300, gk_301, gk_302, gk_303, gk_304, gk_305, gk_306, gk_307, gk_308, gk_309, gk_310, gk_311, gk_312, gk_313, gk_314, gk_315, gk_316, gk_317, gk_318, gk_319, gn_286, gn_287, gn_288, gn_289, gn_290, gn_291, gn_292, gn_293, gn_294, gn_295, gn_296, gn_297, gn_298, gn_299, gn_300, gn_301, gn_302, gn_303, gn_304, gn_305, gn_306, gn_307, gn_308, gn_309, gn_310, gn_311, gn_312, gn_313, gn_314, gn_315, gn_316, gn_317, gn_318, gn_319, gr_1, gr_5, gr_6, gr_7, gr_8, gr_9, gr_10, gr_11, gr_12, gr_13, gr_14, gr_15, gr_16, gr_17, gr_18, gr_19, gr_20, gr_21, gr_23, gr_24, gr_25, gr_26, gr_27, gr_28, gr_29, gr_30, gr_32, gr_34, gr_35, gr_41, gr_42, gr_43, gr_44, gr_45, gz_1, gz_5, gz_6, gz_7, gz_8, gz_9, gz_10, gz_11, gz_12, gz_13, gz_14, gz_15, gz_16, gz_17, gz_18, gz_19, gz_20, gz_21, gz_23, gz_24, gz_25, gz_26, gz_27, gz_28, gz_29, gz_30, gz_32, gz_34, gz_35, gz_41, gz_42, gz_43, gz_44, gz_45, hl_v_none, hl_v_ite, hl_d_none, hl_d_ite, hl_3_none, hl_3_ite, hl_4_none, hl_4_ite, hl_5_none, hl_5_ite, hl_v_some, hl_d_some, hl_3_some, hl_4_some, hl_5_some, hl_v_bv, hl_d_bv, hl_3_bv, hl_4_bv, hl_5_bv, hl_bv, hl_v_bd, hl_d_bd, hl_3_bd, hl_4_bd, hl_5_bd, hl_bd, hl_v_b3, hl_d_b3, hl_3_b3, hl_4_b3, hl_5_b3, hl_b3, hl_v_b4, hl_d_b4, hl_3_b4, hl_4_b4, hl_5_b4, hl_b4, hl_v_b5, hl_d_b5, hl_3_b5, hl_4_b5, hl_5_b5, hl_b5, hs_bv_i, hm_bv_i, hR, tX12_kindAt R hR, tX12_leads R hR]
  all_goals rfl
set_option maxHeartbeats 4000000 in
theorem tjX12_putJump_117 (R : Nat → Nat → Nat) (hR : R 285 = hm_R) (v5 : Int32) (v6 : Int32) (s0 : Int32) (s1 : Int32) (g : hm) : jX12_putJump_117 285 v5 v6 s0 s1 311 (gm g R) = hl_v R (njX12_putJump_117 v5 v6 s0 s1 g) := by
  unfold jX12_putJump_117 njX12_putJump_117
  simp only [gm_I, gm_R, gm_w, gm_kd, gm_ln, not_false_eq_true, if_true, ite_true, gk_285, gk_286, gk_287, gk_288, gk_289, gk_290, gk_291, gk_292, gk_293, gk_294, gk_295, gk_296, gk_297, gk_298, gk_299, gk_300, gk_301, gk_302, gk_303, gk_304, gk_305, gk_306, gk_307, gk_308, gk_309, gk_310, gk_311, gk_312, gk_313, gk_314, gk_315, gk_316, gk_317, gk_318, gk_319, gn_286, gn_287, gn_288, gn_289, gn_290, gn_291, gn_292, gn_293, gn_294, gn_295, gn_296, gn_297, gn_298, gn_299, gn_300, gn_301, gn_302, gn_303, gn_304, gn_305, gn_306, gn_307, gn_308, gn_309, gn_310, gn_311, gn_312, gn_313, gn_314, gn_315, gn_316, gn_317, gn_318, gn_319, gr_1, gr_5, gr_6, gr_7, gr_8, gr_9, gr_10, gr_11, gr_12, gr_13, gr_14, gr_15, gr_16, gr_17, gr_18, gr_19, gr_20, gr_21, gr_23, gr_24, gr_25, gr_26, gr_27, gr_28, gr_29, gr_30, gr_32, gr_34, gr_35, gr_41, gr_42, gr_43, gr_44, gr_45, gz_1, gz_5, gz_6, gz_7, gz_8, gz_9, gz_10, gz_11, gz_12, gz_13, gz_14, gz_15, gz_16, gz_17, gz_18, gz_19, gz_20, gz_21, gz_23, gz_24, gz_25, gz_26, gz_27, gz_28, gz_29, gz_30, gz_32, gz_34, gz_35, gz_41, gz_42, gz_43, gz_44, gz_45, hl_v_none, hl_v_ite, hl_d_none, hl_d_ite, hl_3_none, hl_3_ite, hl_4_none, hl_4_ite, hl_5_none, hl_5_ite, hl_v_some, hl_d_some, hl_3_some, hl_4_some, hl_5_some, hl_v_bv, hl_d_bv, hl_3_bv, hl_4_bv, hl_5_bv, hl_bv, hl_v_bd, hl_d_bd, hl_3_bd, hl_4_bd, hl_5_bd, hl_bd, hl_v_b3, hl_d_b3, hl_3_b3, hl_4_b3, hl_5_b3, hl_b3, hl_v_b4, hl_d_b4, hl_3_b4, hl_4_b4, hl_5_b4, hl_b4, hl_v_b5, hl_d_b5, hl_3_b5, hl_4_b5, hl_5_b5, hl_b5, hs_bv_i, hm_bv_i, hR, tX12_kindAt R hR, tX12_leads R hR, tjX12_putJump_144 R hR]
  all_goals rfl
set_option maxHeartbeats 4000000 in
theorem tjX12_putJump_70 (R : Nat → Nat → Nat) (hR : R 285 = hm_R) (v5 : Int32) (v6 : Int32) (s0 : Int32) (s1 : Int32) (g : hm) : jX12_putJump_70 285 v5 v6 s0 s1 311 (gm g R) = hl_v R (njX12_putJump_70 v5 v6 s0 s1 g) := by
  unfold jX12_putJump_70 njX12_putJump_70
  simp only [gm_I, gm_R, gm_w, gm_kd, gm_ln, not_false_eq_true, if_true, ite_true, gk_285, gk_286, gk_287, gk_288, gk_289, gk_290, gk_291, gk_292, gk_293, gk_294, gk_295, gk_296, gk_297, gk_298, gk_299, gk_300, gk_301, gk_302, gk_303, gk_304, gk_305, gk_306, gk_307, gk_308, gk_309, gk_310, gk_311, gk_312, gk_313, gk_314, gk_315, gk_316, gk_317, gk_318, gk_319, gn_286, gn_287, gn_288, gn_289, gn_290, gn_291, gn_292, gn_293, gn_294, gn_295, gn_296, gn_297, gn_298, gn_299, gn_300, gn_301, gn_302, gn_303, gn_304, gn_305, gn_306, gn_307, gn_308, gn_309, gn_310, gn_311, gn_312, gn_313, gn_314, gn_315, gn_316, gn_317, gn_318, gn_319, gr_1, gr_5, gr_6, gr_7, gr_8, gr_9, gr_10, gr_11, gr_12, gr_13, gr_14, gr_15, gr_16, gr_17, gr_18, gr_19, gr_20, gr_21, gr_23, gr_24, gr_25, gr_26, gr_27, gr_28, gr_29, gr_30, gr_32, gr_34, gr_35, gr_41, gr_42, gr_43, gr_44, gr_45, gz_1, gz_5, gz_6, gz_7, gz_8, gz_9, gz_10, gz_11, gz_12, gz_13, gz_14, gz_15, gz_16, gz_17, gz_18, gz_19, gz_20, gz_21, gz_23, gz_24, gz_25, gz_26, gz_27, gz_28, gz_29, gz_30, gz_32, gz_34, gz_35, gz_41, gz_42, gz_43, gz_44, gz_45, hl_v_none, hl_v_ite, hl_d_none, hl_d_ite, hl_3_none, hl_3_ite, hl_4_none, hl_4_ite, hl_5_none, hl_5_ite, hl_v_some, hl_d_some, hl_3_some, hl_4_some, hl_5_some, hl_v_bv, hl_d_bv, hl_3_bv, hl_4_bv, hl_5_bv, hl_bv, hl_v_bd, hl_d_bd, hl_3_bd, hl_4_bd, hl_5_bd, hl_bd, hl_v_b3, hl_d_b3, hl_3_b3, hl_4_b3, hl_5_b3, hl_b3, hl_v_b4, hl_d_b4, hl_3_b4, hl_4_b4, hl_5_b4, hl_b4, hl_v_b5, hl_d_b5, hl_3_b5, hl_4_b5, hl_5_b5, hl_b5, hs_bv_i, hm_bv_i, hR, tX12_kindAt R hR, tX12_leads R hR, tjX12_putJump_144 R hR, tjX12_putJump_117 R hR]
  all_goals rfl
set_option maxHeartbeats 4000000 in
theorem tjX12_putJump_40 (R : Nat → Nat → Nat) (hR : R 285 = hm_R) (v2 : Int32) (v4 : Int32) (v5 : Int32) (v6 : Int32) (s0 : Int32) (g : hm) : jX12_putJump_40 285 v2 v4 v5 v6 s0 (gm g R) = hl_v R (njX12_putJump_40 v2 v4 v5 v6 s0 g) := by
  unfold jX12_putJump_40 njX12_putJump_40
  simp only [gm_I, gm_R, gm_w, gm_kd, gm_ln, not_false_eq_true, if_true, ite_true, gk_285, gk_286, gk_287, gk_288, gk_289, gk_290, gk_291, gk_292, gk_293, gk_294, gk_295, gk_296, gk_297, gk_298, gk_299, gk_300, gk_301, gk_302, gk_303, gk_304, gk_305, gk_306, gk_307, gk_308, gk_309, gk_310, gk_311, gk_312, gk_313, gk_314, gk_315, gk_316, gk_317, gk_318, gk_319, gn_286, gn_287, gn_288, gn_289, gn_290, gn_291, gn_292, gn_293, gn_294, gn_295, gn_296, gn_297, gn_298, gn_299, gn_300, gn_301, gn_302, gn_303, gn_304, gn_305, gn_306, gn_307, gn_308, gn_309, gn_310, gn_311, gn_312, gn_313, gn_314, gn_315, gn_316, gn_317, gn_318, gn_319, gr_1, gr_5, gr_6, gr_7, gr_8, gr_9, gr_10, gr_11, gr_12, gr_13, gr_14, gr_15, gr_16, gr_17, gr_18, gr_19, gr_20, gr_21, gr_23, gr_24, gr_25, gr_26, gr_27, gr_28, gr_29, gr_30, gr_32, gr_34, gr_35, gr_41, gr_42, gr_43, gr_44, gr_45, gz_1, gz_5, gz_6, gz_7, gz_8, gz_9, gz_10, gz_11, gz_12, gz_13, gz_14, gz_15, gz_16, gz_17, gz_18, gz_19, gz_20, gz_21, gz_23, gz_24, gz_25, gz_26, gz_27, gz_28, gz_29, gz_30, gz_32, gz_34, gz_35, gz_41, gz_42, gz_43, gz_44, gz_45, hl_v_none, hl_v_ite, hl_d_none, hl_d_ite, hl_3_none, hl_3_ite, hl_4_none, hl_4_ite, hl_5_none, hl_5_ite, hl_v_some, hl_d_some, hl_3_some, hl_4_some, hl_5_some, hl_v_bv, hl_d_bv, hl_3_bv, hl_4_bv, hl_5_bv, hl_bv, hl_v_bd, hl_d_bd, hl_3_bd, hl_4_bd, hl_5_bd, hl_bd, hl_v_b3, hl_d_b3, hl_3_b3, hl_4_b3, hl_5_b3, hl_b3, hl_v_b4, hl_d_b4, hl_3_b4, hl_4_b4, hl_5_b4, hl_b4, hl_v_b5, hl_d_b5, hl_3_b5, hl_4_b5, hl_5_b5, hl_b5, hs_bv_i, hm_bv_i, hR, tX12_kindAt R hR, tX12_leads R hR, tjX12_putJump_144 R hR, tjX12_putJump_117 R hR, tjX12_putJump_70 R hR]
  all_goals rfl
set_option maxHeartbeats 4000000 in
theorem tX12_putJump (R : Nat → Nat → Nat) (hR : R 285 = hm_R) (v1 : Int32) (v2 : Int32) (v3 : Int32) (g : hm) : fX12_putJump 285 v1 v2 v3 (gm g R) = hl_v R (nX12_putJump v1 v2 v3 g) := by
  unfold fX12_putJump nX12_putJump
  simp only [gm_I, gm_R, gm_w, gm_kd, gm_ln, not_false_eq_true, if_true, ite_true, gk_285, gk_286, gk_287, gk_288, gk_289, gk_290, gk_291, gk_292, gk_293, gk_294, gk_295, gk_296, gk_297, gk_298, gk_299, gk_300, gk_301, gk_302, gk_303, gk_304, gk_305, gk_306, gk_307, gk_308, gk_309, gk_310, gk_311, gk_312, gk_313, gk_314, gk_315, gk_316, gk_317, gk_318, gk_319, gn_286, gn_287, gn_288, gn_289, gn_290, gn_291, gn_292, gn_293, gn_294, gn_295, gn_296, gn_297, gn_298, gn_299, gn_300, gn_301, gn_302, gn_303, gn_304, gn_305, gn_306, gn_307, gn_308, gn_309, gn_310, gn_311, gn_312, gn_313, gn_314, gn_315, gn_316, gn_317, gn_318, gn_319, gr_1, gr_5, gr_6, gr_7, gr_8, gr_9, gr_10, gr_11, gr_12, gr_13, gr_14, gr_15, gr_16, gr_17, gr_18, gr_19, gr_20, gr_21, gr_23, gr_24, gr_25, gr_26, gr_27, gr_28, gr_29, gr_30, gr_32, gr_34, gr_35, gr_41, gr_42, gr_43, gr_44, gr_45, gz_1, gz_5, gz_6, gz_7, gz_8, gz_9, gz_10, gz_11, gz_12, gz_13, gz_14, gz_15, gz_16, gz_17, gz_18, gz_19, gz_20, gz_21, gz_23, gz_24, gz_25, gz_26, gz_27, gz_28, gz_29, gz_30, gz_32, gz_34, gz_35, gz_41, gz_42, gz_43, gz_44, gz_45, hl_v_none, hl_v_ite, hl_d_none, hl_d_ite, hl_3_none, hl_3_ite, hl_4_none, hl_4_ite, hl_5_none, hl_5_ite, hl_v_some, hl_d_some, hl_3_some, hl_4_some, hl_5_some, hl_v_bv, hl_d_bv, hl_3_bv, hl_4_bv, hl_5_bv, hl_bv, hl_v_bd, hl_d_bd, hl_3_bd, hl_4_bd, hl_5_bd, hl_bd, hl_v_b3, hl_d_b3, hl_3_b3, hl_4_b3, hl_5_b3, hl_b3, hl_v_b4, hl_d_b4, hl_3_b4, hl_4_b4, hl_5_b4, hl_b4, hl_v_b5, hl_d_b5, hl_3_b5, hl_4_b5, hl_5_b5, hl_b5, hs_bv_i, hm_bv_i, hR, tX12_kindAt R hR, tX12_leads R hR, tjX12_putJump_144 R hR, tjX12_putJump_117 R hR, tjX12_putJump_70 R hR, tjX12_putJump_40 R hR]
  all_goals rfl
def nlX12_put_158 : Nat → Int32 → Int32 → Int32 → Int32 → Int32 → Int32 → hm → Option (hm)
  | 0, _, _, _, _, _, _, _ => none
  | n + 1, v1, v2, v3, v4, v5, v6, g =>
    hm_bd (nX12_size v4 g) fun r8 g7 =>
    if r8 ≤ v6 then (
      some g7
    ) else (
      if hs_in ((((2001 : Int32) * v1) + v3) + v6) 16008 = true then
      if hs_in (v5 + v6) 12008 = true then
      hm_bv (some (hm_w g7 311 (v5 + v6).toNatClampNeg (g7 292 ((((2001 : Int32) * v1) + v3) + v6).toNatClampNeg))) fun g9 =>
      nlX12_put_158 n v1 v2 v3 v4 v5 (v6 + (1 : Int32)) g9
      else none else none
    )
theorem nlX12_put_158_s (n : Nat) (v1 : Int32) (v2 : Int32) (v3 : Int32) (v4 : Int32) (v5 : Int32) (v6 : Int32) (g : hm) : nlX12_put_158 (n + 1) v1 v2 v3 v4 v5 v6 g =
    hm_bd (nX12_size v4 g) fun r8 g7 =>
    if r8 ≤ v6 then (
      some g7
    ) else (
      if hs_in ((((2001 : Int32) * v1) + v3) + v6) 16008 = true then
      if hs_in (v5 + v6) 12008 = true then
      hm_bv (some (hm_w g7 311 (v5 + v6).toNatClampNeg (g7 292 ((((2001 : Int32) * v1) + v3) + v6).toNatClampNeg))) fun g9 =>
      nlX12_put_158 n v1 v2 v3 v4 v5 (v6 + (1 : Int32)) g9
      else none else none
    ) := rfl
def njX12_put_199 (rec : Int32 → hm → Option (hm)) (v1 : Int32) (v2 : Int32) (v3 : Int32) (v4 : Int32) (g : hm) : Option (hm) :=
  hm_bd (nX12_size v4 g) fun r14 g13 =>
  rec (v3 + r14) g13
def njX12_put_128 (rec : Int32 → hm → Option (hm)) (v1 : Int32) (v2 : Int32) (v3 : Int32) (v4 : Int32) (g : hm) : Option (hm) :=
  if hs_in v3 2001 = true then
  hm_bd (nX12_isJump v4 g) fun r6 g5 =>
  if r6 = 0 then (
    hm_bv (nlX12_put_158 hs_N v1 v2 v3 v4 (g 309 v3.toNatClampNeg) (0 : Int32) g5) fun g11 =>
    njX12_put_199 rec v1 v2 v3 v4 g11
  ) else (
    hm_bv (nX12_putJump v1 v3 (g 309 v3.toNatClampNeg) g5) fun g15 =>
    njX12_put_199 rec v1 v2 v3 v4 g15
  )
  else none
def njX12_put_106 (rec : Int32 → hm → Option (hm)) (v1 : Int32) (v2 : Int32) (v3 : Int32) (v4 : Int32) (v5 : Int32) (g : hm) : Option (hm) :=
  if v2 = 0 then (
    njX12_put_128 rec v1 v2 v3 v4 g
  ) else (
    if v4 = (188 : Int32) then (
      if hs_in v5 12008 = true then
      njX12_put_128 rec v1 v2 v3 v4 (hm_w g 311 v5.toNatClampNeg (203 : Int32))
      else none
    ) else (
      njX12_put_128 rec v1 v2 v3 v4 g
    )
  )
def nlX12_put_64 : Nat → Int32 → Int32 → Int32 → Int32 → Int32 → Int32 → Int32 → hm → Option (hm)
  | 0, _, _, _, _, _, _, _, _ => none
  | n + 1, v1, v2, v3, v4, v5, v6, v7, g =>
    if (4 : Int32) ≤ v7 then (
      some g
    ) else (
      if hs_in ((v5 + (1 : Int32)) + v7) 12008 = true then
      hm_bv (some (hm_w g 311 ((v5 + (1 : Int32)) + v7).toNatClampNeg ((v6 >>> (((24 : Int32) - ((8 : Int32) * v7)) &&& 31)) &&& (255 : Int32)))) fun g19 =>
      nlX12_put_64 n v1 v2 v3 v4 v5 v6 (v7 + (1 : Int32)) g19
      else none
    )
theorem nlX12_put_64_s (n : Nat) (v1 : Int32) (v2 : Int32) (v3 : Int32) (v4 : Int32) (v5 : Int32) (v6 : Int32) (v7 : Int32) (g : hm) : nlX12_put_64 (n + 1) v1 v2 v3 v4 v5 v6 v7 g =
    if (4 : Int32) ≤ v7 then (
      some g
    ) else (
      if hs_in ((v5 + (1 : Int32)) + v7) 12008 = true then
      hm_bv (some (hm_w g 311 ((v5 + (1 : Int32)) + v7).toNatClampNeg ((v6 >>> (((24 : Int32) - ((8 : Int32) * v7)) &&& 31)) &&& (255 : Int32)))) fun g19 =>
      nlX12_put_64 n v1 v2 v3 v4 v5 v6 (v7 + (1 : Int32)) g19
      else none
    ) := rfl
def nlX12_put_7 : Nat → Int32 → Int32 → Int32 → hm → Option (hm)
  | 0, _, _, _, _ => none
  | n + 1, v1, v2, v3, g =>
    if hs_in v1 8 = true then
    if (g 289 v1.toNatClampNeg) ≤ v3 then (
      some g
    ) else (
      hm_bd (nX12_kindAt v1 v3 g) fun r2 g1 =>
      if hs_in v3 2001 = true then
      hm_bd (nX12_paidAt v1 v3 v2 g1) fun r4 g3 =>
      if r4 ≤ 0 then (
        njX12_put_106 (fun y0 g => nlX12_put_7 n v1 v2 y0 g) v1 v2 v3 r2 (g1 308 v3.toNatClampNeg) g3
      ) else (
        hm_bd (nX12_sum v1 v3 g3) fun r18 g17 =>
        if hs_in (g1 308 v3.toNatClampNeg) 12008 = true then
        hm_bv (nlX12_put_64 hs_N v1 v2 v3 r2 (g1 308 v3.toNatClampNeg) r18 (0 : Int32) (hm_w g17 311 (g1 308 v3.toNatClampNeg).toNatClampNeg (202 : Int32))) fun g21 =>
        njX12_put_106 (fun y0 g => nlX12_put_7 n v1 v2 y0 g) v1 v2 v3 r2 ((g1 308 v3.toNatClampNeg) + (5 : Int32)) g21
        else none
      )
      else none
    )
    else none
theorem nlX12_put_7_s (n : Nat) (v1 : Int32) (v2 : Int32) (v3 : Int32) (g : hm) : nlX12_put_7 (n + 1) v1 v2 v3 g =
    if hs_in v1 8 = true then
    if (g 289 v1.toNatClampNeg) ≤ v3 then (
      some g
    ) else (
      hm_bd (nX12_kindAt v1 v3 g) fun r2 g1 =>
      if hs_in v3 2001 = true then
      hm_bd (nX12_paidAt v1 v3 v2 g1) fun r4 g3 =>
      if r4 ≤ 0 then (
        njX12_put_106 (fun y0 g => nlX12_put_7 n v1 v2 y0 g) v1 v2 v3 r2 (g1 308 v3.toNatClampNeg) g3
      ) else (
        hm_bd (nX12_sum v1 v3 g3) fun r18 g17 =>
        if hs_in (g1 308 v3.toNatClampNeg) 12008 = true then
        hm_bv (nlX12_put_64 hs_N v1 v2 v3 r2 (g1 308 v3.toNatClampNeg) r18 (0 : Int32) (hm_w g17 311 (g1 308 v3.toNatClampNeg).toNatClampNeg (202 : Int32))) fun g21 =>
        njX12_put_106 (fun y0 g => nlX12_put_7 n v1 v2 y0 g) v1 v2 v3 r2 ((g1 308 v3.toNatClampNeg) + (5 : Int32)) g21
        else none
      )
      else none
    )
    else none := rfl
def nX12_put (v1 : Int32) (v2 : Int32) (g : hm) : Option (hm) :=
  hm_bv (nlX12_put_7 hs_N v1 v2 (0 : Int32) (hm_w g 285 31 (0 : Int32))) fun g24 =>
  some g24
set_option maxHeartbeats 4000000 in
theorem tlX12_put_158 (R : Nat → Nat → Nat) (hR : R 285 = hm_R) : ∀ (n : Nat) (v1 : Int32) (v2 : Int32) (v3 : Int32) (v4 : Int32) (v5 : Int32) (v6 : Int32) (g : hm), lX12_put_158 n 285 v1 v2 v3 v4 v5 v6 (gm g R) = hl_v R (nlX12_put_158 n v1 v2 v3 v4 v5 v6 g) := by
  intro n
  induction n with
  | zero => intros; rfl
  | succ n ih =>
    intro v1 v2 v3 v4 v5 v6 g
    rw [lX12_put_158_s, nlX12_put_158_s]
    simp only [gm_I, gm_R, gm_w, gm_kd, gm_ln, not_false_eq_true, if_true, ite_true, gk_285, gk_286, gk_287, gk_288, gk_289, gk_290, gk_291, gk_292, gk_293, gk_294, gk_295, gk_296, gk_297, gk_298, gk_299, gk_300, gk_301, gk_302, gk_303, gk_304, gk_305, gk_306, gk_307, gk_308, gk_309, gk_310, gk_311, gk_312, gk_313, gk_314, gk_315, gk_316, gk_317, gk_318, gk_319, gn_286, gn_287, gn_288, gn_289, gn_290, gn_291, gn_292, gn_293, gn_294, gn_295, gn_296, gn_297, gn_298, gn_299, gn_300, gn_301, gn_302, gn_303, gn_304, gn_305, gn_306, gn_307, gn_308, gn_309, gn_310, gn_311, gn_312, gn_313, gn_314, gn_315, gn_316, gn_317, gn_318, gn_319, gr_1, gr_5, gr_6, gr_7, gr_8, gr_9, gr_10, gr_11, gr_12, gr_13, gr_14, gr_15, gr_16, gr_17, gr_18, gr_19, gr_20, gr_21, gr_23, gr_24, gr_25, gr_26, gr_27, gr_28, gr_29, gr_30, gr_32, gr_34, gr_35, gr_41, gr_42, gr_43, gr_44, gr_45, gz_1, gz_5, gz_6, gz_7, gz_8, gz_9, gz_10, gz_11, gz_12, gz_13, gz_14, gz_15, gz_16, gz_17, gz_18, gz_19, gz_20, gz_21, gz_23, gz_24, gz_25, gz_26, gz_27, gz_28, gz_29, gz_30, gz_32, gz_34, gz_35, gz_41, gz_42, gz_43, gz_44, gz_45, hl_v_none, hl_v_ite, hl_d_none, hl_d_ite, hl_3_none, hl_3_ite, hl_4_none, hl_4_ite, hl_5_none, hl_5_ite, hl_v_some, hl_d_some, hl_3_some, hl_4_some, hl_5_some, hl_v_bv, hl_d_bv, hl_3_bv, hl_4_bv, hl_5_bv, hl_bv, hl_v_bd, hl_d_bd, hl_3_bd, hl_4_bd, hl_5_bd, hl_bd, hl_v_b3, hl_d_b3, hl_3_b3, hl_4_b3, hl_5_b3, hl_b3, hl_v_b4, hl_d_b4, hl_3_b4, hl_4_b4, hl_5_b4, hl_b4, hl_v_b5, hl_d_b5, hl_3_b5, hl_4_b5, hl_5_b5, hl_b5, hs_bv_i, hm_bv_i, hR, tX12_isJump R hR, tX12_kindAt R hR, tX12_paidAt R hR, tX12_putJump R hR, tX12_size R hR, tX12_sum R hR, ih]
    all_goals rfl
set_option maxHeartbeats 4000000 in
theorem tjX12_put_199 (R : Nat → Nat → Nat) (hR : R 285 = hm_R) (rec : Int32 → hs_S → Option (hs_S)) (rec2 : Int32 → hm → Option (hm)) (hrec : ∀ (y0 : Int32) (g : hm), rec y0 (gm g R) = hl_v R (rec2 y0 g)) (v1 : Int32) (v2 : Int32) (v3 : Int32) (v4 : Int32) (g : hm) : jX12_put_199 rec 285 v1 v2 v3 v4 (gm g R) = hl_v R (njX12_put_199 rec2 v1 v2 v3 v4 g) := by
  unfold jX12_put_199 njX12_put_199
  simp only [gm_I, gm_R, gm_w, gm_kd, gm_ln, not_false_eq_true, if_true, ite_true, gk_285, gk_286, gk_287, gk_288, gk_289, gk_290, gk_291, gk_292, gk_293, gk_294, gk_295, gk_296, gk_297, gk_298, gk_299, gk_300, gk_301, gk_302, gk_303, gk_304, gk_305, gk_306, gk_307, gk_308, gk_309, gk_310, gk_311, gk_312, gk_313, gk_314, gk_315, gk_316, gk_317, gk_318, gk_319, gn_286, gn_287, gn_288, gn_289, gn_290, gn_291, gn_292, gn_293, gn_294, gn_295, gn_296, gn_297, gn_298, gn_299, gn_300, gn_301, gn_302, gn_303, gn_304, gn_305, gn_306, gn_307, gn_308, gn_309, gn_310, gn_311, gn_312, gn_313, gn_314, gn_315, gn_316, gn_317, gn_318, gn_319, gr_1, gr_5, gr_6, gr_7, gr_8, gr_9, gr_10, gr_11, gr_12, gr_13, gr_14, gr_15, gr_16, gr_17, gr_18, gr_19, gr_20, gr_21, gr_23, gr_24, gr_25, gr_26, gr_27, gr_28, gr_29, gr_30, gr_32, gr_34, gr_35, gr_41, gr_42, gr_43, gr_44, gr_45, gz_1, gz_5, gz_6, gz_7, gz_8, gz_9, gz_10, gz_11, gz_12, gz_13, gz_14, gz_15, gz_16, gz_17, gz_18, gz_19, gz_20, gz_21, gz_23, gz_24, gz_25, gz_26, gz_27, gz_28, gz_29, gz_30, gz_32, gz_34, gz_35, gz_41, gz_42, gz_43, gz_44, gz_45, hl_v_none, hl_v_ite, hl_d_none, hl_d_ite, hl_3_none, hl_3_ite, hl_4_none, hl_4_ite, hl_5_none, hl_5_ite, hl_v_some, hl_d_some, hl_3_some, hl_4_some, hl_5_some, hl_v_bv, hl_d_bv, hl_3_bv, hl_4_bv, hl_5_bv, hl_bv, hl_v_bd, hl_d_bd, hl_3_bd, hl_4_bd, hl_5_bd, hl_bd, hl_v_b3, hl_d_b3, hl_3_b3, hl_4_b3, hl_5_b3, hl_b3, hl_v_b4, hl_d_b4, hl_3_b4, hl_4_b4, hl_5_b4, hl_b4, hl_v_b5, hl_d_b5, hl_3_b5, hl_4_b5, hl_5_b5, hl_b5, hs_bv_i, hm_bv_i, hR, tX12_isJump R hR, tX12_kindAt R hR, tX12_paidAt R hR, tX12_putJump R hR, tX12_size R hR, tX12_sum R hR, tlX12_put_158 R hR, hrec]
  all_goals rfl
set_option maxHeartbeats 4000000 in
theorem tjX12_put_128 (R : Nat → Nat → Nat) (hR : R 285 = hm_R) (rec : Int32 → hs_S → Option (hs_S)) (rec2 : Int32 → hm → Option (hm)) (hrec : ∀ (y0 : Int32) (g : hm), rec y0 (gm g R) = hl_v R (rec2 y0 g)) (v1 : Int32) (v2 : Int32) (v3 : Int32) (v4 : Int32) (g : hm) : jX12_put_128 rec 285 v1 v2 v3 v4 (gm g R) = hl_v R (njX12_put_128 rec2 v1 v2 v3 v4 g) := by
  unfold jX12_put_128 njX12_put_128
  simp only [gm_I, gm_R, gm_w, gm_kd, gm_ln, not_false_eq_true, if_true, ite_true, gk_285, gk_286, gk_287, gk_288, gk_289, gk_290, gk_291, gk_292, gk_293, gk_294, gk_295, gk_296, gk_297, gk_298, gk_299, gk_300, gk_301, gk_302, gk_303, gk_304, gk_305, gk_306, gk_307, gk_308, gk_309, gk_310, gk_311, gk_312, gk_313, gk_314, gk_315, gk_316, gk_317, gk_318, gk_319, gn_286, gn_287, gn_288, gn_289, gn_290, gn_291, gn_292, gn_293, gn_294, gn_295, gn_296, gn_297, gn_298, gn_299, gn_300, gn_301, gn_302, gn_303, gn_304, gn_305, gn_306, gn_307, gn_308, gn_309, gn_310, gn_311, gn_312, gn_313, gn_314, gn_315, gn_316, gn_317, gn_318, gn_319, gr_1, gr_5, gr_6, gr_7, gr_8, gr_9, gr_10, gr_11, gr_12, gr_13, gr_14, gr_15, gr_16, gr_17, gr_18, gr_19, gr_20, gr_21, gr_23, gr_24, gr_25, gr_26, gr_27, gr_28, gr_29, gr_30, gr_32, gr_34, gr_35, gr_41, gr_42, gr_43, gr_44, gr_45, gz_1, gz_5, gz_6, gz_7, gz_8, gz_9, gz_10, gz_11, gz_12, gz_13, gz_14, gz_15, gz_16, gz_17, gz_18, gz_19, gz_20, gz_21, gz_23, gz_24, gz_25, gz_26, gz_27, gz_28, gz_29, gz_30, gz_32, gz_34, gz_35, gz_41, gz_42, gz_43, gz_44, gz_45, hl_v_none, hl_v_ite, hl_d_none, hl_d_ite, hl_3_none, hl_3_ite, hl_4_none, hl_4_ite, hl_5_none, hl_5_ite, hl_v_some, hl_d_some, hl_3_some, hl_4_some, hl_5_some, hl_v_bv, hl_d_bv, hl_3_bv, hl_4_bv, hl_5_bv, hl_bv, hl_v_bd, hl_d_bd, hl_3_bd, hl_4_bd, hl_5_bd, hl_bd, hl_v_b3, hl_d_b3, hl_3_b3, hl_4_b3, hl_5_b3, hl_b3, hl_v_b4, hl_d_b4, hl_3_b4, hl_4_b4, hl_5_b4, hl_b4, hl_v_b5, hl_d_b5, hl_3_b5, hl_4_b5, hl_5_b5, hl_b5, hs_bv_i, hm_bv_i, hR, tX12_isJump R hR, tX12_kindAt R hR, tX12_paidAt R hR, tX12_putJump R hR, tX12_size R hR, tX12_sum R hR, tlX12_put_158 R hR, hrec, tjX12_put_199 R hR rec rec2 hrec]
  all_goals rfl
set_option maxHeartbeats 4000000 in
theorem tjX12_put_106 (R : Nat → Nat → Nat) (hR : R 285 = hm_R) (rec : Int32 → hs_S → Option (hs_S)) (rec2 : Int32 → hm → Option (hm)) (hrec : ∀ (y0 : Int32) (g : hm), rec y0 (gm g R) = hl_v R (rec2 y0 g)) (v1 : Int32) (v2 : Int32) (v3 : Int32) (v4 : Int32) (v5 : Int32) (g : hm) : jX12_put_106 rec 285 v1 v2 v3 v4 v5 (gm g R) = hl_v R (njX12_put_106 rec2 v1 v2 v3 v4 v5 g) := by
  unfold jX12_put_106 njX12_put_106
  simp only [gm_I, gm_R, gm_w, gm_kd, gm_ln, not_false_eq_true, if_true, ite_true, gk_285, gk_286, gk_287, gk_288, gk_289, gk_290, gk_291, gk_292, gk_293, gk_294, gk_295, gk_296, gk_297, gk_298, gk_299, gk_300, gk_301, gk_302, gk_303, gk_304, gk_305, gk_306, gk_307, gk_308, gk_309, gk_310, gk_311, gk_312, gk_313, gk_314, gk_315, gk_316, gk_317, gk_318, gk_319, gn_286, gn_287, gn_288, gn_289, gn_290, gn_291, gn_292, gn_293, gn_294, gn_295, gn_296, gn_297, gn_298, gn_299, gn_300, gn_301, gn_302, gn_303, gn_304, gn_305, gn_306, gn_307, gn_308, gn_309, gn_310, gn_311, gn_312, gn_313, gn_314, gn_315, gn_316, gn_317, gn_318, gn_319, gr_1, gr_5, gr_6, gr_7, gr_8, gr_9, gr_10, gr_11, gr_12, gr_13, gr_14, gr_15, gr_16, gr_17, gr_18, gr_19, gr_20, gr_21, gr_23, gr_24, gr_25, gr_26, gr_27, gr_28, gr_29, gr_30, gr_32, gr_34, gr_35, gr_41, gr_42, gr_43, gr_44, gr_45, gz_1, gz_5, gz_6, gz_7, gz_8, gz_9, gz_10, gz_11, gz_12, gz_13, gz_14, gz_15, gz_16, gz_17, gz_18, gz_19, gz_20, gz_21, gz_23, gz_24, gz_25, gz_26, gz_27, gz_28, gz_29, gz_30, gz_32, gz_34, gz_35, gz_41, gz_42, gz_43, gz_44, gz_45, hl_v_none, hl_v_ite, hl_d_none, hl_d_ite, hl_3_none, hl_3_ite, hl_4_none, hl_4_ite, hl_5_none, hl_5_ite, hl_v_some, hl_d_some, hl_3_some, hl_4_some, hl_5_some, hl_v_bv, hl_d_bv, hl_3_bv, hl_4_bv, hl_5_bv, hl_bv, hl_v_bd, hl_d_bd, hl_3_bd, hl_4_bd, hl_5_bd, hl_bd, hl_v_b3, hl_d_b3, hl_3_b3, hl_4_b3, hl_5_b3, hl_b3, hl_v_b4, hl_d_b4, hl_3_b4, hl_4_b4, hl_5_b4, hl_b4, hl_v_b5, hl_d_b5, hl_3_b5, hl_4_b5, hl_5_b5, hl_b5, hs_bv_i, hm_bv_i, hR, tX12_isJump R hR, tX12_kindAt R hR, tX12_paidAt R hR, tX12_putJump R hR, tX12_size R hR, tX12_sum R hR, tlX12_put_158 R hR, hrec, tjX12_put_199 R hR rec rec2 hrec, tjX12_put_128 R hR rec rec2 hrec]
  all_goals rfl
set_option maxHeartbeats 4000000 in
theorem tlX12_put_64 (R : Nat → Nat → Nat) (hR : R 285 = hm_R) : ∀ (n : Nat) (v1 : Int32) (v2 : Int32) (v3 : Int32) (v4 : Int32) (v5 : Int32) (v6 : Int32) (v7 : Int32) (g : hm), lX12_put_64 n 285 v1 v2 v3 v4 v5 v6 v7 (gm g R) = hl_v R (nlX12_put_64 n v1 v2 v3 v4 v5 v6 v7 g) := by
  intro n
  induction n with
  | zero => intros; rfl
  | succ n ih =>
    intro v1 v2 v3 v4 v5 v6 v7 g
    rw [lX12_put_64_s, nlX12_put_64_s]
    simp only [gm_I, gm_R, gm_w, gm_kd, gm_ln, not_false_eq_true, if_true, ite_true, gk_285, gk_286, gk_287, gk_288, gk_289, gk_290, gk_291, gk_292, gk_293, gk_294, gk_295, gk_296, gk_297, gk_298, gk_299, gk_300, gk_301, gk_302, gk_303, gk_304, gk_305, gk_306, gk_307, gk_308, gk_309, gk_310, gk_311, gk_312, gk_313, gk_314, gk_315, gk_316, gk_317, gk_318, gk_319, gn_286, gn_287, gn_288, gn_289, gn_290, gn_291, gn_292, gn_293, gn_294, gn_295, gn_296, gn_297, gn_298, gn_299, gn_300, gn_301, gn_302, gn_303, gn_304, gn_305, gn_306, gn_307, gn_308, gn_309, gn_310, gn_311, gn_312, gn_313, gn_314, gn_315, gn_316, gn_317, gn_318, gn_319, gr_1, gr_5, gr_6, gr_7, gr_8, gr_9, gr_10, gr_11, gr_12, gr_13, gr_14, gr_15, gr_16, gr_17, gr_18, gr_19, gr_20, gr_21, gr_23, gr_24, gr_25, gr_26, gr_27, gr_28, gr_29, gr_30, gr_32, gr_34, gr_35, gr_41, gr_42, gr_43, gr_44, gr_45, gz_1, gz_5, gz_6, gz_7, gz_8, gz_9, gz_10, gz_11, gz_12, gz_13, gz_14, gz_15, gz_16, gz_17, gz_18, gz_19, gz_20, gz_21, gz_23, gz_24, gz_25, gz_26, gz_27, gz_28, gz_29, gz_30, gz_32, gz_34, gz_35, gz_41, gz_42, gz_43, gz_44, gz_45, hl_v_none, hl_v_ite, hl_d_none, hl_d_ite, hl_3_none, hl_3_ite, hl_4_none, hl_4_ite, hl_5_none, hl_5_ite, hl_v_some, hl_d_some, hl_3_some, hl_4_some, hl_5_some, hl_v_bv, hl_d_bv, hl_3_bv, hl_4_bv, hl_5_bv, hl_bv, hl_v_bd, hl_d_bd, hl_3_bd, hl_4_bd, hl_5_bd, hl_bd, hl_v_b3, hl_d_b3, hl_3_b3, hl_4_b3, hl_5_b3, hl_b3, hl_v_b4, hl_d_b4, hl_3_b4, hl_4_b4, hl_5_b4, hl_b4, hl_v_b5, hl_d_b5, hl_3_b5, hl_4_b5, hl_5_b5, hl_b5, hs_bv_i, hm_bv_i, hR, tX12_isJump R hR, tX12_kindAt R hR, tX12_paidAt R hR, tX12_putJump R hR, tX12_size R hR, tX12_sum R hR, tlX12_put_158 R hR, ih]
    all_goals rfl
set_option maxHeartbeats 4000000 in
theorem tlX12_put_7 (R : Nat → Nat → Nat) (hR : R 285 = hm_R) : ∀ (n : Nat) (v1 : Int32) (v2 : Int32) (v3 : Int32) (g : hm), lX12_put_7 n 285 v1 v2 v3 (gm g R) = hl_v R (nlX12_put_7 n v1 v2 v3 g) := by
  intro n
  induction n with
  | zero => intros; rfl
  | succ n ih =>
    intro v1 v2 v3 g
    rw [lX12_put_7_s, nlX12_put_7_s]
    simp only [gm_I, gm_R, gm_w, gm_kd, gm_ln, not_false_eq_true, if_true, ite_true, gk_285, gk_286, gk_287, gk_288, gk_289, gk_290, gk_291, gk_292, gk_293, gk_294, gk_295, gk_296, gk_297, gk_298, gk_299, gk_300, gk_301, gk_302, gk_303, gk_304, gk_305, gk_306, gk_307, gk_308, gk_309, gk_310, gk_311, gk_312, gk_313, gk_314, gk_315, gk_316, gk_317, gk_318, gk_319, gn_286, gn_287, gn_288, gn_289, gn_290, gn_291, gn_292, gn_293, gn_294, gn_295, gn_296, gn_297, gn_298, gn_299, gn_300, gn_301, gn_302, gn_303, gn_304, gn_305, gn_306, gn_307, gn_308, gn_309, gn_310, gn_311, gn_312, gn_313, gn_314, gn_315, gn_316, gn_317, gn_318, gn_319, gr_1, gr_5, gr_6, gr_7, gr_8, gr_9, gr_10, gr_11, gr_12, gr_13, gr_14, gr_15, gr_16, gr_17, gr_18, gr_19, gr_20, gr_21, gr_23, gr_24, gr_25, gr_26, gr_27, gr_28, gr_29, gr_30, gr_32, gr_34, gr_35, gr_41, gr_42, gr_43, gr_44, gr_45, gz_1, gz_5, gz_6, gz_7, gz_8, gz_9, gz_10, gz_11, gz_12, gz_13, gz_14, gz_15, gz_16, gz_17, gz_18, gz_19, gz_20, gz_21, gz_23, gz_24, gz_25, gz_26, gz_27, gz_28, gz_29, gz_30, gz_32, gz_34, gz_35, gz_41, gz_42, gz_43, gz_44, gz_45, hl_v_none, hl_v_ite, hl_d_none, hl_d_ite, hl_3_none, hl_3_ite, hl_4_none, hl_4_ite, hl_5_none, hl_5_ite, hl_v_some, hl_d_some, hl_3_some, hl_4_some, hl_5_some, hl_v_bv, hl_d_bv, hl_3_bv, hl_4_bv, hl_5_bv, hl_bv, hl_v_bd, hl_d_bd, hl_3_bd, hl_4_bd, hl_5_bd, hl_bd, hl_v_b3, hl_d_b3, hl_3_b3, hl_4_b3, hl_5_b3, hl_b3, hl_v_b4, hl_d_b4, hl_3_b4, hl_4_b4, hl_5_b4, hl_b4, hl_v_b5, hl_d_b5, hl_3_b5, hl_4_b5, hl_5_b5, hl_b5, hs_bv_i, hm_bv_i, hR, tX12_isJump R hR, tX12_kindAt R hR, tX12_paidAt R hR, tX12_putJump R hR, tX12_size R hR, tX12_sum R hR, tlX12_put_158 R hR, tlX12_put_64 R hR, ih, tjX12_put_199 R hR _ _ (fun y0 g => ih v1 v2 y0 g), tjX12_put_128 R hR _ _ (fun y0 g => ih v1 v2 y0 g), tjX12_put_106 R hR _ _ (fun y0 g => ih v1 v2 y0 g)]
    all_goals rfl
set_option maxHeartbeats 4000000 in
theorem tX12_put (R : Nat → Nat → Nat) (hR : R 285 = hm_R) (v1 : Int32) (v2 : Int32) (g : hm) : fX12_put 285 v1 v2 (gm g R) = hl_v R (nX12_put v1 v2 g) := by
  unfold fX12_put nX12_put
  simp only [gm_I, gm_R, gm_w, gm_kd, gm_ln, not_false_eq_true, if_true, ite_true, gk_285, gk_286, gk_287, gk_288, gk_289, gk_290, gk_291, gk_292, gk_293, gk_294, gk_295, gk_296, gk_297, gk_298, gk_299, gk_300, gk_301, gk_302, gk_303, gk_304, gk_305, gk_306, gk_307, gk_308, gk_309, gk_310, gk_311, gk_312, gk_313, gk_314, gk_315, gk_316, gk_317, gk_318, gk_319, gn_286, gn_287, gn_288, gn_289, gn_290, gn_291, gn_292, gn_293, gn_294, gn_295, gn_296, gn_297, gn_298, gn_299, gn_300, gn_301, gn_302, gn_303, gn_304, gn_305, gn_306, gn_307, gn_308, gn_309, gn_310, gn_311, gn_312, gn_313, gn_314, gn_315, gn_316, gn_317, gn_318, gn_319, gr_1, gr_5, gr_6, gr_7, gr_8, gr_9, gr_10, gr_11, gr_12, gr_13, gr_14, gr_15, gr_16, gr_17, gr_18, gr_19, gr_20, gr_21, gr_23, gr_24, gr_25, gr_26, gr_27, gr_28, gr_29, gr_30, gr_32, gr_34, gr_35, gr_41, gr_42, gr_43, gr_44, gr_45, gz_1, gz_5, gz_6, gz_7, gz_8, gz_9, gz_10, gz_11, gz_12, gz_13, gz_14, gz_15, gz_16, gz_17, gz_18, gz_19, gz_20, gz_21, gz_23, gz_24, gz_25, gz_26, gz_27, gz_28, gz_29, gz_30, gz_32, gz_34, gz_35, gz_41, gz_42, gz_43, gz_44, gz_45, hl_v_none, hl_v_ite, hl_d_none, hl_d_ite, hl_3_none, hl_3_ite, hl_4_none, hl_4_ite, hl_5_none, hl_5_ite, hl_v_some, hl_d_some, hl_3_some, hl_4_some, hl_5_some, hl_v_bv, hl_d_bv, hl_3_bv, hl_4_bv, hl_5_bv, hl_bv, hl_v_bd, hl_d_bd, hl_3_bd, hl_4_bd, hl_5_bd, hl_bd, hl_v_b3, hl_d_b3, hl_3_b3, hl_4_b3, hl_5_b3, hl_b3, hl_v_b4, hl_d_b4, hl_3_b4, hl_4_b4, hl_5_b4, hl_b4, hl_v_b5, hl_d_b5, hl_3_b5, hl_4_b5, hl_5_b5, hl_b5, hs_bv_i, hm_bv_i, hR, tX12_isJump R hR, tX12_kindAt R hR, tX12_paidAt R hR, tX12_putJump R hR, tX12_size R hR, tX12_sum R hR, tlX12_put_158 R hR, tlX12_put_64 R hR, tlX12_put_7 R hR]
  all_goals rfl
def nlX12_rewrite_76 : Nat → Int32 → Int32 → Int32 → Int32 → hm → Option (hm)
  | 0, _, _, _, _, _ => none
  | n + 1, v1, v2, v3, v4, g =>
    if v3 ≤ v4 then (
      some g
    ) else (
      if hs_in v4 12008 = true then
      if hs_in (((4001 : Int32) * v2) + v4) 32008 = true then
      nlX12_rewrite_76 n v1 v2 v3 (v4 + (1 : Int32)) (hm_w g 304 (((4001 : Int32) * v2) + v4).toNatClampNeg (g 311 v4.toNatClampNeg))
      else none else none
    )
theorem nlX12_rewrite_76_s (n : Nat) (v1 : Int32) (v2 : Int32) (v3 : Int32) (v4 : Int32) (g : hm) : nlX12_rewrite_76 (n + 1) v1 v2 v3 v4 g =
    if v3 ≤ v4 then (
      some g
    ) else (
      if hs_in v4 12008 = true then
      if hs_in (((4001 : Int32) * v2) + v4) 32008 = true then
      nlX12_rewrite_76 n v1 v2 v3 (v4 + (1 : Int32)) (hm_w g 304 (((4001 : Int32) * v2) + v4).toNatClampNeg (g 311 v4.toNatClampNeg))
      else none else none
    ) := rfl
def nlX12_rewrite_136 : Nat → Int32 → Int32 → Int32 → Int32 → Int32 → hm → Option (hm)
  | 0, _, _, _, _, _, _ => none
  | n + 1, v1, v2, v4, v5, v6, g =>
    if (3 : Int32) ≤ v6 then (
      some g
    ) else (
      if hs_in (v5 + v6) 256 = true then
      if hs_in (g 291 (v5 + v6).toNatClampNeg) 2001 = true then
      if hs_in (v5 + v6) 256 = true then
      nlX12_rewrite_136 n v1 v2 v4 v5 (v6 + (1 : Int32)) (hm_w g 306 (v5 + v6).toNatClampNeg (g 308 (g 291 (v5 + v6).toNatClampNeg).toNatClampNeg))
      else none else none else none
    )
theorem nlX12_rewrite_136_s (n : Nat) (v1 : Int32) (v2 : Int32) (v4 : Int32) (v5 : Int32) (v6 : Int32) (g : hm) : nlX12_rewrite_136 (n + 1) v1 v2 v4 v5 v6 g =
    if (3 : Int32) ≤ v6 then (
      some g
    ) else (
      if hs_in (v5 + v6) 256 = true then
      if hs_in (g 291 (v5 + v6).toNatClampNeg) 2001 = true then
      if hs_in (v5 + v6) 256 = true then
      nlX12_rewrite_136 n v1 v2 v4 v5 (v6 + (1 : Int32)) (hm_w g 306 (v5 + v6).toNatClampNeg (g 308 (g 291 (v5 + v6).toNatClampNeg).toNatClampNeg))
      else none else none else none
    ) := rfl
def nlX12_rewrite_111 : Nat → Int32 → Int32 → Int32 → hm → Option (hm)
  | 0, _, _, _, _ => none
  | n + 1, v1, v2, v4, g =>
    if hs_in v2 8 = true then
    if (g 290 v2.toNatClampNeg) ≤ v4 then (
      some g
    ) else (
      hm_bv (nlX12_rewrite_136 hs_N v1 v2 v4 (((32 : Int32) * v2) + ((4 : Int32) * v4)) (0 : Int32) g) fun g9 =>
      if hs_in ((((32 : Int32) * v2) + ((4 : Int32) * v4)) + (3 : Int32)) 256 = true then
      if hs_in ((((32 : Int32) * v2) + ((4 : Int32) * v4)) + (3 : Int32)) 256 = true then
      hm_bv (some (hm_w g9 306 ((((32 : Int32) * v2) + ((4 : Int32) * v4)) + (3 : Int32)).toNatClampNeg (g9 291 ((((32 : Int32) * v2) + ((4 : Int32) * v4)) + (3 : Int32)).toNatClampNeg))) fun g11 =>
      nlX12_rewrite_111 n v1 v2 (v4 + (1 : Int32)) g11
      else none else none
    )
    else none
theorem nlX12_rewrite_111_s (n : Nat) (v1 : Int32) (v2 : Int32) (v4 : Int32) (g : hm) : nlX12_rewrite_111 (n + 1) v1 v2 v4 g =
    if hs_in v2 8 = true then
    if (g 290 v2.toNatClampNeg) ≤ v4 then (
      some g
    ) else (
      hm_bv (nlX12_rewrite_136 hs_N v1 v2 v4 (((32 : Int32) * v2) + ((4 : Int32) * v4)) (0 : Int32) g) fun g9 =>
      if hs_in ((((32 : Int32) * v2) + ((4 : Int32) * v4)) + (3 : Int32)) 256 = true then
      if hs_in ((((32 : Int32) * v2) + ((4 : Int32) * v4)) + (3 : Int32)) 256 = true then
      hm_bv (some (hm_w g9 306 ((((32 : Int32) * v2) + ((4 : Int32) * v4)) + (3 : Int32)).toNatClampNeg (g9 291 ((((32 : Int32) * v2) + ((4 : Int32) * v4)) + (3 : Int32)).toNatClampNeg))) fun g11 =>
      nlX12_rewrite_111 n v1 v2 (v4 + (1 : Int32)) g11
      else none else none
    )
    else none := rfl
def nlX12_rewrite_19 : Nat → Int32 → Int32 → hm → Option (Nat × Int32 × Int32 × hm)
  | 0, _, _, _ => none
  | n + 1, v1, v2, g =>
    if (g 285 4) ≤ v2 then (
      some (0, v1, v2, g)
    ) else (
      hm_bd (nX12_lay v2 (1 : Int32) g) fun r2 g1 =>
      if r2 ≤ (4000 : Int32) then (
        hm_bv (nX12_put v2 (1 : Int32) g1) fun g3 =>
        if hs_in v2 8 = true then
        if hs_in v2 8 = true then
        hm_bv (nlX12_rewrite_76 hs_N (v1 + r2) v2 r2 (0 : Int32) (hm_w (hm_w g3 307 v2.toNatClampNeg (g3 285 31)) 305 v2.toNatClampNeg r2)) fun g6 =>
        hm_bv (nlX12_rewrite_111 hs_N (v1 + r2) v2 (0 : Int32) g6) fun g13 =>
        nlX12_rewrite_19 n (v1 + r2) (v2 + (1 : Int32)) g13
        else none else none
      ) else (
        some (1, v1, v2, g1)
      )
    )
theorem nlX12_rewrite_19_s (n : Nat) (v1 : Int32) (v2 : Int32) (g : hm) : nlX12_rewrite_19 (n + 1) v1 v2 g =
    if (g 285 4) ≤ v2 then (
      some (0, v1, v2, g)
    ) else (
      hm_bd (nX12_lay v2 (1 : Int32) g) fun r2 g1 =>
      if r2 ≤ (4000 : Int32) then (
        hm_bv (nX12_put v2 (1 : Int32) g1) fun g3 =>
        if hs_in v2 8 = true then
        if hs_in v2 8 = true then
        hm_bv (nlX12_rewrite_76 hs_N (v1 + r2) v2 r2 (0 : Int32) (hm_w (hm_w g3 307 v2.toNatClampNeg (g3 285 31)) 305 v2.toNatClampNeg r2)) fun g6 =>
        hm_bv (nlX12_rewrite_111 hs_N (v1 + r2) v2 (0 : Int32) g6) fun g13 =>
        nlX12_rewrite_19 n (v1 + r2) (v2 + (1 : Int32)) g13
        else none else none
      ) else (
        some (1, v1, v2, g1)
      )
    ) := rfl
def nX12_rewrite  (g : hm) : Option (Int32 × hm) :=
  if (g 285 3) = 0 then (
    some ((-2 : Int32), g)
  ) else (
    hm_b4 (nlX12_rewrite_19 hs_N (0 : Int32) (0 : Int32) (hm_w g 285 22 (0 : Int32))) fun k17 x15 x16 g18 =>
    if k17 = 0 then (
      some (x15, (hm_w g18 285 22 (1 : Int32)))
    ) else (
      some (((-10 : Int32) - x16), g18)
    )
  )
set_option maxHeartbeats 4000000 in
theorem tlX12_rewrite_76 (R : Nat → Nat → Nat) (hR : R 285 = hm_R) : ∀ (n : Nat) (v1 : Int32) (v2 : Int32) (v3 : Int32) (v4 : Int32) (g : hm), lX12_rewrite_76 n 285 v1 v2 v3 v4 (gm g R) = hl_v R (nlX12_rewrite_76 n v1 v2 v3 v4 g) := by
  intro n
  induction n with
  | zero => intros; rfl
  | succ n ih =>
    intro v1 v2 v3 v4 g
    rw [lX12_rewrite_76_s, nlX12_rewrite_76_s]
    simp only [gm_I, gm_R, gm_w, gm_kd, gm_ln, not_false_eq_true, if_true, ite_true, gk_285, gk_286, gk_287, gk_288, gk_289, gk_290, gk_291, gk_292, gk_293, gk_294, gk_295, gk_296, gk_297, gk_298, gk_299, gk_300, gk_301, gk_302, gk_303, gk_304, gk_305, gk_306, gk_307, gk_308, gk_309, gk_310, gk_311, gk_312, gk_313, gk_314, gk_315, gk_316, gk_317, gk_318, gk_319, gn_286, gn_287, gn_288, gn_289, gn_290, gn_291, gn_292, gn_293, gn_294, gn_295, gn_296, gn_297, gn_298, gn_299, gn_300, gn_301, gn_302, gn_303, gn_304, gn_305, gn_306, gn_307, gn_308, gn_309, gn_310, gn_311, gn_312, gn_313, gn_314, gn_315, gn_316, gn_317, gn_318, gn_319, gr_1, gr_5, gr_6, gr_7, gr_8, gr_9, gr_10, gr_11, gr_12, gr_13, gr_14, gr_15, gr_16, gr_17, gr_18, gr_19, gr_20, gr_21, gr_23, gr_24, gr_25, gr_26, gr_27, gr_28, gr_29, gr_30, gr_32, gr_34, gr_35, gr_41, gr_42, gr_43, gr_44, gr_45, gz_1, gz_5, gz_6, gz_7, gz_8, gz_9, gz_10, gz_11, gz_12, gz_13, gz_14, gz_15, gz_16, gz_17, gz_18, gz_19, gz_20, gz_21, gz_23, gz_24, gz_25, gz_26, gz_27, gz_28, gz_29, gz_30, gz_32, gz_34, gz_35, gz_41, gz_42, gz_43, gz_44, gz_45, hl_v_none, hl_v_ite, hl_d_none, hl_d_ite, hl_3_none, hl_3_ite, hl_4_none, hl_4_ite, hl_5_none, hl_5_ite, hl_v_some, hl_d_some, hl_3_some, hl_4_some, hl_5_some, hl_v_bv, hl_d_bv, hl_3_bv, hl_4_bv, hl_5_bv, hl_bv, hl_v_bd, hl_d_bd, hl_3_bd, hl_4_bd, hl_5_bd, hl_bd, hl_v_b3, hl_d_b3, hl_3_b3, hl_4_b3, hl_5_b3, hl_b3, hl_v_b4, hl_d_b4, hl_3_b4, hl_4_b4, hl_5_b4, hl_b4, hl_v_b5, hl_d_b5, hl_3_b5, hl_4_b5, hl_5_b5, hl_b5, hs_bv_i, hm_bv_i, hR, tX12_lay R hR, tX12_put R hR, ih]
    all_goals rfl
set_option maxHeartbeats 4000000 in
theorem tlX12_rewrite_136 (R : Nat → Nat → Nat) (hR : R 285 = hm_R) : ∀ (n : Nat) (v1 : Int32) (v2 : Int32) (v4 : Int32) (v5 : Int32) (v6 : Int32) (g : hm), lX12_rewrite_136 n 285 v1 v2 v4 v5 v6 (gm g R) = hl_v R (nlX12_rewrite_136 n v1 v2 v4 v5 v6 g) := by
  intro n
  induction n with
  | zero => intros; rfl
  | succ n ih =>
    intro v1 v2 v4 v5 v6 g
    rw [lX12_rewrite_136_s, nlX12_rewrite_136_s]
    simp only [gm_I, gm_R, gm_w, gm_kd, gm_ln, not_false_eq_true, if_true, ite_true, gk_285, gk_286, gk_287, gk_288, gk_289, gk_290, gk_291, gk_292, gk_293, gk_294, gk_295, gk_296, gk_297, gk_298, gk_299, gk_300, gk_301, gk_302, gk_303, gk_304, gk_305, gk_306, gk_307, gk_308, gk_309, gk_310, gk_311, gk_312, gk_313, gk_314, gk_315, gk_316, gk_317, gk_318, gk_319, gn_286, gn_287, gn_288, gn_289, gn_290, gn_291, gn_292, gn_293, gn_294, gn_295, gn_296, gn_297, gn_298, gn_299, gn_300, gn_301, gn_302, gn_303, gn_304, gn_305, gn_306, gn_307, gn_308, gn_309, gn_310, gn_311, gn_312, gn_313, gn_314, gn_315, gn_316, gn_317, gn_318, gn_319, gr_1, gr_5, gr_6, gr_7, gr_8, gr_9, gr_10, gr_11, gr_12, gr_13, gr_14, gr_15, gr_16, gr_17, gr_18, gr_19, gr_20, gr_21, gr_23, gr_24, gr_25, gr_26, gr_27, gr_28, gr_29, gr_30, gr_32, gr_34, gr_35, gr_41, gr_42, gr_43, gr_44, gr_45, gz_1, gz_5, gz_6, gz_7, gz_8, gz_9, gz_10, gz_11, gz_12, gz_13, gz_14, gz_15, gz_16, gz_17, gz_18, gz_19, gz_20, gz_21, gz_23, gz_24, gz_25, gz_26, gz_27, gz_28, gz_29, gz_30, gz_32, gz_34, gz_35, gz_41, gz_42, gz_43, gz_44, gz_45, hl_v_none, hl_v_ite, hl_d_none, hl_d_ite, hl_3_none, hl_3_ite, hl_4_none, hl_4_ite, hl_5_none, hl_5_ite, hl_v_some, hl_d_some, hl_3_some, hl_4_some, hl_5_some, hl_v_bv, hl_d_bv, hl_3_bv, hl_4_bv, hl_5_bv, hl_bv, hl_v_bd, hl_d_bd, hl_3_bd, hl_4_bd, hl_5_bd, hl_bd, hl_v_b3, hl_d_b3, hl_3_b3, hl_4_b3, hl_5_b3, hl_b3, hl_v_b4, hl_d_b4, hl_3_b4, hl_4_b4, hl_5_b4, hl_b4, hl_v_b5, hl_d_b5, hl_3_b5, hl_4_b5, hl_5_b5, hl_b5, hs_bv_i, hm_bv_i, hR, tX12_lay R hR, tX12_put R hR, tlX12_rewrite_76 R hR, ih]
    all_goals rfl
set_option maxHeartbeats 4000000 in
theorem tlX12_rewrite_111 (R : Nat → Nat → Nat) (hR : R 285 = hm_R) : ∀ (n : Nat) (v1 : Int32) (v2 : Int32) (v4 : Int32) (g : hm), lX12_rewrite_111 n 285 v1 v2 v4 (gm g R) = hl_v R (nlX12_rewrite_111 n v1 v2 v4 g) := by
  intro n
  induction n with
  | zero => intros; rfl
  | succ n ih =>
    intro v1 v2 v4 g
    rw [lX12_rewrite_111_s, nlX12_rewrite_111_s]
    simp only [gm_I, gm_R, gm_w, gm_kd, gm_ln, not_false_eq_true, if_true, ite_true, gk_285, gk_286, gk_287, gk_288, gk_289, gk_290, gk_291, gk_292, gk_293, gk_294, gk_295, gk_296, gk_297, gk_298, gk_299, gk_300, gk_301, gk_302, gk_303, gk_304, gk_305, gk_306, gk_307, gk_308, gk_309, gk_310, gk_311, gk_312, gk_313, gk_314, gk_315, gk_316, gk_317, gk_318, gk_319, gn_286, gn_287, gn_288, gn_289, gn_290, gn_291, gn_292, gn_293, gn_294, gn_295, gn_296, gn_297, gn_298, gn_299, gn_300, gn_301, gn_302, gn_303, gn_304, gn_305, gn_306, gn_307, gn_308, gn_309, gn_310, gn_311, gn_312, gn_313, gn_314, gn_315, gn_316, gn_317, gn_318, gn_319, gr_1, gr_5, gr_6, gr_7, gr_8, gr_9, gr_10, gr_11, gr_12, gr_13, gr_14, gr_15, gr_16, gr_17, gr_18, gr_19, gr_20, gr_21, gr_23, gr_24, gr_25, gr_26, gr_27, gr_28, gr_29, gr_30, gr_32, gr_34, gr_35, gr_41, gr_42, gr_43, gr_44, gr_45, gz_1, gz_5, gz_6, gz_7, gz_8, gz_9, gz_10, gz_11, gz_12, gz_13, gz_14, gz_15, gz_16, gz_17, gz_18, gz_19, gz_20, gz_21, gz_23, gz_24, gz_25, gz_26, gz_27, gz_28, gz_29, gz_30, gz_32, gz_34, gz_35, gz_41, gz_42, gz_43, gz_44, gz_45, hl_v_none, hl_v_ite, hl_d_none, hl_d_ite, hl_3_none, hl_3_ite, hl_4_none, hl_4_ite, hl_5_none, hl_5_ite, hl_v_some, hl_d_some, hl_3_some, hl_4_some, hl_5_some, hl_v_bv, hl_d_bv, hl_3_bv, hl_4_bv, hl_5_bv, hl_bv, hl_v_bd, hl_d_bd, hl_3_bd, hl_4_bd, hl_5_bd, hl_bd, hl_v_b3, hl_d_b3, hl_3_b3, hl_4_b3, hl_5_b3, hl_b3, hl_v_b4, hl_d_b4, hl_3_b4, hl_4_b4, hl_5_b4, hl_b4, hl_v_b5, hl_d_b5, hl_3_b5, hl_4_b5, hl_5_b5, hl_b5, hs_bv_i, hm_bv_i, hR, tX12_lay R hR, tX12_put R hR, tlX12_rewrite_76 R hR, tlX12_rewrite_136 R hR, ih]
    all_goals rfl
set_option maxHeartbeats 4000000 in
theorem tlX12_rewrite_19 (R : Nat → Nat → Nat) (hR : R 285 = hm_R) : ∀ (n : Nat) (v1 : Int32) (v2 : Int32) (g : hm), lX12_rewrite_19 n 285 v1 v2 (gm g R) = hl_4 R (nlX12_rewrite_19 n v1 v2 g) := by
  intro n
  induction n with
  | zero => intros; rfl
  | succ n ih =>
    intro v1 v2 g
    rw [lX12_rewrite_19_s, nlX12_rewrite_19_s]
    simp only [gm_I, gm_R, gm_w, gm_kd, gm_ln, not_false_eq_true, if_true, ite_true, gk_285, gk_286, gk_287, gk_288, gk_289, gk_290, gk_291, gk_292, gk_293, gk_294, gk_295, gk_296, gk_297, gk_298, gk_299, gk_300, gk_301, gk_302, gk_303, gk_304, gk_305, gk_306, gk_307, gk_308, gk_309, gk_310, gk_311, gk_312, gk_313, gk_314, gk_315, gk_316, gk_317, gk_318, gk_319, gn_286, gn_287, gn_288, gn_289, gn_290, gn_291, gn_292, gn_293, gn_294, gn_295, gn_296, gn_297, gn_298, gn_299, gn_300, gn_301, gn_302, gn_303, gn_304, gn_305, gn_306, gn_307, gn_308, gn_309, gn_310, gn_311, gn_312, gn_313, gn_314, gn_315, gn_316, gn_317, gn_318, gn_319, gr_1, gr_5, gr_6, gr_7, gr_8, gr_9, gr_10, gr_11, gr_12, gr_13, gr_14, gr_15, gr_16, gr_17, gr_18, gr_19, gr_20, gr_21, gr_23, gr_24, gr_25, gr_26, gr_27, gr_28, gr_29, gr_30, gr_32, gr_34, gr_35, gr_41, gr_42, gr_43, gr_44, gr_45, gz_1, gz_5, gz_6, gz_7, gz_8, gz_9, gz_10, gz_11, gz_12, gz_13, gz_14, gz_15, gz_16, gz_17, gz_18, gz_19, gz_20, gz_21, gz_23, gz_24, gz_25, gz_26, gz_27, gz_28, gz_29, gz_30, gz_32, gz_34, gz_35, gz_41, gz_42, gz_43, gz_44, gz_45, hl_v_none, hl_v_ite, hl_d_none, hl_d_ite, hl_3_none, hl_3_ite, hl_4_none, hl_4_ite, hl_5_none, hl_5_ite, hl_v_some, hl_d_some, hl_3_some, hl_4_some, hl_5_some, hl_v_bv, hl_d_bv, hl_3_bv, hl_4_bv, hl_5_bv, hl_bv, hl_v_bd, hl_d_bd, hl_3_bd, hl_4_bd, hl_5_bd, hl_bd, hl_v_b3, hl_d_b3, hl_3_b3, hl_4_b3, hl_5_b3, hl_b3, hl_v_b4, hl_d_b4, hl_3_b4, hl_4_b4, hl_5_b4, hl_b4, hl_v_b5, hl_d_b5, hl_3_b5, hl_4_b5, hl_5_b5, hl_b5, hs_bv_i, hm_bv_i, hR, tX12_lay R hR, tX12_put R hR, tlX12_rewrite_76 R hR, tlX12_rewrite_136 R hR, tlX12_rewrite_111 R hR, ih]
    all_goals rfl
set_option maxHeartbeats 4000000 in
theorem tX12_rewrite (R : Nat → Nat → Nat) (hR : R 285 = hm_R)  (g : hm) : fX12_rewrite 285  (gm g R) = hl_d R (nX12_rewrite  g) := by
  unfold fX12_rewrite nX12_rewrite
  simp only [gm_I, gm_R, gm_w, gm_kd, gm_ln, not_false_eq_true, if_true, ite_true, gk_285, gk_286, gk_287, gk_288, gk_289, gk_290, gk_291, gk_292, gk_293, gk_294, gk_295, gk_296, gk_297, gk_298, gk_299, gk_300, gk_301, gk_302, gk_303, gk_304, gk_305, gk_306, gk_307, gk_308, gk_309, gk_310, gk_311, gk_312, gk_313, gk_314, gk_315, gk_316, gk_317, gk_318, gk_319, gn_286, gn_287, gn_288, gn_289, gn_290, gn_291, gn_292, gn_293, gn_294, gn_295, gn_296, gn_297, gn_298, gn_299, gn_300, gn_301, gn_302, gn_303, gn_304, gn_305, gn_306, gn_307, gn_308, gn_309, gn_310, gn_311, gn_312, gn_313, gn_314, gn_315, gn_316, gn_317, gn_318, gn_319, gr_1, gr_5, gr_6, gr_7, gr_8, gr_9, gr_10, gr_11, gr_12, gr_13, gr_14, gr_15, gr_16, gr_17, gr_18, gr_19, gr_20, gr_21, gr_23, gr_24, gr_25, gr_26, gr_27, gr_28, gr_29, gr_30, gr_32, gr_34, gr_35, gr_41, gr_42, gr_43, gr_44, gr_45, gz_1, gz_5, gz_6, gz_7, gz_8, gz_9, gz_10, gz_11, gz_12, gz_13, gz_14, gz_15, gz_16, gz_17, gz_18, gz_19, gz_20, gz_21, gz_23, gz_24, gz_25, gz_26, gz_27, gz_28, gz_29, gz_30, gz_32, gz_34, gz_35, gz_41, gz_42, gz_43, gz_44, gz_45, hl_v_none, hl_v_ite, hl_d_none, hl_d_ite, hl_3_none, hl_3_ite, hl_4_none, hl_4_ite, hl_5_none, hl_5_ite, hl_v_some, hl_d_some, hl_3_some, hl_4_some, hl_5_some, hl_v_bv, hl_d_bv, hl_3_bv, hl_4_bv, hl_5_bv, hl_bv, hl_v_bd, hl_d_bd, hl_3_bd, hl_4_bd, hl_5_bd, hl_bd, hl_v_b3, hl_d_b3, hl_3_b3, hl_4_b3, hl_5_b3, hl_b3, hl_v_b4, hl_d_b4, hl_3_b4, hl_4_b4, hl_5_b4, hl_b4, hl_v_b5, hl_d_b5, hl_3_b5, hl_4_b5, hl_5_b5, hl_b5, hs_bv_i, hm_bv_i, hR, tX12_lay R hR, tX12_put R hR, tlX12_rewrite_76 R hR, tlX12_rewrite_136 R hR, tlX12_rewrite_111 R hR, tlX12_rewrite_19 R hR]
  all_goals rfl
def njX12_countBlocks_34 (rec : Int32 → Int32 → hm → Option (Int32 × hm)) (v1 : Int32) (v3 : Int32) (s0 : Int32) (s1 : Int32) (g : hm) : Option (Int32 × hm) :=
  rec (s1 + s0) (v3 + (1 : Int32)) g
def nlX12_countBlocks_9 : Nat → Int32 → Int32 → Int32 → hm → Option (Int32 × hm)
  | 0, _, _, _, _ => none
  | n + 1, v1, v2, v3, g =>
    if hs_in v1 8 = true then
    if (g 289 v1.toNatClampNeg) ≤ v3 then (
      some (v2, g)
    ) else (
      if hs_in v3 2008 = true then
      if (g 294 v3.toNatClampNeg) = 0 then (
        njX12_countBlocks_34 (fun y0 y1 g => nlX12_countBlocks_9 n v1 y0 y1 g) v1 v3 (0 : Int32) v2 g
      ) else (
        njX12_countBlocks_34 (fun y0 y1 g => nlX12_countBlocks_9 n v1 y0 y1 g) v1 v3 (1 : Int32) v2 g
      )
      else none
    )
    else none
theorem nlX12_countBlocks_9_s (n : Nat) (v1 : Int32) (v2 : Int32) (v3 : Int32) (g : hm) : nlX12_countBlocks_9 (n + 1) v1 v2 v3 g =
    if hs_in v1 8 = true then
    if (g 289 v1.toNatClampNeg) ≤ v3 then (
      some (v2, g)
    ) else (
      if hs_in v3 2008 = true then
      if (g 294 v3.toNatClampNeg) = 0 then (
        njX12_countBlocks_34 (fun y0 y1 g => nlX12_countBlocks_9 n v1 y0 y1 g) v1 v3 (0 : Int32) v2 g
      ) else (
        njX12_countBlocks_34 (fun y0 y1 g => nlX12_countBlocks_9 n v1 y0 y1 g) v1 v3 (1 : Int32) v2 g
      )
      else none
    )
    else none := rfl
def nX12_countBlocks (v1 : Int32) (g : hm) : Option (Int32 × hm) :=
  hm_bv (nX12_mark v1 g) fun g1 =>
  hm_bd (nlX12_countBlocks_9 hs_N v1 (0 : Int32) (0 : Int32) g1) fun x3 g5 =>
  some (x3, g5)
set_option maxHeartbeats 4000000 in
theorem tjX12_countBlocks_34 (R : Nat → Nat → Nat) (hR : R 285 = hm_R) (rec : Int32 → Int32 → hs_S → Option (Int32 × hs_S)) (rec2 : Int32 → Int32 → hm → Option (Int32 × hm)) (hrec : ∀ (y0 : Int32) (y1 : Int32) (g : hm), rec y0 y1 (gm g R) = hl_d R (rec2 y0 y1 g)) (v1 : Int32) (v3 : Int32) (s0 : Int32) (s1 : Int32) (g : hm) : jX12_countBlocks_34 rec 285 v1 v3 s0 s1 (gm g R) = hl_d R (njX12_countBlocks_34 rec2 v1 v3 s0 s1 g) := by
  unfold jX12_countBlocks_34 njX12_countBlocks_34
  simp only [gm_I, gm_R, gm_w, gm_kd, gm_ln, not_false_eq_true, if_true, ite_true, gk_285, gk_286, gk_287, gk_288, gk_289, gk_290, gk_291, gk_292, gk_293, gk_294, gk_295, gk_296, gk_297, gk_298, gk_299, gk_300, gk_301, gk_302, gk_303, gk_304, gk_305, gk_306, gk_307, gk_308, gk_309, gk_310, gk_311, gk_312, gk_313, gk_314, gk_315, gk_316, gk_317, gk_318, gk_319, gn_286, gn_287, gn_288, gn_289, gn_290, gn_291, gn_292, gn_293, gn_294, gn_295, gn_296, gn_297, gn_298, gn_299, gn_300, gn_301, gn_302, gn_303, gn_304, gn_305, gn_306, gn_307, gn_308, gn_309, gn_310, gn_311, gn_312, gn_313, gn_314, gn_315, gn_316, gn_317, gn_318, gn_319, gr_1, gr_5, gr_6, gr_7, gr_8, gr_9, gr_10, gr_11, gr_12, gr_13, gr_14, gr_15, gr_16, gr_17, gr_18, gr_19, gr_20, gr_21, gr_23, gr_24, gr_25, gr_26, gr_27, gr_28, gr_29, gr_30, gr_32, gr_34, gr_35, gr_41, gr_42, gr_43, gr_44, gr_45, gz_1, gz_5, gz_6, gz_7, gz_8, gz_9, gz_10, gz_11, gz_12, gz_13, gz_14, gz_15, gz_16, gz_17, gz_18, gz_19, gz_20, gz_21, gz_23, gz_24, gz_25, gz_26, gz_27, gz_28, gz_29, gz_30, gz_32, gz_34, gz_35, gz_41, gz_42, gz_43, gz_44, gz_45, hl_v_none, hl_v_ite, hl_d_none, hl_d_ite, hl_3_none, hl_3_ite, hl_4_none, hl_4_ite, hl_5_none, hl_5_ite, hl_v_some, hl_d_some, hl_3_some, hl_4_some, hl_5_some, hl_v_bv, hl_d_bv, hl_3_bv, hl_4_bv, hl_5_bv, hl_bv, hl_v_bd, hl_d_bd, hl_3_bd, hl_4_bd, hl_5_bd, hl_bd, hl_v_b3, hl_d_b3, hl_3_b3, hl_4_b3, hl_5_b3, hl_b3, hl_v_b4, hl_d_b4, hl_3_b4, hl_4_b4, hl_5_b4, hl_b4, hl_v_b5, hl_d_b5, hl_3_b5, hl_4_b5, hl_5_b5, hl_b5, hs_bv_i, hm_bv_i, hR, tX12_mark R hR, hrec]
  all_goals rfl
set_option maxHeartbeats 4000000 in
theorem tlX12_countBlocks_9 (R : Nat → Nat → Nat) (hR : R 285 = hm_R) : ∀ (n : Nat) (v1 : Int32) (v2 : Int32) (v3 : Int32) (g : hm), lX12_countBlocks_9 n 285 v1 v2 v3 (gm g R) = hl_d R (nlX12_countBlocks_9 n v1 v2 v3 g) := by
  intro n
  induction n with
  | zero => intros; rfl
  | succ n ih =>
    intro v1 v2 v3 g
    rw [lX12_countBlocks_9_s, nlX12_countBlocks_9_s]
    simp only [gm_I, gm_R, gm_w, gm_kd, gm_ln, not_false_eq_true, if_true, ite_true, gk_285, gk_286, gk_287, gk_288, gk_289, gk_290, gk_291, gk_292, gk_293, gk_294, gk_295, gk_296, gk_297, gk_298, gk_299, gk_300, gk_301, gk_302, gk_303, gk_304, gk_305, gk_306, gk_307, gk_308, gk_309, gk_310, gk_311, gk_312, gk_313, gk_314, gk_315, gk_316, gk_317, gk_318, gk_319, gn_286, gn_287, gn_288, gn_289, gn_290, gn_291, gn_292, gn_293, gn_294, gn_295, gn_296, gn_297, gn_298, gn_299, gn_300, gn_301, gn_302, gn_303, gn_304, gn_305, gn_306, gn_307, gn_308, gn_309, gn_310, gn_311, gn_312, gn_313, gn_314, gn_315, gn_316, gn_317, gn_318, gn_319, gr_1, gr_5, gr_6, gr_7, gr_8, gr_9, gr_10, gr_11, gr_12, gr_13, gr_14, gr_15, gr_16, gr_17, gr_18, gr_19, gr_20, gr_21, gr_23, gr_24, gr_25, gr_26, gr_27, gr_28, gr_29, gr_30, gr_32, gr_34, gr_35, gr_41, gr_42, gr_43, gr_44, gr_45, gz_1, gz_5, gz_6, gz_7, gz_8, gz_9, gz_10, gz_11, gz_12, gz_13, gz_14, gz_15, gz_16, gz_17, gz_18, gz_19, gz_20, gz_21, gz_23, gz_24, gz_25, gz_26, gz_27, gz_28, gz_29, gz_30, gz_32, gz_34, gz_35, gz_41, gz_42, gz_43, gz_44, gz_45, hl_v_none, hl_v_ite, hl_d_none, hl_d_ite, hl_3_none, hl_3_ite, hl_4_none, hl_4_ite, hl_5_none, hl_5_ite, hl_v_some, hl_d_some, hl_3_some, hl_4_some, hl_5_some, hl_v_bv, hl_d_bv, hl_3_bv, hl_4_bv, hl_5_bv, hl_bv, hl_v_bd, hl_d_bd, hl_3_bd, hl_4_bd, hl_5_bd, hl_bd, hl_v_b3, hl_d_b3, hl_3_b3, hl_4_b3, hl_5_b3, hl_b3, hl_v_b4, hl_d_b4, hl_3_b4, hl_4_b4, hl_5_b4, hl_b4, hl_v_b5, hl_d_b5, hl_3_b5, hl_4_b5, hl_5_b5, hl_b5, hs_bv_i, hm_bv_i, hR, tX12_mark R hR, ih, tjX12_countBlocks_34 R hR _ _ (fun y0 y1 g => ih v1 y0 y1 g)]
    all_goals rfl
set_option maxHeartbeats 4000000 in
theorem tX12_countBlocks (R : Nat → Nat → Nat) (hR : R 285 = hm_R) (v1 : Int32) (g : hm) : fX12_countBlocks 285 v1 (gm g R) = hl_d R (nX12_countBlocks v1 g) := by
  unfold fX12_countBlocks nX12_countBlocks
  simp only [gm_I, gm_R, gm_w, gm_kd, gm_ln, not_false_eq_true, if_true, ite_true, gk_285, gk_286, gk_287, gk_288, gk_289, gk_290, gk_291, gk_292, gk_293, gk_294, gk_295, gk_296, gk_297, gk_298, gk_299, gk_300, gk_301, gk_302, gk_303, gk_304, gk_305, gk_306, gk_307, gk_308, gk_309, gk_310, gk_311, gk_312, gk_313, gk_314, gk_315, gk_316, gk_317, gk_318, gk_319, gn_286, gn_287, gn_288, gn_289, gn_290, gn_291, gn_292, gn_293, gn_294, gn_295, gn_296, gn_297, gn_298, gn_299, gn_300, gn_301, gn_302, gn_303, gn_304, gn_305, gn_306, gn_307, gn_308, gn_309, gn_310, gn_311, gn_312, gn_313, gn_314, gn_315, gn_316, gn_317, gn_318, gn_319, gr_1, gr_5, gr_6, gr_7, gr_8, gr_9, gr_10, gr_11, gr_12, gr_13, gr_14, gr_15, gr_16, gr_17, gr_18, gr_19, gr_20, gr_21, gr_23, gr_24, gr_25, gr_26, gr_27, gr_28, gr_29, gr_30, gr_32, gr_34, gr_35, gr_41, gr_42, gr_43, gr_44, gr_45, gz_1, gz_5, gz_6, gz_7, gz_8, gz_9, gz_10, gz_11, gz_12, gz_13, gz_14, gz_15, gz_16, gz_17, gz_18, gz_19, gz_20, gz_21, gz_23, gz_24, gz_25, gz_26, gz_27, gz_28, gz_29, gz_30, gz_32, gz_34, gz_35, gz_41, gz_42, gz_43, gz_44, gz_45, hl_v_none, hl_v_ite, hl_d_none, hl_d_ite, hl_3_none, hl_3_ite, hl_4_none, hl_4_ite, hl_5_none, hl_5_ite, hl_v_some, hl_d_some, hl_3_some, hl_4_some, hl_5_some, hl_v_bv, hl_d_bv, hl_3_bv, hl_4_bv, hl_5_bv, hl_bv, hl_v_bd, hl_d_bd, hl_3_bd, hl_4_bd, hl_5_bd, hl_bd, hl_v_b3, hl_d_b3, hl_3_b3, hl_4_b3, hl_5_b3, hl_b3, hl_v_b4, hl_d_b4, hl_3_b4, hl_4_b4, hl_5_b4, hl_b4, hl_v_b5, hl_d_b5, hl_3_b5, hl_4_b5, hl_5_b5, hl_b5, hs_bv_i, hm_bv_i, hR, tX12_mark R hR, tlX12_countBlocks_9 R hR]
  all_goals rfl
def njX12_longJumps_76 (rec : Int32 → Int32 → hm → Option (Int32 × hm)) (v1 : Int32) (v2 : Int32) (v4 : Int32) (v5 : Int32) (v6 : Int32) (s0 : Int32) (s1 : Int32) (g : hm) : Option (Int32 × hm) :=
  hm_bd (nX12_size v6 g) fun r4 g3 =>
  rec (s1 + s0) (v4 + r4) g3
def njX12_longJumps_60 (rec : Int32 → Int32 → hm → Option (Int32 × hm)) (v1 : Int32) (v2 : Int32) (v3 : Int32) (v4 : Int32) (v5 : Int32) (s0 : Int32) (g : hm) : Option (Int32 × hm) :=
  if s0 = (168 : Int32) then (
    njX12_longJumps_76 rec v1 v2 v4 v5 s0 (1 : Int32) v3 g
  ) else (
    njX12_longJumps_76 rec v1 v2 v4 v5 s0 (0 : Int32) v3 g
  )
def nlX12_longJumps_26 : Nat → Int32 → Int32 → Int32 → Int32 → Int32 → hm → Option (Int32 × hm)
  | 0, _, _, _, _, _, _ => none
  | n + 1, v1, v2, v3, v4, v5, g =>
    if v5 ≤ v4 then (
      some (v3, g)
    ) else (
      if v2 = 0 then (
        hm_bd (nX12_kindAt v1 v4 g) fun r2 g1 =>
        njX12_longJumps_60 (fun y0 y1 g => nlX12_longJumps_26 n v1 v2 y0 y1 v5 g) v1 v2 v3 v4 v5 r2 g1
      ) else (
        if hs_in (((4001 : Int32) * v1) + v4) 32008 = true then
        njX12_longJumps_60 (fun y0 y1 g => nlX12_longJumps_26 n v1 v2 y0 y1 v5 g) v1 v2 v3 v4 v5 (g 304 (((4001 : Int32) * v1) + v4).toNatClampNeg) g
        else none
      )
    )
theorem nlX12_longJumps_26_s (n : Nat) (v1 : Int32) (v2 : Int32) (v3 : Int32) (v4 : Int32) (v5 : Int32) (g : hm) : nlX12_longJumps_26 (n + 1) v1 v2 v3 v4 v5 g =
    if v5 ≤ v4 then (
      some (v3, g)
    ) else (
      if v2 = 0 then (
        hm_bd (nX12_kindAt v1 v4 g) fun r2 g1 =>
        njX12_longJumps_60 (fun y0 y1 g => nlX12_longJumps_26 n v1 v2 y0 y1 v5 g) v1 v2 v3 v4 v5 r2 g1
      ) else (
        if hs_in (((4001 : Int32) * v1) + v4) 32008 = true then
        njX12_longJumps_60 (fun y0 y1 g => nlX12_longJumps_26 n v1 v2 y0 y1 v5 g) v1 v2 v3 v4 v5 (g 304 (((4001 : Int32) * v1) + v4).toNatClampNeg) g
        else none
      )
    ) := rfl
def njX12_longJumps_24 (v1 : Int32) (v2 : Int32) (v3 : Int32) (v4 : Int32) (s0 : Int32) (g : hm) : Option (Int32 × hm) :=
  hm_bd (nlX12_longJumps_26 hs_N v1 v2 v3 v4 s0 g) fun x5 g7 =>
  some (x5, g7)
def nX12_longJumps (v1 : Int32) (v2 : Int32) (g : hm) : Option (Int32 × hm) :=
  if v2 = 0 then (
    if hs_in v1 8 = true then
    njX12_longJumps_24 v1 v2 (0 : Int32) (0 : Int32) (g 289 v1.toNatClampNeg) g
    else none
  ) else (
    if hs_in v1 8 = true then
    njX12_longJumps_24 v1 v2 (0 : Int32) (0 : Int32) (g 305 v1.toNatClampNeg) g
    else none
  )
set_option maxHeartbeats 4000000 in
theorem tjX12_longJumps_76 (R : Nat → Nat → Nat) (hR : R 285 = hm_R) (rec : Int32 → Int32 → hs_S → Option (Int32 × hs_S)) (rec2 : Int32 → Int32 → hm → Option (Int32 × hm)) (hrec : ∀ (y0 : Int32) (y1 : Int32) (g : hm), rec y0 y1 (gm g R) = hl_d R (rec2 y0 y1 g)) (v1 : Int32) (v2 : Int32) (v4 : Int32) (v5 : Int32) (v6 : Int32) (s0 : Int32) (s1 : Int32) (g : hm) : jX12_longJumps_76 rec 285 v1 v2 v4 v5 v6 s0 s1 (gm g R) = hl_d R (njX12_longJumps_76 rec2 v1 v2 v4 v5 v6 s0 s1 g) := by
  unfold jX12_longJumps_76 njX12_longJumps_76
  simp only [gm_I, gm_R, gm_w, gm_kd, gm_ln, not_false_eq_true, if_true, ite_true, gk_285, gk_286, gk_287, gk_288, gk_289, gk_290, gk_291, gk_292, gk_293, gk_294, gk_295, gk_296, gk_297, gk_298, gk_299, gk_300, gk_301, gk_302, gk_303, gk_304, gk_305, gk_306, gk_307, gk_308, gk_309, gk_310, gk_311, gk_312, gk_313, gk_314, gk_315, gk_316, gk_317, gk_318, gk_319, gn_286, gn_287, gn_288, gn_289, gn_290, gn_291, gn_292, gn_293, gn_294, gn_295, gn_296, gn_297, gn_298, gn_299, gn_300, gn_301, gn_302, gn_303, gn_304, gn_305, gn_306, gn_307, gn_308, gn_309, gn_310, gn_311, gn_312, gn_313, gn_314, gn_315, gn_316, gn_317, gn_318, gn_319, gr_1, gr_5, gr_6, gr_7, gr_8, gr_9, gr_10, gr_11, gr_12, gr_13, gr_14, gr_15, gr_16, gr_17, gr_18, gr_19, gr_20, gr_21, gr_23, gr_24, gr_25, gr_26, gr_27, gr_28, gr_29, gr_30, gr_32, gr_34, gr_35, gr_41, gr_42, gr_43, gr_44, gr_45, gz_1, gz_5, gz_6, gz_7, gz_8, gz_9, gz_10, gz_11, gz_12, gz_13, gz_14, gz_15, gz_16, gz_17, gz_18, gz_19, gz_20, gz_21, gz_23, gz_24, gz_25, gz_26, gz_27, gz_28, gz_29, gz_30, gz_32, gz_34, gz_35, gz_41, gz_42, gz_43, gz_44, gz_45, hl_v_none, hl_v_ite, hl_d_none, hl_d_ite, hl_3_none, hl_3_ite, hl_4_none, hl_4_ite, hl_5_none, hl_5_ite, hl_v_some, hl_d_some, hl_3_some, hl_4_some, hl_5_some, hl_v_bv, hl_d_bv, hl_3_bv, hl_4_bv, hl_5_bv, hl_bv, hl_v_bd, hl_d_bd, hl_3_bd, hl_4_bd, hl_5_bd, hl_bd, hl_v_b3, hl_d_b3, hl_3_b3, hl_4_b3, hl_5_b3, hl_b3, hl_v_b4, hl_d_b4, hl_3_b4, hl_4_b4, hl_5_b4, hl_b4, hl_v_b5, hl_d_b5, hl_3_b5, hl_4_b5, hl_5_b5, hl_b5, hs_bv_i, hm_bv_i, hR, tX12_kindAt R hR, tX12_size R hR, hrec]
  all_goals rfl
set_option maxHeartbeats 4000000 in
theorem tjX12_longJumps_60 (R : Nat → Nat → Nat) (hR : R 285 = hm_R) (rec : Int32 → Int32 → hs_S → Option (Int32 × hs_S)) (rec2 : Int32 → Int32 → hm → Option (Int32 × hm)) (hrec : ∀ (y0 : Int32) (y1 : Int32) (g : hm), rec y0 y1 (gm g R) = hl_d R (rec2 y0 y1 g)) (v1 : Int32) (v2 : Int32) (v3 : Int32) (v4 : Int32) (v5 : Int32) (s0 : Int32) (g : hm) : jX12_longJumps_60 rec 285 v1 v2 v3 v4 v5 s0 (gm g R) = hl_d R (njX12_longJumps_60 rec2 v1 v2 v3 v4 v5 s0 g) := by
  unfold jX12_longJumps_60 njX12_longJumps_60
  simp only [gm_I, gm_R, gm_w, gm_kd, gm_ln, not_false_eq_true, if_true, ite_true, gk_285, gk_286, gk_287, gk_288, gk_289, gk_290, gk_291, gk_292, gk_293, gk_294, gk_295, gk_296, gk_297, gk_298, gk_299, gk_300, gk_301, gk_302, gk_303, gk_304, gk_305, gk_306, gk_307, gk_308, gk_309, gk_310, gk_311, gk_312, gk_313, gk_314, gk_315, gk_316, gk_317, gk_318, gk_319, gn_286, gn_287, gn_288, gn_289, gn_290, gn_291, gn_292, gn_293, gn_294, gn_295, gn_296, gn_297, gn_298, gn_299, gn_300, gn_301, gn_302, gn_303, gn_304, gn_305, gn_306, gn_307, gn_308, gn_309, gn_310, gn_311, gn_312, gn_313, gn_314, gn_315, gn_316, gn_317, gn_318, gn_319, gr_1, gr_5, gr_6, gr_7, gr_8, gr_9, gr_10, gr_11, gr_12, gr_13, gr_14, gr_15, gr_16, gr_17, gr_18, gr_19, gr_20, gr_21, gr_23, gr_24, gr_25, gr_26, gr_27, gr_28, gr_29, gr_30, gr_32, gr_34, gr_35, gr_41, gr_42, gr_43, gr_44, gr_45, gz_1, gz_5, gz_6, gz_7, gz_8, gz_9, gz_10, gz_11, gz_12, gz_13, gz_14, gz_15, gz_16, gz_17, gz_18, gz_19, gz_20, gz_21, gz_23, gz_24, gz_25, gz_26, gz_27, gz_28, gz_29, gz_30, gz_32, gz_34, gz_35, gz_41, gz_42, gz_43, gz_44, gz_45, hl_v_none, hl_v_ite, hl_d_none, hl_d_ite, hl_3_none, hl_3_ite, hl_4_none, hl_4_ite, hl_5_none, hl_5_ite, hl_v_some, hl_d_some, hl_3_some, hl_4_some, hl_5_some, hl_v_bv, hl_d_bv, hl_3_bv, hl_4_bv, hl_5_bv, hl_bv, hl_v_bd, hl_d_bd, hl_3_bd, hl_4_bd, hl_5_bd, hl_bd, hl_v_b3, hl_d_b3, hl_3_b3, hl_4_b3, hl_5_b3, hl_b3, hl_v_b4, hl_d_b4, hl_3_b4, hl_4_b4, hl_5_b4, hl_b4, hl_v_b5, hl_d_b5, hl_3_b5, hl_4_b5, hl_5_b5, hl_b5, hs_bv_i, hm_bv_i, hR, tX12_kindAt R hR, tX12_size R hR, hrec, tjX12_longJumps_76 R hR rec rec2 hrec]
  all_goals rfl
set_option maxHeartbeats 4000000 in
theorem tlX12_longJumps_26 (R : Nat → Nat → Nat) (hR : R 285 = hm_R) : ∀ (n : Nat) (v1 : Int32) (v2 : Int32) (v3 : Int32) (v4 : Int32) (v5 : Int32) (g : hm), lX12_longJumps_26 n 285 v1 v2 v3 v4 v5 (gm g R) = hl_d R (nlX12_longJumps_26 n v1 v2 v3 v4 v5 g) := by
  intro n
  induction n with
  | zero => intros; rfl
  | succ n ih =>
    intro v1 v2 v3 v4 v5 g
    rw [lX12_longJumps_26_s, nlX12_longJumps_26_s]
    simp only [gm_I, gm_R, gm_w, gm_kd, gm_ln, not_false_eq_true, if_true, ite_true, gk_285, gk_286, gk_287, gk_288, gk_289, gk_290, gk_291, gk_292, gk_293, gk_294, gk_295, gk_296, gk_297, gk_298, gk_299, gk_300, gk_301, gk_302, gk_303, gk_304, gk_305, gk_306, gk_307, gk_308, gk_309, gk_310, gk_311, gk_312, gk_313, gk_314, gk_315, gk_316, gk_317, gk_318, gk_319, gn_286, gn_287, gn_288, gn_289, gn_290, gn_291, gn_292, gn_293, gn_294, gn_295, gn_296, gn_297, gn_298, gn_299, gn_300, gn_301, gn_302, gn_303, gn_304, gn_305, gn_306, gn_307, gn_308, gn_309, gn_310, gn_311, gn_312, gn_313, gn_314, gn_315, gn_316, gn_317, gn_318, gn_319, gr_1, gr_5, gr_6, gr_7, gr_8, gr_9, gr_10, gr_11, gr_12, gr_13, gr_14, gr_15, gr_16, gr_17, gr_18, gr_19, gr_20, gr_21, gr_23, gr_24, gr_25, gr_26, gr_27, gr_28, gr_29, gr_30, gr_32, gr_34, gr_35, gr_41, gr_42, gr_43, gr_44, gr_45, gz_1, gz_5, gz_6, gz_7, gz_8, gz_9, gz_10, gz_11, gz_12, gz_13, gz_14, gz_15, gz_16, gz_17, gz_18, gz_19, gz_20, gz_21, gz_23, gz_24, gz_25, gz_26, gz_27, gz_28, gz_29, gz_30, gz_32, gz_34, gz_35, gz_41, gz_42, gz_43, gz_44, gz_45, hl_v_none, hl_v_ite, hl_d_none, hl_d_ite, hl_3_none, hl_3_ite, hl_4_none, hl_4_ite, hl_5_none, hl_5_ite, hl_v_some, hl_d_some, hl_3_some, hl_4_some, hl_5_some, hl_v_bv, hl_d_bv, hl_3_bv, hl_4_bv, hl_5_bv, hl_bv, hl_v_bd, hl_d_bd, hl_3_bd, hl_4_bd, hl_5_bd, hl_bd, hl_v_b3, hl_d_b3, hl_3_b3, hl_4_b3, hl_5_b3, hl_b3, hl_v_b4, hl_d_b4, hl_3_b4, hl_4_b4, hl_5_b4, hl_b4, hl_v_b5, hl_d_b5, hl_3_b5, hl_4_b5, hl_5_b5, hl_b5, hs_bv_i, hm_bv_i, hR, tX12_kindAt R hR, tX12_size R hR, ih, tjX12_longJumps_76 R hR _ _ (fun y0 y1 g => ih v1 v2 y0 y1 v5 g), tjX12_longJumps_60 R hR _ _ (fun y0 y1 g => ih v1 v2 y0 y1 v5 g)]
    all_goals rfl
set_option maxHeartbeats 4000000 in
theorem tjX12_longJumps_24 (R : Nat → Nat → Nat) (hR : R 285 = hm_R) (v1 : Int32) (v2 : Int32) (v3 : Int32) (v4 : Int32) (s0 : Int32) (g : hm) : jX12_longJumps_24 285 v1 v2 v3 v4 s0 (gm g R) = hl_d R (njX12_longJumps_24 v1 v2 v3 v4 s0 g) := by
  unfold jX12_longJumps_24 njX12_longJumps_24
  simp only [gm_I, gm_R, gm_w, gm_kd, gm_ln, not_false_eq_true, if_true, ite_true, gk_285, gk_286, gk_287, gk_288, gk_289, gk_290, gk_291, gk_292, gk_293, gk_294, gk_295, gk_296, gk_297, gk_298, gk_299, gk_300, gk_301, gk_302, gk_303, gk_304, gk_305, gk_306, gk_307, gk_308, gk_309, gk_310, gk_311, gk_312, gk_313, gk_314, gk_315, gk_316, gk_317, gk_318, gk_319, gn_286, gn_287, gn_288, gn_289, gn_290, gn_291, gn_292, gn_293, gn_294, gn_295, gn_296, gn_297, gn_298, gn_299, gn_300, gn_301, gn_302, gn_303, gn_304, gn_305, gn_306, gn_307, gn_308, gn_309, gn_310, gn_311, gn_312, gn_313, gn_314, gn_315, gn_316, gn_317, gn_318, gn_319, gr_1, gr_5, gr_6, gr_7, gr_8, gr_9, gr_10, gr_11, gr_12, gr_13, gr_14, gr_15, gr_16, gr_17, gr_18, gr_19, gr_20, gr_21, gr_23, gr_24, gr_25, gr_26, gr_27, gr_28, gr_29, gr_30, gr_32, gr_34, gr_35, gr_41, gr_42, gr_43, gr_44, gr_45, gz_1, gz_5, gz_6, gz_7, gz_8, gz_9, gz_10, gz_11, gz_12, gz_13, gz_14, gz_15, gz_16, gz_17, gz_18, gz_19, gz_20, gz_21, gz_23, gz_24, gz_25, gz_26, gz_27, gz_28, gz_29, gz_30, gz_32, gz_34, gz_35, gz_41, gz_42, gz_43, gz_44, gz_45, hl_v_none, hl_v_ite, hl_d_none, hl_d_ite, hl_3_none, hl_3_ite, hl_4_none, hl_4_ite, hl_5_none, hl_5_ite, hl_v_some, hl_d_some, hl_3_some, hl_4_some, hl_5_some, hl_v_bv, hl_d_bv, hl_3_bv, hl_4_bv, hl_5_bv, hl_bv, hl_v_bd, hl_d_bd, hl_3_bd, hl_4_bd, hl_5_bd, hl_bd, hl_v_b3, hl_d_b3, hl_3_b3, hl_4_b3, hl_5_b3, hl_b3, hl_v_b4, hl_d_b4, hl_3_b4, hl_4_b4, hl_5_b4, hl_b4, hl_v_b5, hl_d_b5, hl_3_b5, hl_4_b5, hl_5_b5, hl_b5, hs_bv_i, hm_bv_i, hR, tX12_kindAt R hR, tX12_size R hR, tlX12_longJumps_26 R hR]
  all_goals rfl
set_option maxHeartbeats 4000000 in
theorem tX12_longJumps (R : Nat → Nat → Nat) (hR : R 285 = hm_R) (v1 : Int32) (v2 : Int32) (g : hm) : fX12_longJumps 285 v1 v2 (gm g R) = hl_d R (nX12_longJumps v1 v2 g) := by
  unfold fX12_longJumps nX12_longJumps
  simp only [gm_I, gm_R, gm_w, gm_kd, gm_ln, not_false_eq_true, if_true, ite_true, gk_285, gk_286, gk_287, gk_288, gk_289, gk_290, gk_291, gk_292, gk_293, gk_294, gk_295, gk_296, gk_297, gk_298, gk_299, gk_300, gk_301, gk_302, gk_303, gk_304, gk_305, gk_306, gk_307, gk_308, gk_309, gk_310, gk_311, gk_312, gk_313, gk_314, gk_315, gk_316, gk_317, gk_318, gk_319, gn_286, gn_287, gn_288, gn_289, gn_290, gn_291, gn_292, gn_293, gn_294, gn_295, gn_296, gn_297, gn_298, gn_299, gn_300, gn_301, gn_302, gn_303, gn_304, gn_305, gn_306, gn_307, gn_308, gn_309, gn_310, gn_311, gn_312, gn_313, gn_314, gn_315, gn_316, gn_317, gn_318, gn_319, gr_1, gr_5, gr_6, gr_7, gr_8, gr_9, gr_10, gr_11, gr_12, gr_13, gr_14, gr_15, gr_16, gr_17, gr_18, gr_19, gr_20, gr_21, gr_23, gr_24, gr_25, gr_26, gr_27, gr_28, gr_29, gr_30, gr_32, gr_34, gr_35, gr_41, gr_42, gr_43, gr_44, gr_45, gz_1, gz_5, gz_6, gz_7, gz_8, gz_9, gz_10, gz_11, gz_12, gz_13, gz_14, gz_15, gz_16, gz_17, gz_18, gz_19, gz_20, gz_21, gz_23, gz_24, gz_25, gz_26, gz_27, gz_28, gz_29, gz_30, gz_32, gz_34, gz_35, gz_41, gz_42, gz_43, gz_44, gz_45, hl_v_none, hl_v_ite, hl_d_none, hl_d_ite, hl_3_none, hl_3_ite, hl_4_none, hl_4_ite, hl_5_none, hl_5_ite, hl_v_some, hl_d_some, hl_3_some, hl_4_some, hl_5_some, hl_v_bv, hl_d_bv, hl_3_bv, hl_4_bv, hl_5_bv, hl_bv, hl_v_bd, hl_d_bd, hl_3_bd, hl_4_bd, hl_5_bd, hl_bd, hl_v_b3, hl_d_b3, hl_3_b3, hl_4_b3, hl_5_b3, hl_b3, hl_v_b4, hl_d_b4, hl_3_b4, hl_4_b4, hl_5_b4, hl_b4, hl_v_b5, hl_d_b5, hl_3_b5, hl_4_b5, hl_5_b5, hl_b5, hs_bv_i, hm_bv_i, hR, tX12_kindAt R hR, tX12_size R hR, tlX12_longJumps_26 R hR, tjX12_longJumps_24 R hR]
  all_goals rfl
def nlX12_deepest_2 : Nat → Int32 → Int32 → hm → Option (hm)
  | 0, _, _, _ => none
  | n + 1, v1, v2, g =>
    if (8 : Int32) ≤ v2 then (
      some g
    ) else (
      if hs_in v2 8 = true then
      if hs_in v2 8 = true then
      if hs_in v2 8 = true then
      if hs_in v2 8 = true then
      hm_bv (some (hm_w (hm_w g 297 v2.toNatClampNeg (g 287 v2.toNatClampNeg)) 298 v2.toNatClampNeg ((hm_w g 297 v2.toNatClampNeg (g 287 v2.toNatClampNeg)) 288 v2.toNatClampNeg))) fun g1 =>
      if hs_in v2 8 = true then
      if hs_in v2 8 = true then
      if hs_in v2 8 = true then
      if hs_in v2 8 = true then
      hm_bv (some (hm_w (hm_w g1 299 v2.toNatClampNeg (g1 289 v2.toNatClampNeg)) 301 v2.toNatClampNeg ((hm_w g1 299 v2.toNatClampNeg (g1 289 v2.toNatClampNeg)) 290 v2.toNatClampNeg))) fun g2 =>
      nlX12_deepest_2 n v1 (v2 + (1 : Int32)) g2
      else none else none else none else none else none else none else none else none
    )
theorem nlX12_deepest_2_s (n : Nat) (v1 : Int32) (v2 : Int32) (g : hm) : nlX12_deepest_2 (n + 1) v1 v2 g =
    if (8 : Int32) ≤ v2 then (
      some g
    ) else (
      if hs_in v2 8 = true then
      if hs_in v2 8 = true then
      if hs_in v2 8 = true then
      if hs_in v2 8 = true then
      hm_bv (some (hm_w (hm_w g 297 v2.toNatClampNeg (g 287 v2.toNatClampNeg)) 298 v2.toNatClampNeg ((hm_w g 297 v2.toNatClampNeg (g 287 v2.toNatClampNeg)) 288 v2.toNatClampNeg))) fun g1 =>
      if hs_in v2 8 = true then
      if hs_in v2 8 = true then
      if hs_in v2 8 = true then
      if hs_in v2 8 = true then
      hm_bv (some (hm_w (hm_w g1 299 v2.toNatClampNeg (g1 289 v2.toNatClampNeg)) 301 v2.toNatClampNeg ((hm_w g1 299 v2.toNatClampNeg (g1 289 v2.toNatClampNeg)) 290 v2.toNatClampNeg))) fun g2 =>
      nlX12_deepest_2 n v1 (v2 + (1 : Int32)) g2
      else none else none else none else none else none else none else none else none
    ) := rfl
def nlX12_deepest_64 : Nat → Int32 → Int32 → hm → Option (hm)
  | 0, _, _, _ => none
  | n + 1, v1, v2, g =>
    if (256 : Int32) ≤ v2 then (
      some g
    ) else (
      if hs_in v2 256 = true then
      if hs_in v2 256 = true then
      nlX12_deepest_64 n v1 (v2 + (1 : Int32)) (hm_w g 302 v2.toNatClampNeg (g 291 v2.toNatClampNeg))
      else none else none
    )
theorem nlX12_deepest_64_s (n : Nat) (v1 : Int32) (v2 : Int32) (g : hm) : nlX12_deepest_64 (n + 1) v1 v2 g =
    if (256 : Int32) ≤ v2 then (
      some g
    ) else (
      if hs_in v2 256 = true then
      if hs_in v2 256 = true then
      nlX12_deepest_64 n v1 (v2 + (1 : Int32)) (hm_w g 302 v2.toNatClampNeg (g 291 v2.toNatClampNeg))
      else none else none
    ) := rfl
def nlX12_deepest_91 : Nat → Int32 → Int32 → hm → Option (hm)
  | 0, _, _, _ => none
  | n + 1, v1, v2, g =>
    if (16008 : Int32) ≤ v2 then (
      some g
    ) else (
      if hs_in v2 16008 = true then
      if hs_in v2 16008 = true then
      nlX12_deepest_91 n v1 (v2 + (1 : Int32)) (hm_w g 303 v2.toNatClampNeg (g 292 v2.toNatClampNeg))
      else none else none
    )
theorem nlX12_deepest_91_s (n : Nat) (v1 : Int32) (v2 : Int32) (g : hm) : nlX12_deepest_91 (n + 1) v1 v2 g =
    if (16008 : Int32) ≤ v2 then (
      some g
    ) else (
      if hs_in v2 16008 = true then
      if hs_in v2 16008 = true then
      nlX12_deepest_91 n v1 (v2 + (1 : Int32)) (hm_w g 303 v2.toNatClampNeg (g 292 v2.toNatClampNeg))
      else none else none
    ) := rfl
def njX12_deepest_168 (rec : Int32 → Int32 → hm → Option (Int32 × hm)) (v1 : Int32) (v3 : Int32) (s0 : Int32) (g : hm) : Option (Int32 × hm) :=
  rec s0 (v3 + (1 : Int32)) g
def nlX12_deepest_126 : Nat → Int32 → Int32 → Int32 → hm → Option (Int32 × hm)
  | 0, _, _, _, _ => none
  | n + 1, v1, v2, v3, g =>
    if hs_in v1 8 = true then
    if (g 289 v1.toNatClampNeg) ≤ v3 then (
      some (v2, g)
    ) else (
      if hs_in (((2001 : Int32) * v1) + v3) 16008 = true then
      if (g 295 (((2001 : Int32) * v1) + v3).toNatClampNeg) ≤ v2 then (
        njX12_deepest_168 (fun y0 y1 g => nlX12_deepest_126 n v1 y0 y1 g) v1 v3 v2 g
      ) else (
        njX12_deepest_168 (fun y0 y1 g => nlX12_deepest_126 n v1 y0 y1 g) v1 v3 (g 295 (((2001 : Int32) * v1) + v3).toNatClampNeg) g
      )
      else none
    )
    else none
theorem nlX12_deepest_126_s (n : Nat) (v1 : Int32) (v2 : Int32) (v3 : Int32) (g : hm) : nlX12_deepest_126 (n + 1) v1 v2 v3 g =
    if hs_in v1 8 = true then
    if (g 289 v1.toNatClampNeg) ≤ v3 then (
      some (v2, g)
    ) else (
      if hs_in (((2001 : Int32) * v1) + v3) 16008 = true then
      if (g 295 (((2001 : Int32) * v1) + v3).toNatClampNeg) ≤ v2 then (
        njX12_deepest_168 (fun y0 y1 g => nlX12_deepest_126 n v1 y0 y1 g) v1 v3 v2 g
      ) else (
        njX12_deepest_168 (fun y0 y1 g => nlX12_deepest_126 n v1 y0 y1 g) v1 v3 (g 295 (((2001 : Int32) * v1) + v3).toNatClampNeg) g
      )
      else none
    )
    else none := rfl
def nX12_deepest (v1 : Int32) (g : hm) : Option (Int32 × hm) :=
  hm_bv (nlX12_deepest_2 hs_N v1 (0 : Int32) g) fun g4 =>
  hm_bv (nlX12_deepest_64 hs_N v1 (0 : Int32) g4) fun g7 =>
  hm_bv (nlX12_deepest_91 hs_N v1 (0 : Int32) g7) fun g10 =>
  hm_bd (nX12_stacks v1 g10) fun r13 g12 =>
  hm_bd (nlX12_deepest_126 hs_N v1 (0 : Int32) (0 : Int32) g12) fun x14 g16 =>
  some (x14, g16)
set_option maxHeartbeats 4000000 in
theorem tlX12_deepest_2 (R : Nat → Nat → Nat) (hR : R 285 = hm_R) : ∀ (n : Nat) (v1 : Int32) (v2 : Int32) (g : hm), lX12_deepest_2 n 285 v1 v2 (gm g R) = hl_v R (nlX12_deepest_2 n v1 v2 g) := by
  intro n
  induction n with
  | zero => intros; rfl
  | succ n ih =>
    intro v1 v2 g
    rw [lX12_deepest_2_s, nlX12_deepest_2_s]
    simp only [gm_I, gm_R, gm_w, gm_kd, gm_ln, not_false_eq_true, if_true, ite_true, gk_285, gk_286, gk_287, gk_288, gk_289, gk_290, gk_291, gk_292, gk_293, gk_294, gk_295, gk_296, gk_297, gk_298, gk_299, gk_300, gk_301, gk_302, gk_303, gk_304, gk_305, gk_306, gk_307, gk_308, gk_309, gk_310, gk_311, gk_312, gk_313, gk_314, gk_315, gk_316, gk_317, gk_318, gk_319, gn_286, gn_287, gn_288, gn_289, gn_290, gn_291, gn_292, gn_293, gn_294, gn_295, gn_296, gn_297, gn_298, gn_299, gn_300, gn_301, gn_302, gn_303, gn_304, gn_305, gn_306, gn_307, gn_308, gn_309, gn_310, gn_311, gn_312, gn_313, gn_314, gn_315, gn_316, gn_317, gn_318, gn_319, gr_1, gr_5, gr_6, gr_7, gr_8, gr_9, gr_10, gr_11, gr_12, gr_13, gr_14, gr_15, gr_16, gr_17, gr_18, gr_19, gr_20, gr_21, gr_23, gr_24, gr_25, gr_26, gr_27, gr_28, gr_29, gr_30, gr_32, gr_34, gr_35, gr_41, gr_42, gr_43, gr_44, gr_45, gz_1, gz_5, gz_6, gz_7, gz_8, gz_9, gz_10, gz_11, gz_12, gz_13, gz_14, gz_15, gz_16, gz_17, gz_18, gz_19, gz_20, gz_21, gz_23, gz_24, gz_25, gz_26, gz_27, gz_28, gz_29, gz_30, gz_32, gz_34, gz_35, gz_41, gz_42, gz_43, gz_44, gz_45, hl_v_none, hl_v_ite, hl_d_none, hl_d_ite, hl_3_none, hl_3_ite, hl_4_none, hl_4_ite, hl_5_none, hl_5_ite, hl_v_some, hl_d_some, hl_3_some, hl_4_some, hl_5_some, hl_v_bv, hl_d_bv, hl_3_bv, hl_4_bv, hl_5_bv, hl_bv, hl_v_bd, hl_d_bd, hl_3_bd, hl_4_bd, hl_5_bd, hl_bd, hl_v_b3, hl_d_b3, hl_3_b3, hl_4_b3, hl_5_b3, hl_b3, hl_v_b4, hl_d_b4, hl_3_b4, hl_4_b4, hl_5_b4, hl_b4, hl_v_b5, hl_d_b5, hl_3_b5, hl_4_b5, hl_5_b5, hl_b5, hs_bv_i, hm_bv_i, hR, tX12_stacks R hR, ih]
    all_goals rfl
set_option maxHeartbeats 4000000 in
theorem tlX12_deepest_64 (R : Nat → Nat → Nat) (hR : R 285 = hm_R) : ∀ (n : Nat) (v1 : Int32) (v2 : Int32) (g : hm), lX12_deepest_64 n 285 v1 v2 (gm g R) = hl_v R (nlX12_deepest_64 n v1 v2 g) := by
  intro n
  induction n with
  | zero => intros; rfl
  | succ n ih =>
    intro v1 v2 g
    rw [lX12_deepest_64_s, nlX12_deepest_64_s]
    simp only [gm_I, gm_R, gm_w, gm_kd, gm_ln, not_false_eq_true, if_true, ite_true, gk_285, gk_286, gk_287, gk_288, gk_289, gk_290, gk_291, gk_292, gk_293, gk_294, gk_295, gk_296, gk_297, gk_298, gk_299, gk_300, gk_301, gk_302, gk_303, gk_304, gk_305, gk_306, gk_307, gk_308, gk_309, gk_310, gk_311, gk_312, gk_313, gk_314, gk_315, gk_316, gk_317, gk_318, gk_319, gn_286, gn_287, gn_288, gn_289, gn_290, gn_291, gn_292, gn_293, gn_294, gn_295, gn_296, gn_297, gn_298, gn_299, gn_300, gn_301, gn_302, gn_303, gn_304, gn_305, gn_306, gn_307, gn_308, gn_309, gn_310, gn_311, gn_312, gn_313, gn_314, gn_315, gn_316, gn_317, gn_318, gn_319, gr_1, gr_5, gr_6, gr_7, gr_8, gr_9, gr_10, gr_11, gr_12, gr_13, gr_14, gr_15, gr_16, gr_17, gr_18, gr_19, gr_20, gr_21, gr_23, gr_24, gr_25, gr_26, gr_27, gr_28, gr_29, gr_30, gr_32, gr_34, gr_35, gr_41, gr_42, gr_43, gr_44, gr_45, gz_1, gz_5, gz_6, gz_7, gz_8, gz_9, gz_10, gz_11, gz_12, gz_13, gz_14, gz_15, gz_16, gz_17, gz_18, gz_19, gz_20, gz_21, gz_23, gz_24, gz_25, gz_26, gz_27, gz_28, gz_29, gz_30, gz_32, gz_34, gz_35, gz_41, gz_42, gz_43, gz_44, gz_45, hl_v_none, hl_v_ite, hl_d_none, hl_d_ite, hl_3_none, hl_3_ite, hl_4_none, hl_4_ite, hl_5_none, hl_5_ite, hl_v_some, hl_d_some, hl_3_some, hl_4_some, hl_5_some, hl_v_bv, hl_d_bv, hl_3_bv, hl_4_bv, hl_5_bv, hl_bv, hl_v_bd, hl_d_bd, hl_3_bd, hl_4_bd, hl_5_bd, hl_bd, hl_v_b3, hl_d_b3, hl_3_b3, hl_4_b3, hl_5_b3, hl_b3, hl_v_b4, hl_d_b4, hl_3_b4, hl_4_b4, hl_5_b4, hl_b4, hl_v_b5, hl_d_b5, hl_3_b5, hl_4_b5, hl_5_b5, hl_b5, hs_bv_i, hm_bv_i, hR, tX12_stacks R hR, tlX12_deepest_2 R hR, ih]
    all_goals rfl
set_option maxHeartbeats 4000000 in
theorem tlX12_deepest_91 (R : Nat → Nat → Nat) (hR : R 285 = hm_R) : ∀ (n : Nat) (v1 : Int32) (v2 : Int32) (g : hm), lX12_deepest_91 n 285 v1 v2 (gm g R) = hl_v R (nlX12_deepest_91 n v1 v2 g) := by
  intro n
  induction n with
  | zero => intros; rfl
  | succ n ih =>
    intro v1 v2 g
    rw [lX12_deepest_91_s, nlX12_deepest_91_s]
    simp only [gm_I, gm_R, gm_w, gm_kd, gm_ln, not_false_eq_true, if_true, ite_true, gk_285, gk_286, gk_287, gk_288, gk_289, gk_290, gk_291, gk_292, gk_293, gk_294, gk_295, gk_296, gk_297, gk_298, gk_299, gk_300, gk_301, gk_302, gk_303, gk_304, gk_305, gk_306, gk_307, gk_308, gk_309, gk_310, gk_311, gk_312, gk_313, gk_314, gk_315, gk_316, gk_317, gk_318, gk_319, gn_286, gn_287, gn_288, gn_289, gn_290, gn_291, gn_292, gn_293, gn_294, gn_295, gn_296, gn_297, gn_298, gn_299, gn_300, gn_301, gn_302, gn_303, gn_304, gn_305, gn_306, gn_307, gn_308, gn_309, gn_310, gn_311, gn_312, gn_313, gn_314, gn_315, gn_316, gn_317, gn_318, gn_319, gr_1, gr_5, gr_6, gr_7, gr_8, gr_9, gr_10, gr_11, gr_12, gr_13, gr_14, gr_15, gr_16, gr_17, gr_18, gr_19, gr_20, gr_21, gr_23, gr_24, gr_25, gr_26, gr_27, gr_28, gr_29, gr_30, gr_32, gr_34, gr_35, gr_41, gr_42, gr_43, gr_44, gr_45, gz_1, gz_5, gz_6, gz_7, gz_8, gz_9, gz_10, gz_11, gz_12, gz_13, gz_14, gz_15, gz_16, gz_17, gz_18, gz_19, gz_20, gz_21, gz_23, gz_24, gz_25, gz_26, gz_27, gz_28, gz_29, gz_30, gz_32, gz_34, gz_35, gz_41, gz_42, gz_43, gz_44, gz_45, hl_v_none, hl_v_ite, hl_d_none, hl_d_ite, hl_3_none, hl_3_ite, hl_4_none, hl_4_ite, hl_5_none, hl_5_ite, hl_v_some, hl_d_some, hl_3_some, hl_4_some, hl_5_some, hl_v_bv, hl_d_bv, hl_3_bv, hl_4_bv, hl_5_bv, hl_bv, hl_v_bd, hl_d_bd, hl_3_bd, hl_4_bd, hl_5_bd, hl_bd, hl_v_b3, hl_d_b3, hl_3_b3, hl_4_b3, hl_5_b3, hl_b3, hl_v_b4, hl_d_b4, hl_3_b4, hl_4_b4, hl_5_b4, hl_b4, hl_v_b5, hl_d_b5, hl_3_b5, hl_4_b5, hl_5_b5, hl_b5, hs_bv_i, hm_bv_i, hR, tX12_stacks R hR, tlX12_deepest_2 R hR, tlX12_deepest_64 R hR, ih]
    all_goals rfl
set_option maxHeartbeats 4000000 in
theorem tjX12_deepest_168 (R : Nat → Nat → Nat) (hR : R 285 = hm_R) (rec : Int32 → Int32 → hs_S → Option (Int32 × hs_S)) (rec2 : Int32 → Int32 → hm → Option (Int32 × hm)) (hrec : ∀ (y0 : Int32) (y1 : Int32) (g : hm), rec y0 y1 (gm g R) = hl_d R (rec2 y0 y1 g)) (v1 : Int32) (v3 : Int32) (s0 : Int32) (g : hm) : jX12_deepest_168 rec 285 v1 v3 s0 (gm g R) = hl_d R (njX12_deepest_168 rec2 v1 v3 s0 g) := by
  unfold jX12_deepest_168 njX12_deepest_168
  simp only [gm_I, gm_R, gm_w, gm_kd, gm_ln, not_false_eq_true, if_true, ite_true, gk_285, gk_286, gk_287, gk_288, gk_289, gk_290, gk_291, gk_292, gk_293, gk_294, gk_295, gk_296, gk_297, gk_298, gk_299, gk_300, gk_301, gk_302, gk_303, gk_304, gk_305, gk_306, gk_307, gk_308, gk_309, gk_310, gk_311, gk_312, gk_313, gk_314, gk_315, gk_316, gk_317, gk_318, gk_319, gn_286, gn_287, gn_288, gn_289, gn_290, gn_291, gn_292, gn_293, gn_294, gn_295, gn_296, gn_297, gn_298, gn_299, gn_300, gn_301, gn_302, gn_303, gn_304, gn_305, gn_306, gn_307, gn_308, gn_309, gn_310, gn_311, gn_312, gn_313, gn_314, gn_315, gn_316, gn_317, gn_318, gn_319, gr_1, gr_5, gr_6, gr_7, gr_8, gr_9, gr_10, gr_11, gr_12, gr_13, gr_14, gr_15, gr_16, gr_17, gr_18, gr_19, gr_20, gr_21, gr_23, gr_24, gr_25, gr_26, gr_27, gr_28, gr_29, gr_30, gr_32, gr_34, gr_35, gr_41, gr_42, gr_43, gr_44, gr_45, gz_1, gz_5, gz_6, gz_7, gz_8, gz_9, gz_10, gz_11, gz_12, gz_13, gz_14, gz_15, gz_16, gz_17, gz_18, gz_19, gz_20, gz_21, gz_23, gz_24, gz_25, gz_26, gz_27, gz_28, gz_29, gz_30, gz_32, gz_34, gz_35, gz_41, gz_42, gz_43, gz_44, gz_45, hl_v_none, hl_v_ite, hl_d_none, hl_d_ite, hl_3_none, hl_3_ite, hl_4_none, hl_4_ite, hl_5_none, hl_5_ite, hl_v_some, hl_d_some, hl_3_some, hl_4_some, hl_5_some, hl_v_bv, hl_d_bv, hl_3_bv, hl_4_bv, hl_5_bv, hl_bv, hl_v_bd, hl_d_bd, hl_3_bd, hl_4_bd, hl_5_bd, hl_bd, hl_v_b3, hl_d_b3, hl_3_b3, hl_4_b3, hl_5_b3, hl_b3, hl_v_b4, hl_d_b4, hl_3_b4, hl_4_b4, hl_5_b4, hl_b4, hl_v_b5, hl_d_b5, hl_3_b5, hl_4_b5, hl_5_b5, hl_b5, hs_bv_i, hm_bv_i, hR, tX12_stacks R hR, tlX12_deepest_2 R hR, tlX12_deepest_64 R hR, tlX12_deepest_91 R hR, hrec]
  all_goals rfl
set_option maxHeartbeats 4000000 in
theorem tlX12_deepest_126 (R : Nat → Nat → Nat) (hR : R 285 = hm_R) : ∀ (n : Nat) (v1 : Int32) (v2 : Int32) (v3 : Int32) (g : hm), lX12_deepest_126 n 285 v1 v2 v3 (gm g R) = hl_d R (nlX12_deepest_126 n v1 v2 v3 g) := by
  intro n
  induction n with
  | zero => intros; rfl
  | succ n ih =>
    intro v1 v2 v3 g
    rw [lX12_deepest_126_s, nlX12_deepest_126_s]
    simp only [gm_I, gm_R, gm_w, gm_kd, gm_ln, not_false_eq_true, if_true, ite_true, gk_285, gk_286, gk_287, gk_288, gk_289, gk_290, gk_291, gk_292, gk_293, gk_294, gk_295, gk_296, gk_297, gk_298, gk_299, gk_300, gk_301, gk_302, gk_303, gk_304, gk_305, gk_306, gk_307, gk_308, gk_309, gk_310, gk_311, gk_312, gk_313, gk_314, gk_315, gk_316, gk_317, gk_318, gk_319, gn_286, gn_287, gn_288, gn_289, gn_290, gn_291, gn_292, gn_293, gn_294, gn_295, gn_296, gn_297, gn_298, gn_299, gn_300, gn_301, gn_302, gn_303, gn_304, gn_305, gn_306, gn_307, gn_308, gn_309, gn_310, gn_311, gn_312, gn_313, gn_314, gn_315, gn_316, gn_317, gn_318, gn_319, gr_1, gr_5, gr_6, gr_7, gr_8, gr_9, gr_10, gr_11, gr_12, gr_13, gr_14, gr_15, gr_16, gr_17, gr_18, gr_19, gr_20, gr_21, gr_23, gr_24, gr_25, gr_26, gr_27, gr_28, gr_29, gr_30, gr_32, gr_34, gr_35, gr_41, gr_42, gr_43, gr_44, gr_45, gz_1, gz_5, gz_6, gz_7, gz_8, gz_9, gz_10, gz_11, gz_12, gz_13, gz_14, gz_15, gz_16, gz_17, gz_18, gz_19, gz_20, gz_21, gz_23, gz_24, gz_25, gz_26, gz_27, gz_28, gz_29, gz_30, gz_32, gz_34, gz_35, gz_41, gz_42, gz_43, gz_44, gz_45, hl_v_none, hl_v_ite, hl_d_none, hl_d_ite, hl_3_none, hl_3_ite, hl_4_none, hl_4_ite, hl_5_none, hl_5_ite, hl_v_some, hl_d_some, hl_3_some, hl_4_some, hl_5_some, hl_v_bv, hl_d_bv, hl_3_bv, hl_4_bv, hl_5_bv, hl_bv, hl_v_bd, hl_d_bd, hl_3_bd, hl_4_bd, hl_5_bd, hl_bd, hl_v_b3, hl_d_b3, hl_3_b3, hl_4_b3, hl_5_b3, hl_b3, hl_v_b4, hl_d_b4, hl_3_b4, hl_4_b4, hl_5_b4, hl_b4, hl_v_b5, hl_d_b5, hl_3_b5, hl_4_b5, hl_5_b5, hl_b5, hs_bv_i, hm_bv_i, hR, tX12_stacks R hR, tlX12_deepest_2 R hR, tlX12_deepest_64 R hR, tlX12_deepest_91 R hR, ih, tjX12_deepest_168 R hR _ _ (fun y0 y1 g => ih v1 y0 y1 g)]
    all_goals rfl
set_option maxHeartbeats 4000000 in
theorem tX12_deepest (R : Nat → Nat → Nat) (hR : R 285 = hm_R) (v1 : Int32) (g : hm) : fX12_deepest 285 v1 (gm g R) = hl_d R (nX12_deepest v1 g) := by
  unfold fX12_deepest nX12_deepest
  simp only [gm_I, gm_R, gm_w, gm_kd, gm_ln, not_false_eq_true, if_true, ite_true, gk_285, gk_286, gk_287, gk_288, gk_289, gk_290, gk_291, gk_292, gk_293, gk_294, gk_295, gk_296, gk_297, gk_298, gk_299, gk_300, gk_301, gk_302, gk_303, gk_304, gk_305, gk_306, gk_307, gk_308, gk_309, gk_310, gk_311, gk_312, gk_313, gk_314, gk_315, gk_316, gk_317, gk_318, gk_319, gn_286, gn_287, gn_288, gn_289, gn_290, gn_291, gn_292, gn_293, gn_294, gn_295, gn_296, gn_297, gn_298, gn_299, gn_300, gn_301, gn_302, gn_303, gn_304, gn_305, gn_306, gn_307, gn_308, gn_309, gn_310, gn_311, gn_312, gn_313, gn_314, gn_315, gn_316, gn_317, gn_318, gn_319, gr_1, gr_5, gr_6, gr_7, gr_8, gr_9, gr_10, gr_11, gr_12, gr_13, gr_14, gr_15, gr_16, gr_17, gr_18, gr_19, gr_20, gr_21, gr_23, gr_24, gr_25, gr_26, gr_27, gr_28, gr_29, gr_30, gr_32, gr_34, gr_35, gr_41, gr_42, gr_43, gr_44, gr_45, gz_1, gz_5, gz_6, gz_7, gz_8, gz_9, gz_10, gz_11, gz_12, gz_13, gz_14, gz_15, gz_16, gz_17, gz_18, gz_19, gz_20, gz_21, gz_23, gz_24, gz_25, gz_26, gz_27, gz_28, gz_29, gz_30, gz_32, gz_34, gz_35, gz_41, gz_42, gz_43, gz_44, gz_45, hl_v_none, hl_v_ite, hl_d_none, hl_d_ite, hl_3_none, hl_3_ite, hl_4_none, hl_4_ite, hl_5_none, hl_5_ite, hl_v_some, hl_d_some, hl_3_some, hl_4_some, hl_5_some, hl_v_bv, hl_d_bv, hl_3_bv, hl_4_bv, hl_5_bv, hl_bv, hl_v_bd, hl_d_bd, hl_3_bd, hl_4_bd, hl_5_bd, hl_bd, hl_v_b3, hl_d_b3, hl_3_b3, hl_4_b3, hl_5_b3, hl_b3, hl_v_b4, hl_d_b4, hl_3_b4, hl_4_b4, hl_5_b4, hl_b4, hl_v_b5, hl_d_b5, hl_3_b5, hl_4_b5, hl_5_b5, hl_b5, hs_bv_i, hm_bv_i, hR, tX12_stacks R hR, tlX12_deepest_2 R hR, tlX12_deepest_64 R hR, tlX12_deepest_91 R hR, tlX12_deepest_126 R hR]
  all_goals rfl
