def nlX12_feed_34 : Nat → Int64 → Int32 → hm → Option (hm)
  | 0, _, _, _ => none
  | n + 1, v1, v4, g =>
    if v4 < 0 then (
      some g
    ) else (
      if hs_in (g 285 2) 6000 = true then
      hm_bv (some (hm_w g 286 (g 285 2).toNatClampNeg ((((v1.toUInt64 >>> (((8 : Int32) * v4).toInt64.toUInt64 &&& Int64.toUInt64 63)).toInt64).toInt32) &&& (255 : Int32)))) fun g1 =>
      nlX12_feed_34 n v1 (v4 + (-1 : Int32)) (hm_w g1 285 2 ((g1 285 2) + (1 : Int32)))
      else none
    )
theorem nlX12_feed_34_s (n : Nat) (v1 : Int64) (v4 : Int32) (g : hm) : nlX12_feed_34 (n + 1) v1 v4 g =
    if v4 < 0 then (
      some g
    ) else (
      if hs_in (g 285 2) 6000 = true then
      hm_bv (some (hm_w g 286 (g 285 2).toNatClampNeg ((((v1.toUInt64 >>> (((8 : Int32) * v4).toInt64.toUInt64 &&& Int64.toUInt64 63)).toInt64).toInt32) &&& (255 : Int32)))) fun g1 =>
      nlX12_feed_34 n v1 (v4 + (-1 : Int32)) (hm_w g1 285 2 ((g1 285 2) + (1 : Int32)))
      else none
    ) := rfl
def nX12_feed (v1 : Int64) (v3 : Int32) (g : hm) : Option (Int32 × hm) :=
  if v3 < (1 : Int32) then (
    some ((-3 : Int32), g)
  ) else (
    if v3 ≤ (8 : Int32) then (
      if ((g 285 2) + v3) ≤ (6000 : Int32) then (
        hm_bv (nlX12_feed_34 hs_N v1 (v3 - (1 : Int32)) g) fun g3 =>
        some ((g3 285 2), g3)
      ) else (
        some ((-4 : Int32), g)
      )
    ) else (
      some ((-3 : Int32), g)
    )
  )
set_option maxHeartbeats 4000000 in
theorem tlX12_feed_34 (R : Nat → Nat → Nat) (hR : R 285 = hm_R) : ∀ (n : Nat) (v1 : Int64) (v4 : Int32) (g : hm), lX12_feed_34 n 285 v1 v4 (gm g R) = hl_v R (nlX12_feed_34 n v1 v4 g) := by
  intro n
  induction n with
  | zero => intros; rfl
  | succ n ih =>
    intro v1 v4 g
    rw [lX12_feed_34_s, nlX12_feed_34_s]
    simp only [gm_I, gm_R, gm_w, gm_kd, gm_ln, not_false_eq_true, if_true, ite_true, gk_285, gk_286, gk_287, gk_288, gk_289, gk_290, gk_291, gk_292, gk_293, gk_294, gk_295, gk_296, gk_297, gk_298, gk_299, gk_300, gk_301, gk_302, gk_303, gk_304, gk_305, gk_306, gk_307, gk_308, gk_309, gk_310, gk_311, gk_312, gk_313, gk_314, gk_315, gk_316, gk_317, gk_318, gk_319, gn_286, gn_287, gn_288, gn_289, gn_290, gn_291, gn_292, gn_293, gn_294, gn_295, gn_296, gn_297, gn_298, gn_299, gn_300, gn_301, gn_302, gn_303, gn_304, gn_305, gn_306, gn_307, gn_308, gn_309, gn_310, gn_311, gn_312, gn_313, gn_314, gn_315, gn_316, gn_317, gn_318, gn_319, gr_1, gr_5, gr_6, gr_7, gr_8, gr_9, gr_10, gr_11, gr_12, gr_13, gr_14, gr_15, gr_16, gr_17, gr_18, gr_19, gr_20, gr_21, gr_23, gr_24, gr_25, gr_26, gr_27, gr_28, gr_29, gr_30, gr_32, gr_34, gr_35, gr_41, gr_42, gr_43, gr_44, gr_45, gz_1, gz_5, gz_6, gz_7, gz_8, gz_9, gz_10, gz_11, gz_12, gz_13, gz_14, gz_15, gz_16, gz_17, gz_18, gz_19, gz_20, gz_21, gz_23, gz_24, gz_25, gz_26, gz_27, gz_28, gz_29, gz_30, gz_32, gz_34, gz_35, gz_41, gz_42, gz_43, gz_44, gz_45, hl_v_none, hl_v_ite, hl_d_none, hl_d_ite, hl_3_none, hl_3_ite, hl_4_none, hl_4_ite, hl_5_none, hl_5_ite, hl_v_some, hl_d_some, hl_3_some, hl_4_some, hl_5_some, hl_v_bv, hl_d_bv, hl_3_bv, hl_4_bv, hl_5_bv, hl_bv, hl_v_bd, hl_d_bd, hl_3_bd, hl_4_bd, hl_5_bd, hl_bd, hl_v_b3, hl_d_b3, hl_3_b3, hl_4_b3, hl_5_b3, hl_b3, hl_v_b4, hl_d_b4, hl_3_b4, hl_4_b4, hl_5_b4, hl_b4, hl_v_b5, hl_d_b5, hl_3_b5, hl_4_b5, hl_5_b5, hl_b5, hs_bv_i, hm_bv_i, hR, ih]
    all_goals rfl
set_option maxHeartbeats 4000000 in
theorem tX12_feed (R : Nat → Nat → Nat) (hR : R 285 = hm_R) (v1 : Int64) (v3 : Int32) (g : hm) : fX12_feed 285 v1 v3 (gm g R) = hl_d R (nX12_feed v1 v3 g) := by
  unfold fX12_feed nX12_feed
  simp only [gm_I, gm_R, gm_w, gm_kd, gm_ln, not_false_eq_true, if_true, ite_true, gk_285, gk_286, gk_287, gk_288, gk_289, gk_290, gk_291, gk_292, gk_293, gk_294, gk_295, gk_296, gk_297, gk_298, gk_299, gk_300, gk_301, gk_302, gk_303, gk_304, gk_305, gk_306, gk_307, gk_308, gk_309, gk_310, gk_311, gk_312, gk_313, gk_314, gk_315, gk_316, gk_317, gk_318, gk_319, gn_286, gn_287, gn_288, gn_289, gn_290, gn_291, gn_292, gn_293, gn_294, gn_295, gn_296, gn_297, gn_298, gn_299, gn_300, gn_301, gn_302, gn_303, gn_304, gn_305, gn_306, gn_307, gn_308, gn_309, gn_310, gn_311, gn_312, gn_313, gn_314, gn_315, gn_316, gn_317, gn_318, gn_319, gr_1, gr_5, gr_6, gr_7, gr_8, gr_9, gr_10, gr_11, gr_12, gr_13, gr_14, gr_15, gr_16, gr_17, gr_18, gr_19, gr_20, gr_21, gr_23, gr_24, gr_25, gr_26, gr_27, gr_28, gr_29, gr_30, gr_32, gr_34, gr_35, gr_41, gr_42, gr_43, gr_44, gr_45, gz_1, gz_5, gz_6, gz_7, gz_8, gz_9, gz_10, gz_11, gz_12, gz_13, gz_14, gz_15, gz_16, gz_17, gz_18, gz_19, gz_20, gz_21, gz_23, gz_24, gz_25, gz_26, gz_27, gz_28, gz_29, gz_30, gz_32, gz_34, gz_35, gz_41, gz_42, gz_43, gz_44, gz_45, hl_v_none, hl_v_ite, hl_d_none, hl_d_ite, hl_3_none, hl_3_ite, hl_4_none, hl_4_ite, hl_5_none, hl_5_ite, hl_v_some, hl_d_some, hl_3_some, hl_4_some, hl_5_some, hl_v_bv, hl_d_bv, hl_3_bv, hl_4_bv, hl_5_bv, hl_bv, hl_v_bd, hl_d_bd, hl_3_bd, hl_4_bd, hl_5_bd, hl_bd, hl_v_b3, hl_d_b3, hl_3_b3, hl_4_b3, hl_5_b3, hl_b3, hl_v_b4, hl_d_b4, hl_3_b4, hl_4_b4, hl_5_b4, hl_b4, hl_v_b5, hl_d_b5, hl_3_b5, hl_4_b5, hl_5_b5, hl_b5, hs_bv_i, hm_bv_i, hR, tlX12_feed_34 R hR]
  all_goals rfl
def njX12_one_24 (s0 : Int32) (g : hm) : Option (Int32 × hm) :=
  some (s0, (hm_w g 285 33 ((g 285 33) + (1 : Int32))))
def nX12_one  (g : hm) : Option (Int32 × hm) :=
  if (g 285 2) ≤ (g 285 33) then (
    njX12_one_24 (-1 : Int32) g
  ) else (
    if hs_in (g 285 33) 6000 = true then
    njX12_one_24 (g 286 (g 285 33).toNatClampNeg) g
    else none
  )
set_option maxHeartbeats 4000000 in
theorem tjX12_one_24 (R : Nat → Nat → Nat) (hR : R 285 = hm_R) (s0 : Int32) (g : hm) : jX12_one_24 285 s0 (gm g R) = hl_d R (njX12_one_24 s0 g) := by
  unfold jX12_one_24 njX12_one_24
  simp only [gm_I, gm_R, gm_w, gm_kd, gm_ln, not_false_eq_true, if_true, ite_true, gk_285, gk_286, gk_287, gk_288, gk_289, gk_290, gk_291, gk_292, gk_293, gk_294, gk_295, gk_296, gk_297, gk_298, gk_299, gk_300, gk_301, gk_302, gk_303, gk_304, gk_305, gk_306, gk_307, gk_308, gk_309, gk_310, gk_311, gk_312, gk_313, gk_314, gk_315, gk_316, gk_317, gk_318, gk_319, gn_286, gn_287, gn_288, gn_289, gn_290, gn_291, gn_292, gn_293, gn_294, gn_295, gn_296, gn_297, gn_298, gn_299, gn_300, gn_301, gn_302, gn_303, gn_304, gn_305, gn_306, gn_307, gn_308, gn_309, gn_310, gn_311, gn_312, gn_313, gn_314, gn_315, gn_316, gn_317, gn_318, gn_319, gr_1, gr_5, gr_6, gr_7, gr_8, gr_9, gr_10, gr_11, gr_12, gr_13, gr_14, gr_15, gr_16, gr_17, gr_18, gr_19, gr_20, gr_21, gr_23, gr_24, gr_25, gr_26, gr_27, gr_28, gr_29, gr_30, gr_32, gr_34, gr_35, gr_41, gr_42, gr_43, gr_44, gr_45, gz_1, gz_5, gz_6, gz_7, gz_8, gz_9, gz_10, gz_11, gz_12, gz_13, gz_14, gz_15, gz_16, gz_17, gz_18, gz_19, gz_20, gz_21, gz_23, gz_24, gz_25, gz_26, gz_27, gz_28, gz_29, gz_30, gz_32, gz_34, gz_35, gz_41, gz_42, gz_43, gz_44, gz_45, hl_v_none, hl_v_ite, hl_d_none, hl_d_ite, hl_3_none, hl_3_ite, hl_4_none, hl_4_ite, hl_5_none, hl_5_ite, hl_v_some, hl_d_some, hl_3_some, hl_4_some, hl_5_some, hl_v_bv, hl_d_bv, hl_3_bv, hl_4_bv, hl_5_bv, hl_bv, hl_v_bd, hl_d_bd, hl_3_bd, hl_4_bd, hl_5_bd, hl_bd, hl_v_b3, hl_d_b3, hl_3_b3, hl_4_b3, hl_5_b3, hl_b3, hl_v_b4, hl_d_b4, hl_3_b4, hl_4_b4, hl_5_b4, hl_b4, hl_v_b5, hl_d_b5, hl_3_b5, hl_4_b5, hl_5_b5, hl_b5, hs_bv_i, hm_bv_i, hR]
  all_goals rfl
set_option maxHeartbeats 4000000 in
theorem tX12_one (R : Nat → Nat → Nat) (hR : R 285 = hm_R)  (g : hm) : fX12_one 285  (gm g R) = hl_d R (nX12_one  g) := by
  unfold fX12_one nX12_one
  simp only [gm_I, gm_R, gm_w, gm_kd, gm_ln, not_false_eq_true, if_true, ite_true, gk_285, gk_286, gk_287, gk_288, gk_289, gk_290, gk_291, gk_292, gk_293, gk_294, gk_295, gk_296, gk_297, gk_298, gk_299, gk_300, gk_301, gk_302, gk_303, gk_304, gk_305, gk_306, gk_307, gk_308, gk_309, gk_310, gk_311, gk_312, gk_313, gk_314, gk_315, gk_316, gk_317, gk_318, gk_319, gn_286, gn_287, gn_288, gn_289, gn_290, gn_291, gn_292, gn_293, gn_294, gn_295, gn_296, gn_297, gn_298, gn_299, gn_300, gn_301, gn_302, gn_303, gn_304, gn_305, gn_306, gn_307, gn_308, gn_309, gn_310, gn_311, gn_312, gn_313, gn_314, gn_315, gn_316, gn_317, gn_318, gn_319, gr_1, gr_5, gr_6, gr_7, gr_8, gr_9, gr_10, gr_11, gr_12, gr_13, gr_14, gr_15, gr_16, gr_17, gr_18, gr_19, gr_20, gr_21, gr_23, gr_24, gr_25, gr_26, gr_27, gr_28, gr_29, gr_30, gr_32, gr_34, gr_35, gr_41, gr_42, gr_43, gr_44, gr_45, gz_1, gz_5, gz_6, gz_7, gz_8, gz_9, gz_10, gz_11, gz_12, gz_13, gz_14, gz_15, gz_16, gz_17, gz_18, gz_19, gz_20, gz_21, gz_23, gz_24, gz_25, gz_26, gz_27, gz_28, gz_29, gz_30, gz_32, gz_34, gz_35, gz_41, gz_42, gz_43, gz_44, gz_45, hl_v_none, hl_v_ite, hl_d_none, hl_d_ite, hl_3_none, hl_3_ite, hl_4_none, hl_4_ite, hl_5_none, hl_5_ite, hl_v_some, hl_d_some, hl_3_some, hl_4_some, hl_5_some, hl_v_bv, hl_d_bv, hl_3_bv, hl_4_bv, hl_5_bv, hl_bv, hl_v_bd, hl_d_bd, hl_3_bd, hl_4_bd, hl_5_bd, hl_bd, hl_v_b3, hl_d_b3, hl_3_b3, hl_4_b3, hl_5_b3, hl_b3, hl_v_b4, hl_d_b4, hl_3_b4, hl_4_b4, hl_5_b4, hl_b4, hl_v_b5, hl_d_b5, hl_3_b5, hl_4_b5, hl_5_b5, hl_b5, hs_bv_i, hm_bv_i, hR, tjX12_one_24 R hR]
  all_goals rfl
def nX12_wrong (v1 : Int32) (g : hm) : Option (Int32 × hm) :=
  if (g 285 2) ≤ v1 then (
    some (((-1 : Int32) - (g 285 2)), g)
  ) else (
    some (((-1 : Int32) - v1), g)
  )
set_option maxHeartbeats 4000000 in
theorem tX12_wrong (R : Nat → Nat → Nat) (hR : R 285 = hm_R) (v1 : Int32) (g : hm) : fX12_wrong 285 v1 (gm g R) = hl_d R (nX12_wrong v1 g) := by
  unfold fX12_wrong nX12_wrong
  simp only [gm_I, gm_R, gm_w, gm_kd, gm_ln, not_false_eq_true, if_true, ite_true, gk_285, gk_286, gk_287, gk_288, gk_289, gk_290, gk_291, gk_292, gk_293, gk_294, gk_295, gk_296, gk_297, gk_298, gk_299, gk_300, gk_301, gk_302, gk_303, gk_304, gk_305, gk_306, gk_307, gk_308, gk_309, gk_310, gk_311, gk_312, gk_313, gk_314, gk_315, gk_316, gk_317, gk_318, gk_319, gn_286, gn_287, gn_288, gn_289, gn_290, gn_291, gn_292, gn_293, gn_294, gn_295, gn_296, gn_297, gn_298, gn_299, gn_300, gn_301, gn_302, gn_303, gn_304, gn_305, gn_306, gn_307, gn_308, gn_309, gn_310, gn_311, gn_312, gn_313, gn_314, gn_315, gn_316, gn_317, gn_318, gn_319, gr_1, gr_5, gr_6, gr_7, gr_8, gr_9, gr_10, gr_11, gr_12, gr_13, gr_14, gr_15, gr_16, gr_17, gr_18, gr_19, gr_20, gr_21, gr_23, gr_24, gr_25, gr_26, gr_27, gr_28, gr_29, gr_30, gr_32, gr_34, gr_35, gr_41, gr_42, gr_43, gr_44, gr_45, gz_1, gz_5, gz_6, gz_7, gz_8, gz_9, gz_10, gz_11, gz_12, gz_13, gz_14, gz_15, gz_16, gz_17, gz_18, gz_19, gz_20, gz_21, gz_23, gz_24, gz_25, gz_26, gz_27, gz_28, gz_29, gz_30, gz_32, gz_34, gz_35, gz_41, gz_42, gz_43, gz_44, gz_45, hl_v_none, hl_v_ite, hl_d_none, hl_d_ite, hl_3_none, hl_3_ite, hl_4_none, hl_4_ite, hl_5_none, hl_5_ite, hl_v_some, hl_d_some, hl_3_some, hl_4_some, hl_5_some, hl_v_bv, hl_d_bv, hl_3_bv, hl_4_bv, hl_5_bv, hl_bv, hl_v_bd, hl_d_bd, hl_3_bd, hl_4_bd, hl_5_bd, hl_bd, hl_v_b3, hl_d_b3, hl_3_b3, hl_4_b3, hl_5_b3, hl_b3, hl_v_b4, hl_d_b4, hl_3_b4, hl_4_b4, hl_5_b4, hl_b4, hl_v_b5, hl_d_b5, hl_3_b5, hl_4_b5, hl_5_b5, hl_b5, hs_bv_i, hm_bv_i, hR]
  all_goals rfl
def njX12_two_42 (s0 : Int32) (g : hm) : Option (Int32 × hm) :=
  some (s0, (hm_w g 285 33 ((g 285 33) + (2 : Int32))))
def nX12_two  (g : hm) : Option (Int32 × hm) :=
  if (g 285 2) ≤ ((g 285 33) + (1 : Int32)) then (
    njX12_two_42 (-1 : Int32) g
  ) else (
    if hs_in (g 285 33) 6000 = true then
    if hs_in ((g 285 33) + (1 : Int32)) 6000 = true then
    njX12_two_42 (((g 286 (g 285 33).toNatClampNeg) * (256 : Int32)) + (g 286 ((g 285 33) + (1 : Int32)).toNatClampNeg)) g
    else none else none
  )
set_option maxHeartbeats 4000000 in
theorem tjX12_two_42 (R : Nat → Nat → Nat) (hR : R 285 = hm_R) (s0 : Int32) (g : hm) : jX12_two_42 285 s0 (gm g R) = hl_d R (njX12_two_42 s0 g) := by
  unfold jX12_two_42 njX12_two_42
  simp only [gm_I, gm_R, gm_w, gm_kd, gm_ln, not_false_eq_true, if_true, ite_true, gk_285, gk_286, gk_287, gk_288, gk_289, gk_290, gk_291, gk_292, gk_293, gk_294, gk_295, gk_296, gk_297, gk_298, gk_299, gk_300, gk_301, gk_302, gk_303, gk_304, gk_305, gk_306, gk_307, gk_308, gk_309, gk_310, gk_311, gk_312, gk_313, gk_314, gk_315, gk_316, gk_317, gk_318, gk_319, gn_286, gn_287, gn_288, gn_289, gn_290, gn_291, gn_292, gn_293, gn_294, gn_295, gn_296, gn_297, gn_298, gn_299, gn_300, gn_301, gn_302, gn_303, gn_304, gn_305, gn_306, gn_307, gn_308, gn_309, gn_310, gn_311, gn_312, gn_313, gn_314, gn_315, gn_316, gn_317, gn_318, gn_319, gr_1, gr_5, gr_6, gr_7, gr_8, gr_9, gr_10, gr_11, gr_12, gr_13, gr_14, gr_15, gr_16, gr_17, gr_18, gr_19, gr_20, gr_21, gr_23, gr_24, gr_25, gr_26, gr_27, gr_28, gr_29, gr_30, gr_32, gr_34, gr_35, gr_41, gr_42, gr_43, gr_44, gr_45, gz_1, gz_5, gz_6, gz_7, gz_8, gz_9, gz_10, gz_11, gz_12, gz_13, gz_14, gz_15, gz_16, gz_17, gz_18, gz_19, gz_20, gz_21, gz_23, gz_24, gz_25, gz_26, gz_27, gz_28, gz_29, gz_30, gz_32, gz_34, gz_35, gz_41, gz_42, gz_43, gz_44, gz_45, hl_v_none, hl_v_ite, hl_d_none, hl_d_ite, hl_3_none, hl_3_ite, hl_4_none, hl_4_ite, hl_5_none, hl_5_ite, hl_v_some, hl_d_some, hl_3_some, hl_4_some, hl_5_some, hl_v_bv, hl_d_bv, hl_3_bv, hl_4_bv, hl_5_bv, hl_bv, hl_v_bd, hl_d_bd, hl_3_bd, hl_4_bd, hl_5_bd, hl_bd, hl_v_b3, hl_d_b3, hl_3_b3, hl_4_b3, hl_5_b3, hl_b3, hl_v_b4, hl_d_b4, hl_3_b4, hl_4_b4, hl_5_b4, hl_b4, hl_v_b5, hl_d_b5, hl_3_b5, hl_4_b5, hl_5_b5, hl_b5, hs_bv_i, hm_bv_i, hR]
  all_goals rfl
set_option maxHeartbeats 4000000 in
theorem tX12_two (R : Nat → Nat → Nat) (hR : R 285 = hm_R)  (g : hm) : fX12_two 285  (gm g R) = hl_d R (nX12_two  g) := by
  unfold fX12_two nX12_two
  simp only [gm_I, gm_R, gm_w, gm_kd, gm_ln, not_false_eq_true, if_true, ite_true, gk_285, gk_286, gk_287, gk_288, gk_289, gk_290, gk_291, gk_292, gk_293, gk_294, gk_295, gk_296, gk_297, gk_298, gk_299, gk_300, gk_301, gk_302, gk_303, gk_304, gk_305, gk_306, gk_307, gk_308, gk_309, gk_310, gk_311, gk_312, gk_313, gk_314, gk_315, gk_316, gk_317, gk_318, gk_319, gn_286, gn_287, gn_288, gn_289, gn_290, gn_291, gn_292, gn_293, gn_294, gn_295, gn_296, gn_297, gn_298, gn_299, gn_300, gn_301, gn_302, gn_303, gn_304, gn_305, gn_306, gn_307, gn_308, gn_309, gn_310, gn_311, gn_312, gn_313, gn_314, gn_315, gn_316, gn_317, gn_318, gn_319, gr_1, gr_5, gr_6, gr_7, gr_8, gr_9, gr_10, gr_11, gr_12, gr_13, gr_14, gr_15, gr_16, gr_17, gr_18, gr_19, gr_20, gr_21, gr_23, gr_24, gr_25, gr_26, gr_27, gr_28, gr_29, gr_30, gr_32, gr_34, gr_35, gr_41, gr_42, gr_43, gr_44, gr_45, gz_1, gz_5, gz_6, gz_7, gz_8, gz_9, gz_10, gz_11, gz_12, gz_13, gz_14, gz_15, gz_16, gz_17, gz_18, gz_19, gz_20, gz_21, gz_23, gz_24, gz_25, gz_26, gz_27, gz_28, gz_29, gz_30, gz_32, gz_34, gz_35, gz_41, gz_42, gz_43, gz_44, gz_45, hl_v_none, hl_v_ite, hl_d_none, hl_d_ite, hl_3_none, hl_3_ite, hl_4_none, hl_4_ite, hl_5_none, hl_5_ite, hl_v_some, hl_d_some, hl_3_some, hl_4_some, hl_5_some, hl_v_bv, hl_d_bv, hl_3_bv, hl_4_bv, hl_5_bv, hl_bv, hl_v_bd, hl_d_bd, hl_3_bd, hl_4_bd, hl_5_bd, hl_bd, hl_v_b3, hl_d_b3, hl_3_b3, hl_4_b3, hl_5_b3, hl_b3, hl_v_b4, hl_d_b4, hl_3_b4, hl_4_b4, hl_5_b4, hl_b4, hl_v_b5, hl_d_b5, hl_3_b5, hl_4_b5, hl_5_b5, hl_b5, hs_bv_i, hm_bv_i, hR, tjX12_two_42 R hR]
  all_goals rfl
def njX12_size_191  (g : hm) : Option (Int32 × hm) :=
  some ((1 : Int32), g)
def njX12_size_56 (v0 : Int32) (g : hm) : Option (Int32 × hm) :=
  if v0 = (167 : Int32) then (
    some ((2 : Int32), g)
  ) else (
    if v0 = (184 : Int32) then (
      some ((2 : Int32), g)
    ) else (
      if v0 = (188 : Int32) then (
        some ((2 : Int32), g)
      ) else (
        if v0 = (190 : Int32) then (
          some ((2 : Int32), g)
        ) else (
          if v0 = (46 : Int32) then (
            some ((2 : Int32), g)
          ) else (
            if v0 = (79 : Int32) then (
              some ((2 : Int32), g)
            ) else (
              if v0 = 0 then (
                njX12_size_191 g
              ) else (
                if v0 = (87 : Int32) then (
                  njX12_size_191 g
                ) else (
                  if v0 = (89 : Int32) then (
                    njX12_size_191 g
                  ) else (
                    if v0 = (96 : Int32) then (
                      njX12_size_191 g
                    ) else (
                      if v0 = (100 : Int32) then (
                        njX12_size_191 g
                      ) else (
                        if v0 = (104 : Int32) then (
                          njX12_size_191 g
                        ) else (
                          if v0 = (108 : Int32) then (
                            njX12_size_191 g
                          ) else (
                            if v0 = (112 : Int32) then (
                              njX12_size_191 g
                            ) else (
                              if v0 = (116 : Int32) then (
                                njX12_size_191 g
                              ) else (
                                if v0 = (126 : Int32) then (
                                  njX12_size_191 g
                                ) else (
                                  if v0 = (128 : Int32) then (
                                    njX12_size_191 g
                                  ) else (
                                    if v0 = (130 : Int32) then (
                                      njX12_size_191 g
                                    ) else (
                                      if v0 = (172 : Int32) then (
                                        njX12_size_191 g
                                      ) else (
                                        if v0 = (191 : Int32) then (
                                          njX12_size_191 g
                                        ) else (
                                          if v0 = (203 : Int32) then (
                                            njX12_size_191 g
                                          ) else (
                                            some ((0 : Int32), g)
                                          )
                                        )
                                      )
                                    )
                                  )
                                )
                              )
                            )
                          )
                        )
                      )
                    )
                  )
                )
              )
            )
          )
        )
      )
    )
  )
def nX12_size (v0 : Int32) (g : hm) : Option (Int32 × hm) :=
  if v0 = (17 : Int32) then (
    some ((3 : Int32), g)
  ) else (
    if v0 = (168 : Int32) then (
      some ((3 : Int32), g)
    ) else (
      if v0 = (202 : Int32) then (
        some ((5 : Int32), g)
      ) else (
        if v0 = (16 : Int32) then (
          some ((2 : Int32), g)
        ) else (
          if v0 = (21 : Int32) then (
            some ((2 : Int32), g)
          ) else (
            if v0 = (54 : Int32) then (
              some ((2 : Int32), g)
            ) else (
              if v0 < (153 : Int32) then (
                njX12_size_56 v0 g
              ) else (
                if v0 ≤ (158 : Int32) then (
                  some ((2 : Int32), g)
                ) else (
                  njX12_size_56 v0 g
                )
              )
            )
          )
        )
      )
    )
  )
set_option maxHeartbeats 4000000 in
theorem tjX12_size_191 (R : Nat → Nat → Nat) (hR : R 285 = hm_R)  (g : hm) : jX12_size_191  (gm g R) = hl_d R (njX12_size_191  g) := by
  unfold jX12_size_191 njX12_size_191
  simp only [gm_I, gm_R, gm_w, gm_kd, gm_ln, not_false_eq_true, if_true, ite_true, gk_285, gk_286, gk_287, gk_288, gk_289, gk_290, gk_291, gk_292, gk_293, gk_294, gk_295, gk_296, gk_297, gk_298, gk_299, gk_300, gk_301, gk_302, gk_303, gk_304, gk_305, gk_306, gk_307, gk_308, gk_309, gk_310, gk_311, gk_312, gk_313, gk_314, gk_315, gk_316, gk_317, gk_318, gk_319, gn_286, gn_287, gn_288, gn_289, gn_290, gn_291, gn_292, gn_293, gn_294, gn_295, gn_296, gn_297, gn_298, gn_299, gn_300, gn_301, gn_302, gn_303, gn_304, gn_305, gn_306, gn_307, gn_308, gn_309, gn_310, gn_311, gn_312, gn_313, gn_314, gn_315, gn_316, gn_317, gn_318, gn_319, gr_1, gr_5, gr_6, gr_7, gr_8, gr_9, gr_10, gr_11, gr_12, gr_13, gr_14, gr_15, gr_16, gr_17, gr_18, gr_19, gr_20, gr_21, gr_23, gr_24, gr_25, gr_26, gr_27, gr_28, gr_29, gr_30, gr_32, gr_34, gr_35, gr_41, gr_42, gr_43, gr_44, gr_45, gz_1, gz_5, gz_6, gz_7, gz_8, gz_9, gz_10, gz_11, gz_12, gz_13, gz_14, gz_15, gz_16, gz_17, gz_18, gz_19, gz_20, gz_21, gz_23, gz_24, gz_25, gz_26, gz_27, gz_28, gz_29, gz_30, gz_32, gz_34, gz_35, gz_41, gz_42, gz_43, gz_44, gz_45, hl_v_none, hl_v_ite, hl_d_none, hl_d_ite, hl_3_none, hl_3_ite, hl_4_none, hl_4_ite, hl_5_none, hl_5_ite, hl_v_some, hl_d_some, hl_3_some, hl_4_some, hl_5_some, hl_v_bv, hl_d_bv, hl_3_bv, hl_4_bv, hl_5_bv, hl_bv, hl_v_bd, hl_d_bd, hl_3_bd, hl_4_bd, hl_5_bd, hl_bd, hl_v_b3, hl_d_b3, hl_3_b3, hl_4_b3, hl_5_b3, hl_b3, hl_v_b4, hl_d_b4, hl_3_b4, hl_4_b4, hl_5_b4, hl_b4, hl_v_b5, hl_d_b5, hl_3_b5, hl_4_b5, hl_5_b5, hl_b5, hs_bv_i, hm_bv_i, hR]
  all_goals rfl
set_option maxHeartbeats 4000000 in
theorem tjX12_size_56 (R : Nat → Nat → Nat) (hR : R 285 = hm_R) (v0 : Int32) (g : hm) : jX12_size_56 v0 (gm g R) = hl_d R (njX12_size_56 v0 g) := by
  unfold jX12_size_56 njX12_size_56
  simp only [gm_I, gm_R, gm_w, gm_kd, gm_ln, not_false_eq_true, if_true, ite_true, gk_285, gk_286, gk_287, gk_288, gk_289, gk_290, gk_291, gk_292, gk_293, gk_294, gk_295, gk_296, gk_297, gk_298, gk_299, gk_300, gk_301, gk_302, gk_303, gk_304, gk_305, gk_306, gk_307, gk_308, gk_309, gk_310, gk_311, gk_312, gk_313, gk_314, gk_315, gk_316, gk_317, gk_318, gk_319, gn_286, gn_287, gn_288, gn_289, gn_290, gn_291, gn_292, gn_293, gn_294, gn_295, gn_296, gn_297, gn_298, gn_299, gn_300, gn_301, gn_302, gn_303, gn_304, gn_305, gn_306, gn_307, gn_308, gn_309, gn_310, gn_311, gn_312, gn_313, gn_314, gn_315, gn_316, gn_317, gn_318, gn_319, gr_1, gr_5, gr_6, gr_7, gr_8, gr_9, gr_10, gr_11, gr_12, gr_13, gr_14, gr_15, gr_16, gr_17, gr_18, gr_19, gr_20, gr_21, gr_23, gr_24, gr_25, gr_26, gr_27, gr_28, gr_29, gr_30, gr_32, gr_34, gr_35, gr_41, gr_42, gr_43, gr_44, gr_45, gz_1, gz_5, gz_6, gz_7, gz_8, gz_9, gz_10, gz_11, gz_12, gz_13, gz_14, gz_15, gz_16, gz_17, gz_18, gz_19, gz_20, gz_21, gz_23, gz_24, gz_25, gz_26, gz_27, gz_28, gz_29, gz_30, gz_32, gz_34, gz_35, gz_41, gz_42, gz_43, gz_44, gz_45, hl_v_none, hl_v_ite, hl_d_none, hl_d_ite, hl_3_none, hl_3_ite, hl_4_none, hl_4_ite, hl_5_none, hl_5_ite, hl_v_some, hl_d_some, hl_3_some, hl_4_some, hl_5_some, hl_v_bv, hl_d_bv, hl_3_bv, hl_4_bv, hl_5_bv, hl_bv, hl_v_bd, hl_d_bd, hl_3_bd, hl_4_bd, hl_5_bd, hl_bd, hl_v_b3, hl_d_b3, hl_3_b3, hl_4_b3, hl_5_b3, hl_b3, hl_v_b4, hl_d_b4, hl_3_b4, hl_4_b4, hl_5_b4, hl_b4, hl_v_b5, hl_d_b5, hl_3_b5, hl_4_b5, hl_5_b5, hl_b5, hs_bv_i, hm_bv_i, hR, tjX12_size_191 R hR]
  all_goals rfl
set_option maxHeartbeats 4000000 in
theorem tX12_size (R : Nat → Nat → Nat) (hR : R 285 = hm_R) (v0 : Int32) (g : hm) : fX12_size v0 (gm g R) = hl_d R (nX12_size v0 g) := by
  unfold fX12_size nX12_size
  simp only [gm_I, gm_R, gm_w, gm_kd, gm_ln, not_false_eq_true, if_true, ite_true, gk_285, gk_286, gk_287, gk_288, gk_289, gk_290, gk_291, gk_292, gk_293, gk_294, gk_295, gk_296, gk_297, gk_298, gk_299, gk_300, gk_301, gk_302, gk_303, gk_304, gk_305, gk_306, gk_307, gk_308, gk_309, gk_310, gk_311, gk_312, gk_313, gk_314, gk_315, gk_316, gk_317, gk_318, gk_319, gn_286, gn_287, gn_288, gn_289, gn_290, gn_291, gn_292, gn_293, gn_294, gn_295, gn_296, gn_297, gn_298, gn_299, gn_300, gn_301, gn_302, gn_303, gn_304, gn_305, gn_306, gn_307, gn_308, gn_309, gn_310, gn_311, gn_312, gn_313, gn_314, gn_315, gn_316, gn_317, gn_318, gn_319, gr_1, gr_5, gr_6, gr_7, gr_8, gr_9, gr_10, gr_11, gr_12, gr_13, gr_14, gr_15, gr_16, gr_17, gr_18, gr_19, gr_20, gr_21, gr_23, gr_24, gr_25, gr_26, gr_27, gr_28, gr_29, gr_30, gr_32, gr_34, gr_35, gr_41, gr_42, gr_43, gr_44, gr_45, gz_1, gz_5, gz_6, gz_7, gz_8, gz_9, gz_10, gz_11, gz_12, gz_13, gz_14, gz_15, gz_16, gz_17, gz_18, gz_19, gz_20, gz_21, gz_23, gz_24, gz_25, gz_26, gz_27, gz_28, gz_29, gz_30, gz_32, gz_34, gz_35, gz_41, gz_42, gz_43, gz_44, gz_45, hl_v_none, hl_v_ite, hl_d_none, hl_d_ite, hl_3_none, hl_3_ite, hl_4_none, hl_4_ite, hl_5_none, hl_5_ite, hl_v_some, hl_d_some, hl_3_some, hl_4_some, hl_5_some, hl_v_bv, hl_d_bv, hl_3_bv, hl_4_bv, hl_5_bv, hl_bv, hl_v_bd, hl_d_bd, hl_3_bd, hl_4_bd, hl_5_bd, hl_bd, hl_v_b3, hl_d_b3, hl_3_b3, hl_4_b3, hl_5_b3, hl_b3, hl_v_b4, hl_d_b4, hl_3_b4, hl_4_b4, hl_5_b4, hl_b4, hl_v_b5, hl_d_b5, hl_3_b5, hl_4_b5, hl_5_b5, hl_b5, hs_bv_i, hm_bv_i, hR, tjX12_size_191 R hR, tjX12_size_56 R hR]
  all_goals rfl
def nX12_isKind (v0 : Int32) (g : hm) : Option (Int32 × hm) :=
  hm_bd (nX12_size v0 g) fun r2 g1 =>
  if r2 ≤ 0 then (
    some ((0 : Int32), g1)
  ) else (
    if v0 = (202 : Int32) then (
      some ((0 : Int32), g1)
    ) else (
      if v0 = (203 : Int32) then (
        some ((0 : Int32), g1)
      ) else (
        some ((1 : Int32), g1)
      )
    )
  )
set_option maxHeartbeats 4000000 in
theorem tX12_isKind (R : Nat → Nat → Nat) (hR : R 285 = hm_R) (v0 : Int32) (g : hm) : fX12_isKind v0 (gm g R) = hl_d R (nX12_isKind v0 g) := by
  unfold fX12_isKind nX12_isKind
  simp only [gm_I, gm_R, gm_w, gm_kd, gm_ln, not_false_eq_true, if_true, ite_true, gk_285, gk_286, gk_287, gk_288, gk_289, gk_290, gk_291, gk_292, gk_293, gk_294, gk_295, gk_296, gk_297, gk_298, gk_299, gk_300, gk_301, gk_302, gk_303, gk_304, gk_305, gk_306, gk_307, gk_308, gk_309, gk_310, gk_311, gk_312, gk_313, gk_314, gk_315, gk_316, gk_317, gk_318, gk_319, gn_286, gn_287, gn_288, gn_289, gn_290, gn_291, gn_292, gn_293, gn_294, gn_295, gn_296, gn_297, gn_298, gn_299, gn_300, gn_301, gn_302, gn_303, gn_304, gn_305, gn_306, gn_307, gn_308, gn_309, gn_310, gn_311, gn_312, gn_313, gn_314, gn_315, gn_316, gn_317, gn_318, gn_319, gr_1, gr_5, gr_6, gr_7, gr_8, gr_9, gr_10, gr_11, gr_12, gr_13, gr_14, gr_15, gr_16, gr_17, gr_18, gr_19, gr_20, gr_21, gr_23, gr_24, gr_25, gr_26, gr_27, gr_28, gr_29, gr_30, gr_32, gr_34, gr_35, gr_41, gr_42, gr_43, gr_44, gr_45, gz_1, gz_5, gz_6, gz_7, gz_8, gz_9, gz_10, gz_11, gz_12, gz_13, gz_14, gz_15, gz_16, gz_17, gz_18, gz_19, gz_20, gz_21, gz_23, gz_24, gz_25, gz_26, gz_27, gz_28, gz_29, gz_30, gz_32, gz_34, gz_35, gz_41, gz_42, gz_43, gz_44, gz_45, hl_v_none, hl_v_ite, hl_d_none, hl_d_ite, hl_3_none, hl_3_ite, hl_4_none, hl_4_ite, hl_5_none, hl_5_ite, hl_v_some, hl_d_some, hl_3_some, hl_4_some, hl_5_some, hl_v_bv, hl_d_bv, hl_3_bv, hl_4_bv, hl_5_bv, hl_bv, hl_v_bd, hl_d_bd, hl_3_bd, hl_4_bd, hl_5_bd, hl_bd, hl_v_b3, hl_d_b3, hl_3_b3, hl_4_b3, hl_5_b3, hl_b3, hl_v_b4, hl_d_b4, hl_3_b4, hl_4_b4, hl_5_b4, hl_b4, hl_v_b5, hl_d_b5, hl_3_b5, hl_4_b5, hl_5_b5, hl_b5, hs_bv_i, hm_bv_i, hR, tX12_size R hR]
  all_goals rfl
def nlX12_instructions_10 : Nat → Int32 → Int32 → Int32 → Int32 → hm → Option (hm)
  | 0, _, _, _, _, _ => none
  | n + 1, v1, v2, v3, v4, g =>
    if v3 < v4 then (
      some g
    ) else (
      if hs_in (((2001 : Int32) * v1) + v4) 16008 = true then
      nlX12_instructions_10 n v1 v2 v3 (v4 + (1 : Int32)) (hm_w g 293 (((2001 : Int32) * v1) + v4).toNatClampNeg (0 : Int32))
      else none
    )
theorem nlX12_instructions_10_s (n : Nat) (v1 : Int32) (v2 : Int32) (v3 : Int32) (v4 : Int32) (g : hm) : nlX12_instructions_10 (n + 1) v1 v2 v3 v4 g =
    if v3 < v4 then (
      some g
    ) else (
      if hs_in (((2001 : Int32) * v1) + v4) 16008 = true then
      nlX12_instructions_10 n v1 v2 v3 (v4 + (1 : Int32)) (hm_w g 293 (((2001 : Int32) * v1) + v4).toNatClampNeg (0 : Int32))
      else none
    ) := rfl
def njX12_instructions_231 (rec : Int32 → hm → Option (Nat × Int32 × hm)) (v1 : Int32) (v2 : Int32) (v3 : Int32) (v4 : Int32) (v5 : Int32) (v6 : Int32) (v7 : Int32) (g : hm) : Option (Nat × Int32 × hm) :=
  if v7 = 0 then (
    some (1, v4, g)
  ) else (
    if hs_in v5 16008 = true then
    hm_bd (nX12_size v6 (hm_w g 293 v5.toNatClampNeg (1 : Int32))) fun r7 g6 =>
    rec (v4 + r7) g6
    else none
  )
def njX12_instructions_229 (rec : Int32 → hm → Option (Nat × Int32 × hm)) (v1 : Int32) (v2 : Int32) (v3 : Int32) (v4 : Int32) (v5 : Int32) (v6 : Int32) (s0 : Int32) (g : hm) : Option (Nat × Int32 × hm) :=
  njX12_instructions_231 rec v1 v2 v3 v4 v5 v6 s0 g
def njX12_instructions_228 (rec : Int32 → hm → Option (Nat × Int32 × hm)) (v1 : Int32) (v2 : Int32) (v3 : Int32) (v4 : Int32) (v5 : Int32) (v6 : Int32) (g : hm) : Option (Nat × Int32 × hm) :=
  njX12_instructions_229 rec v1 v2 v3 v4 v5 v6 (0 : Int32) g
def njX12_instructions_213 (rec : Int32 → hm → Option (Nat × Int32 × hm)) (v1 : Int32) (v2 : Int32) (v3 : Int32) (v4 : Int32) (v5 : Int32) (v6 : Int32) (v7 : Int32) (v8 : Int32) (g : hm) : Option (Nat × Int32 × hm) :=
  if v7 = 0 then (
    njX12_instructions_228 rec v1 v2 v3 v4 v5 v6 g
  ) else (
    if (4 : Int32) ≤ v8 then (
      njX12_instructions_228 rec v1 v2 v3 v4 v5 v6 g
    ) else (
      njX12_instructions_229 rec v1 v2 v3 v4 v5 v6 (1 : Int32) g
    )
  )
def njX12_instructions_183 (rec : Int32 → hm → Option (Nat × Int32 × hm)) (v1 : Int32) (v2 : Int32) (v3 : Int32) (v4 : Int32) (v5 : Int32) (v6 : Int32) (v7 : Int32) (v8 : Int32) (g : hm) : Option (Nat × Int32 × hm) :=
  if v6 = (188 : Int32) then (
    njX12_instructions_213 rec v1 v2 v3 v4 v5 v6 v7 v8 g
  ) else (
    if v6 = (190 : Int32) then (
      njX12_instructions_213 rec v1 v2 v3 v4 v5 v6 v7 v8 g
    ) else (
      if v6 = (46 : Int32) then (
        njX12_instructions_213 rec v1 v2 v3 v4 v5 v6 v7 v8 g
      ) else (
        if v6 = (79 : Int32) then (
          njX12_instructions_213 rec v1 v2 v3 v4 v5 v6 v7 v8 g
        ) else (
          njX12_instructions_231 rec v1 v2 v3 v4 v5 v6 v7 g
        )
      )
    )
  )
def njX12_instructions_181 (rec : Int32 → hm → Option (Nat × Int32 × hm)) (v1 : Int32) (v2 : Int32) (v3 : Int32) (v4 : Int32) (v5 : Int32) (v6 : Int32) (v8 : Int32) (s0 : Int32) (g : hm) : Option (Nat × Int32 × hm) :=
  njX12_instructions_183 rec v1 v2 v3 v4 v5 v6 s0 v8 g
def njX12_instructions_180 (rec : Int32 → hm → Option (Nat × Int32 × hm)) (v1 : Int32) (v2 : Int32) (v3 : Int32) (v4 : Int32) (v5 : Int32) (v6 : Int32) (v8 : Int32) (g : hm) : Option (Nat × Int32 × hm) :=
  njX12_instructions_181 rec v1 v2 v3 v4 v5 v6 v8 (0 : Int32) g
def njX12_instructions_157 (rec : Int32 → hm → Option (Nat × Int32 × hm)) (v1 : Int32) (v2 : Int32) (v3 : Int32) (v4 : Int32) (v5 : Int32) (v6 : Int32) (v7 : Int32) (v8 : Int32) (g : hm) : Option (Nat × Int32 × hm) :=
  if v6 = (184 : Int32) then (
    if v7 = 0 then (
      njX12_instructions_180 rec v1 v2 v3 v4 v5 v6 v8 g
    ) else (
      if v2 ≤ v8 then (
        njX12_instructions_180 rec v1 v2 v3 v4 v5 v6 v8 g
      ) else (
        njX12_instructions_181 rec v1 v2 v3 v4 v5 v6 v8 (1 : Int32) g
      )
    )
  ) else (
    njX12_instructions_183 rec v1 v2 v3 v4 v5 v6 v7 v8 g
  )
def njX12_instructions_155 (rec : Int32 → hm → Option (Nat × Int32 × hm)) (v1 : Int32) (v2 : Int32) (v3 : Int32) (v4 : Int32) (v5 : Int32) (v6 : Int32) (v8 : Int32) (s0 : Int32) (g : hm) : Option (Nat × Int32 × hm) :=
  njX12_instructions_157 rec v1 v2 v3 v4 v5 v6 s0 v8 g
def njX12_instructions_154 (rec : Int32 → hm → Option (Nat × Int32 × hm)) (v1 : Int32) (v2 : Int32) (v3 : Int32) (v4 : Int32) (v5 : Int32) (v6 : Int32) (v8 : Int32) (g : hm) : Option (Nat × Int32 × hm) :=
  njX12_instructions_155 rec v1 v2 v3 v4 v5 v6 v8 (0 : Int32) g
def njX12_instructions_134 (rec : Int32 → hm → Option (Nat × Int32 × hm)) (v1 : Int32) (v2 : Int32) (v3 : Int32) (v4 : Int32) (v5 : Int32) (v6 : Int32) (v7 : Int32) (v8 : Int32) (g : hm) : Option (Nat × Int32 × hm) :=
  if v7 = 0 then (
    njX12_instructions_154 rec v1 v2 v3 v4 v5 v6 v8 g
  ) else (
    if hs_in v1 8 = true then
    if (g 298 v1.toNatClampNeg) ≤ v8 then (
      njX12_instructions_154 rec v1 v2 v3 v4 v5 v6 v8 g
    ) else (
      njX12_instructions_155 rec v1 v2 v3 v4 v5 v6 v8 (1 : Int32) g
    )
    else none
  )
def njX12_instructions_118 (rec : Int32 → hm → Option (Nat × Int32 × hm)) (v1 : Int32) (v2 : Int32) (v3 : Int32) (v4 : Int32) (v5 : Int32) (v6 : Int32) (v7 : Int32) (s0 : Int32) (g : hm) : Option (Nat × Int32 × hm) :=
  if v6 = (21 : Int32) then (
    njX12_instructions_134 rec v1 v2 v3 v4 v5 v6 v7 s0 g
  ) else (
    if v6 = (54 : Int32) then (
      njX12_instructions_134 rec v1 v2 v3 v4 v5 v6 v7 s0 g
    ) else (
      njX12_instructions_157 rec v1 v2 v3 v4 v5 v6 v7 s0 g
    )
  )
def njX12_instructions_117 (rec : Int32 → hm → Option (Nat × Int32 × hm)) (v1 : Int32) (v2 : Int32) (v3 : Int32) (v4 : Int32) (v5 : Int32) (v6 : Int32) (v7 : Int32) (g : hm) : Option (Nat × Int32 × hm) :=
  njX12_instructions_118 rec v1 v2 v3 v4 v5 v6 v7 (0 : Int32) g
def njX12_instructions_89 (rec : Int32 → hm → Option (Nat × Int32 × hm)) (v1 : Int32) (v2 : Int32) (v3 : Int32) (v4 : Int32) (v5 : Int32) (v6 : Int32) (s0 : Int32) (g : hm) : Option (Nat × Int32 × hm) :=
  if s0 = 0 then (
    njX12_instructions_117 rec v1 v2 v3 v4 v5 v6 s0 g
  ) else (
    hm_bd (nX12_size v6 g) fun r9 g8 =>
    if r9 ≤ (1 : Int32) then (
      njX12_instructions_117 rec v1 v2 v3 v4 v5 v6 s0 g8
    ) else (
      if hs_in (v5 + (1 : Int32)) 16008 = true then
      njX12_instructions_118 rec v1 v2 v3 v4 v5 v6 s0 (g8 303 (v5 + (1 : Int32)).toNatClampNeg) g8
      else none
    )
  )
def njX12_instructions_88 (rec : Int32 → hm → Option (Nat × Int32 × hm)) (v1 : Int32) (v2 : Int32) (v3 : Int32) (v4 : Int32) (v5 : Int32) (v6 : Int32) (g : hm) : Option (Nat × Int32 × hm) :=
  njX12_instructions_89 rec v1 v2 v3 v4 v5 v6 (0 : Int32) g
def nlX12_instructions_39 : Nat → Int32 → Int32 → Int32 → Int32 → hm → Option (Nat × Int32 × hm)
  | 0, _, _, _, _, _ => none
  | n + 1, v1, v2, v3, v4, g =>
    if v3 ≤ v4 then (
      some (0, v4, g)
    ) else (
      if hs_in (((2001 : Int32) * v1) + v4) 16008 = true then
      hm_bd (nX12_isKind (g 303 (((2001 : Int32) * v1) + v4).toNatClampNeg) g) fun r5 g4 =>
      if r5 = 0 then (
        njX12_instructions_88 (fun y0 g => nlX12_instructions_39 n v1 v2 v3 y0 g) v1 v2 v3 v4 (((2001 : Int32) * v1) + v4) (g 303 (((2001 : Int32) * v1) + v4).toNatClampNeg) g4
      ) else (
        hm_bd (nX12_size (g 303 (((2001 : Int32) * v1) + v4).toNatClampNeg) g4) fun r11 g10 =>
        if v3 < (v4 + r11) then (
          njX12_instructions_88 (fun y0 g => nlX12_instructions_39 n v1 v2 v3 y0 g) v1 v2 v3 v4 (((2001 : Int32) * v1) + v4) (g 303 (((2001 : Int32) * v1) + v4).toNatClampNeg) g10
        ) else (
          njX12_instructions_89 (fun y0 g => nlX12_instructions_39 n v1 v2 v3 y0 g) v1 v2 v3 v4 (((2001 : Int32) * v1) + v4) (g 303 (((2001 : Int32) * v1) + v4).toNatClampNeg) (1 : Int32) g10
        )
      )
      else none
    )
theorem nlX12_instructions_39_s (n : Nat) (v1 : Int32) (v2 : Int32) (v3 : Int32) (v4 : Int32) (g : hm) : nlX12_instructions_39 (n + 1) v1 v2 v3 v4 g =
    if v3 ≤ v4 then (
      some (0, v4, g)
    ) else (
      if hs_in (((2001 : Int32) * v1) + v4) 16008 = true then
      hm_bd (nX12_isKind (g 303 (((2001 : Int32) * v1) + v4).toNatClampNeg) g) fun r5 g4 =>
      if r5 = 0 then (
        njX12_instructions_88 (fun y0 g => nlX12_instructions_39 n v1 v2 v3 y0 g) v1 v2 v3 v4 (((2001 : Int32) * v1) + v4) (g 303 (((2001 : Int32) * v1) + v4).toNatClampNeg) g4
      ) else (
        hm_bd (nX12_size (g 303 (((2001 : Int32) * v1) + v4).toNatClampNeg) g4) fun r11 g10 =>
        if v3 < (v4 + r11) then (
          njX12_instructions_88 (fun y0 g => nlX12_instructions_39 n v1 v2 v3 y0 g) v1 v2 v3 v4 (((2001 : Int32) * v1) + v4) (g 303 (((2001 : Int32) * v1) + v4).toNatClampNeg) g10
        ) else (
          njX12_instructions_89 (fun y0 g => nlX12_instructions_39 n v1 v2 v3 y0 g) v1 v2 v3 v4 (((2001 : Int32) * v1) + v4) (g 303 (((2001 : Int32) * v1) + v4).toNatClampNeg) (1 : Int32) g10
        )
      )
      else none
    ) := rfl
def nX12_instructions (v1 : Int32) (v2 : Int32) (g : hm) : Option (Int32 × hm) :=
  if hs_in v1 8 = true then
  hm_bv (nlX12_instructions_10 hs_N v1 v2 (g 299 v1.toNatClampNeg) (0 : Int32) g) fun g2 =>
  hm_b3 (nlX12_instructions_39 hs_N v1 v2 (g 299 v1.toNatClampNeg) (0 : Int32) g2) fun k13 x12 g14 =>
  if k13 = 0 then (
    some ((0 : Int32), g14)
  ) else (
    if hs_in v1 8 = true then
    hm_bd (nX12_wrong ((g14 300 v1.toNatClampNeg) + x12) g14) fun r17 g16 =>
    some (r17, g16)
    else none
  )
  else none
set_option maxHeartbeats 4000000 in
theorem tlX12_instructions_10 (R : Nat → Nat → Nat) (hR : R 285 = hm_R) : ∀ (n : Nat) (v1 : Int32) (v2 : Int32) (v3 : Int32) (v4 : Int32) (g : hm), lX12_instructions_10 n 285 v1 v2 v3 v4 (gm g R) = hl_v R (nlX12_instructions_10 n v1 v2 v3 v4 g) := by
  intro n
  induction n with
  | zero => intros; rfl
  | succ n ih =>
    intro v1 v2 v3 v4 g
    rw [lX12_instructions_10_s, nlX12_instructions_10_s]
    simp only [gm_I, gm_R, gm_w, gm_kd, gm_ln, not_false_eq_true, if_true, ite_true, gk_285, gk_286, gk_287, gk_288, gk_289, gk_290, gk_291, gk_292, gk_293, gk_294, gk_295, gk_296, gk_297, gk_298, gk_299, gk_300, gk_301, gk_302, gk_303, gk_304, gk_305, gk_306, gk_307, gk_308, gk_309, gk_310, gk_311, gk_312, gk_313, gk_314, gk_315, gk_316, gk_317, gk_318, gk_319, gn_286, gn_287, gn_288, gn_289, gn_290, gn_291, gn_292, gn_293, gn_294, gn_295, gn_296, gn_297, gn_298, gn_299, gn_300, gn_301, gn_302, gn_303, gn_304, gn_305, gn_306, gn_307, gn_308, gn_309, gn_310, gn_311, gn_312, gn_313, gn_314, gn_315, gn_316, gn_317, gn_318, gn_319, gr_1, gr_5, gr_6, gr_7, gr_8, gr_9, gr_10, gr_11, gr_12, gr_13, gr_14, gr_15, gr_16, gr_17, gr_18, gr_19, gr_20, gr_21, gr_23, gr_24, gr_25, gr_26, gr_27, gr_28, gr_29, gr_30, gr_32, gr_34, gr_35, gr_41, gr_42, gr_43, gr_44, gr_45, gz_1, gz_5, gz_6, gz_7, gz_8, gz_9, gz_10, gz_11, gz_12, gz_13, gz_14, gz_15, gz_16, gz_17, gz_18, gz_19, gz_20, gz_21, gz_23, gz_24, gz_25, gz_26, gz_27, gz_28, gz_29, gz_30, gz_32, gz_34, gz_35, gz_41, gz_42, gz_43, gz_44, gz_45, hl_v_none, hl_v_ite, hl_d_none, hl_d_ite, hl_3_none, hl_3_ite, hl_4_none, hl_4_ite, hl_5_none, hl_5_ite, hl_v_some, hl_d_some, hl_3_some, hl_4_some, hl_5_some, hl_v_bv, hl_d_bv, hl_3_bv, hl_4_bv, hl_5_bv, hl_bv, hl_v_bd, hl_d_bd, hl_3_bd, hl_4_bd, hl_5_bd, hl_bd, hl_v_b3, hl_d_b3, hl_3_b3, hl_4_b3, hl_5_b3, hl_b3, hl_v_b4, hl_d_b4, hl_3_b4, hl_4_b4, hl_5_b4, hl_b4, hl_v_b5, hl_d_b5, hl_3_b5, hl_4_b5, hl_5_b5, hl_b5, hs_bv_i, hm_bv_i, hR, tX12_isKind R hR, tX12_size R hR, tX12_wrong R hR, ih]
    all_goals rfl
set_option maxHeartbeats 4000000 in
theorem tjX12_instructions_231 (R : Nat → Nat → Nat) (hR : R 285 = hm_R) (rec : Int32 → hs_S → Option (Nat × Int32 × hs_S)) (rec2 : Int32 → hm → Option (Nat × Int32 × hm)) (hrec : ∀ (y0 : Int32) (g : hm), rec y0 (gm g R) = hl_3 R (rec2 y0 g)) (v1 : Int32) (v2 : Int32) (v3 : Int32) (v4 : Int32) (v5 : Int32) (v6 : Int32) (v7 : Int32) (g : hm) : jX12_instructions_231 rec 285 v1 v2 v3 v4 v5 v6 v7 (gm g R) = hl_3 R (njX12_instructions_231 rec2 v1 v2 v3 v4 v5 v6 v7 g) := by
  unfold jX12_instructions_231 njX12_instructions_231
  simp only [gm_I, gm_R, gm_w, gm_kd, gm_ln, not_false_eq_true, if_true, ite_true, gk_285, gk_286, gk_287, gk_288, gk_289, gk_290, gk_291, gk_292, gk_293, gk_294, gk_295, gk_296, gk_297, gk_298, gk_299, gk_300, gk_301, gk_302, gk_303, gk_304, gk_305, gk_306, gk_307, gk_308, gk_309, gk_310, gk_311, gk_312, gk_313, gk_314, gk_315, gk_316, gk_317, gk_318, gk_319, gn_286, gn_287, gn_288, gn_289, gn_290, gn_291, gn_292, gn_293, gn_294, gn_295, gn_296, gn_297, gn_298, gn_299, gn_300, gn_301, gn_302, gn_303, gn_304, gn_305, gn_306, gn_307, gn_308, gn_309, gn_310, gn_311, gn_312, gn_313, gn_314, gn_315, gn_316, gn_317, gn_318, gn_319, gr_1, gr_5, gr_6, gr_7, gr_8, gr_9, gr_10, gr_11, gr_12, gr_13, gr_14, gr_15, gr_16, gr_17, gr_18, gr_19, gr_20, gr_21, gr_23, gr_24, gr_25, gr_26, gr_27, gr_28, gr_29, gr_30, gr_32, gr_34, gr_35, gr_41, gr_42, gr_43, gr_44, gr_45, gz_1, gz_5, gz_6, gz_7, gz_8, gz_9, gz_10, gz_11, gz_12, gz_13, gz_14, gz_15, gz_16, gz_17, gz_18, gz_19, gz_20, gz_21, gz_23, gz_24, gz_25, gz_26, gz_27, gz_28, gz_29, gz_30, gz_32, gz_34, gz_35, gz_41, gz_42, gz_43, gz_44, gz_45, hl_v_none, hl_v_ite, hl_d_none, hl_d_ite, hl_3_none, hl_3_ite, hl_4_none, hl_4_ite, hl_5_none, hl_5_ite, hl_v_some, hl_d_some, hl_3_some, hl_4_some, hl_5_some, hl_v_bv, hl_d_bv, hl_3_bv, hl_4_bv, hl_5_bv, hl_bv, hl_v_bd, hl_d_bd, hl_3_bd, hl_4_bd, hl_5_bd, hl_bd, hl_v_b3, hl_d_b3, hl_3_b3, hl_4_b3, hl_5_b3, hl_b3, hl_v_b4, hl_d_b4, hl_3_b4, hl_4_b4, hl_5_b4, hl_b4, hl_v_b5, hl_d_b5, hl_3_b5, hl_4_b5, hl_5_b5, hl_b5, hs_bv_i, hm_bv_i, hR, tX12_isKind R hR, tX12_size R hR, tX12_wrong R hR, tlX12_instructions_10 R hR, hrec]
  all_goals rfl
set_option maxHeartbeats 4000000 in
theorem tjX12_instructions_229 (R : Nat → Nat → Nat) (hR : R 285 = hm_R) (rec : Int32 → hs_S → Option (Nat × Int32 × hs_S)) (rec2 : Int32 → hm → Option (Nat × Int32 × hm)) (hrec : ∀ (y0 : Int32) (g : hm), rec y0 (gm g R) = hl_3 R (rec2 y0 g)) (v1 : Int32) (v2 : Int32) (v3 : Int32) (v4 : Int32) (v5 : Int32) (v6 : Int32) (s0 : Int32) (g : hm) : jX12_instructions_229 rec 285 v1 v2 v3 v4 v5 v6 s0 (gm g R) = hl_3 R (njX12_instructions_229 rec2 v1 v2 v3 v4 v5 v6 s0 g) := by
  unfold jX12_instructions_229 njX12_instructions_229
  simp only [gm_I, gm_R, gm_w, gm_kd, gm_ln, not_false_eq_true, if_true, ite_true, gk_285, gk_286, gk_287, gk_288, gk_289, gk_290, gk_291, gk_292, gk_293, gk_294, gk_295, gk_296, gk_297, gk_298, gk_299, gk_300, gk_301, gk_302, gk_303, gk_304, gk_305, gk_306, gk_307, gk_308, gk_309, gk_310, gk_311, gk_312, gk_313, gk_314, gk_315, gk_316, gk_317, gk_318, gk_319, gn_286, gn_287, gn_288, gn_289, gn_290, gn_291, gn_292, gn_293, gn_294, gn_295, gn_296, gn_297, gn_298, gn_299, gn_300, gn_301, gn_302, gn_303, gn_304, gn_305, gn_306, gn_307, gn_308, gn_309, gn_310, gn_311, gn_312, gn_313, gn_314, gn_315, gn_316, gn_317, gn_318, gn_319, gr_1, gr_5, gr_6, gr_7, gr_8, gr_9, gr_10, gr_11, gr_12, gr_13, gr_14, gr_15, gr_16, gr_17, gr_18, gr_19, gr_20, gr_21, gr_23, gr_24, gr_25, gr_26, gr_27, gr_28, gr_29, gr_30, gr_32, gr_34, gr_35, gr_41, gr_42, gr_43, gr_44, gr_45, gz_1, gz_5, gz_6, gz_7, gz_8, gz_9, gz_10, gz_11, gz_12, gz_13, gz_14, gz_15, gz_16, gz_17, gz_18, gz_19, gz_20, gz_21, gz_23, gz_24, gz_25, gz_26, gz_27, gz_28, gz_29, gz_30, gz_32, gz_34, gz_35, gz_41, gz_42, gz_43, gz_44, gz_45, hl_v_none, hl_v_ite, hl_d_none, hl_d_ite, hl_3_none, hl_3_ite, hl_4_none, hl_4_ite, hl_5_none, hl_5_ite, hl_v_some, hl_d_some, hl_3_some, hl_4_some, hl_5_some, hl_v_bv, hl_d_bv, hl_3_bv, hl_4_bv, hl_5_bv, hl_bv, hl_v_bd, hl_d_bd, hl_3_bd, hl_4_bd, hl_5_bd, hl_bd, hl_v_b3, hl_d_b3, hl_3_b3, hl_4_b3, hl_5_b3, hl_b3, hl_v_b4, hl_d_b4, hl_3_b4, hl_4_b4, hl_5_b4, hl_b4, hl_v_b5, hl_d_b5, hl_3_b5, hl_4_b5, hl_5_b5, hl_b5, hs_bv_i, hm_bv_i, hR, tX12_isKind R hR, tX12_size R hR, tX12_wrong R hR, tlX12_instructions_10 R hR, hrec, tjX12_instructions_231 R hR rec rec2 hrec]
  all_goals rfl
set_option maxHeartbeats 4000000 in
theorem tjX12_instructions_228 (R : Nat → Nat → Nat) (hR : R 285 = hm_R) (rec : Int32 → hs_S → Option (Nat × Int32 × hs_S)) (rec2 : Int32 → hm → Option (Nat × Int32 × hm)) (hrec : ∀ (y0 : Int32) (g : hm), rec y0 (gm g R) = hl_3 R (rec2 y0 g)) (v1 : Int32) (v2 : Int32) (v3 : Int32) (v4 : Int32) (v5 : Int32) (v6 : Int32) (g : hm) : jX12_instructions_228 rec 285 v1 v2 v3 v4 v5 v6 (gm g R) = hl_3 R (njX12_instructions_228 rec2 v1 v2 v3 v4 v5 v6 g) := by
  unfold jX12_instructions_228 njX12_instructions_228
  simp only [gm_I, gm_R, gm_w, gm_kd, gm_ln, not_false_eq_true, if_true, ite_true, gk_285, gk_286, gk_287, gk_288, gk_289, gk_290, gk_291, gk_292, gk_293, gk_294, gk_295, gk_296, gk_297, gk_298, gk_299, gk_300, gk_301, gk_302, gk_303, gk_304, gk_305, gk_306, gk_307, gk_308, gk_309, gk_310, gk_311, gk_312, gk_313, gk_314, gk_315, gk_316, gk_317, gk_318, gk_319, gn_286, gn_287, gn_288, gn_289, gn_290, gn_291, gn_292, gn_293, gn_294, gn_295, gn_296, gn_297, gn_298, gn_299, gn_300, gn_301, gn_302, gn_303, gn_304, gn_305, gn_306, gn_307, gn_308, gn_309, gn_310, gn_311, gn_312, gn_313, gn_314, gn_315, gn_316, gn_317, gn_318, gn_319, gr_1, gr_5, gr_6, gr_7, gr_8, gr_9, gr_10, gr_11, gr_12, gr_13, gr_14, gr_15, gr_16, gr_17, gr_18, gr_19, gr_20, gr_21, gr_23, gr_24, gr_25, gr_26, gr_27, gr_28, gr_29, gr_30, gr_32, gr_34, gr_35, gr_41, gr_42, gr_43, gr_44, gr_45, gz_1, gz_5, gz_6, gz_7, gz_8, gz_9, gz_10, gz_11, gz_12, gz_13, gz_14, gz_15, gz_16, gz_17, gz_18, gz_19, gz_20, gz_21, gz_23, gz_24, gz_25, gz_26, gz_27, gz_28, gz_29, gz_30, gz_32, gz_34, gz_35, gz_41, gz_42, gz_43, gz_44, gz_45, hl_v_none, hl_v_ite, hl_d_none, hl_d_ite, hl_3_none, hl_3_ite, hl_4_none, hl_4_ite, hl_5_none, hl_5_ite, hl_v_some, hl_d_some, hl_3_some, hl_4_some, hl_5_some, hl_v_bv, hl_d_bv, hl_3_bv, hl_4_bv, hl_5_bv, hl_bv, hl_v_bd, hl_d_bd, hl_3_bd, hl_4_bd, hl_5_bd, hl_bd, hl_v_b3, hl_d_b3, hl_3_b3, hl_4_b3, hl_5_b3, hl_b3, hl_v_b4, hl_d_b4, hl_3_b4, hl_4_b4, hl_5_b4, hl_b4, hl_v_b5, hl_d_b5, hl_3_b5, hl_4_b5, hl_5_b5, hl_b5, hs_bv_i, hm_bv_i, hR, tX12_isKind R hR, tX12_size R hR, tX12_wrong R hR, tlX12_instructions_10 R hR, hrec, tjX12_instructions_231 R hR rec rec2 hrec, tjX12_instructions_229 R hR rec rec2 hrec]
  all_goals rfl
set_option maxHeartbeats 4000000 in
theorem tjX12_instructions_213 (R : Nat → Nat → Nat) (hR : R 285 = hm_R) (rec : Int32 → hs_S → Option (Nat × Int32 × hs_S)) (rec2 : Int32 → hm → Option (Nat × Int32 × hm)) (hrec : ∀ (y0 : Int32) (g : hm), rec y0 (gm g R) = hl_3 R (rec2 y0 g)) (v1 : Int32) (v2 : Int32) (v3 : Int32) (v4 : Int32) (v5 : Int32) (v6 : Int32) (v7 : Int32) (v8 : Int32) (g : hm) : jX12_instructions_213 rec 285 v1 v2 v3 v4 v5 v6 v7 v8 (gm g R) = hl_3 R (njX12_instructions_213 rec2 v1 v2 v3 v4 v5 v6 v7 v8 g) := by
  unfold jX12_instructions_213 njX12_instructions_213
  simp only [gm_I, gm_R, gm_w, gm_kd, gm_ln, not_false_eq_true, if_true, ite_true, gk_285, gk_286, gk_287, gk_288, gk_289, gk_290, gk_291, gk_292, gk_293, gk_294, gk_295, gk_296, gk_297, gk_298, gk_299, gk_300, gk_301, gk_302, gk_303, gk_304, gk_305, gk_306, gk_307, gk_308, gk_309, gk_310, gk_311, gk_312, gk_313, gk_314, gk_315, gk_316, gk_317, gk_318, gk_319, gn_286, gn_287, gn_288, gn_289, gn_290, gn_291, gn_292, gn_293, gn_294, gn_295, gn_296, gn_297, gn_298, gn_299, gn_300, gn_301, gn_302, gn_303, gn_304, gn_305, gn_306, gn_307, gn_308, gn_309, gn_310, gn_311, gn_312, gn_313, gn_314, gn_315, gn_316, gn_317, gn_318, gn_319, gr_1, gr_5, gr_6, gr_7, gr_8, gr_9, gr_10, gr_11, gr_12, gr_13, gr_14, gr_15, gr_16, gr_17, gr_18, gr_19, gr_20, gr_21, gr_23, gr_24, gr_25, gr_26, gr_27, gr_28, gr_29, gr_30, gr_32, gr_34, gr_35, gr_41, gr_42, gr_43, gr_44, gr_45, gz_1, gz_5, gz_6, gz_7, gz_8, gz_9, gz_10, gz_11, gz_12, gz_13, gz_14, gz_15, gz_16, gz_17, gz_18, gz_19, gz_20, gz_21, gz_23, gz_24, gz_25, gz_26, gz_27, gz_28, gz_29, gz_30, gz_32, gz_34, gz_35, gz_41, gz_42, gz_43, gz_44, gz_45, hl_v_none, hl_v_ite, hl_d_none, hl_d_ite, hl_3_none, hl_3_ite, hl_4_none, hl_4_ite, hl_5_none, hl_5_ite, hl_v_some, hl_d_some, hl_3_some, hl_4_some, hl_5_some, hl_v_bv, hl_d_bv, hl_3_bv, hl_4_bv, hl_5_bv, hl_bv, hl_v_bd, hl_d_bd, hl_3_bd, hl_4_bd, hl_5_bd, hl_bd, hl_v_b3, hl_d_b3, hl_3_b3, hl_4_b3, hl_5_b3, hl_b3, hl_v_b4, hl_d_b4, hl_3_b4, hl_4_b4, hl_5_b4, hl_b4, hl_v_b5, hl_d_b5, hl_3_b5, hl_4_b5, hl_5_b5, hl_b5, hs_bv_i, hm_bv_i, hR, tX12_isKind R hR, tX12_size R hR, tX12_wrong R hR, tlX12_instructions_10 R hR, hrec, tjX12_instructions_231 R hR rec rec2 hrec, tjX12_instructions_229 R hR rec rec2 hrec, tjX12_instructions_228 R hR rec rec2 hrec]
  all_goals rfl
set_option maxHeartbeats 4000000 in
theorem tjX12_instructions_183 (R : Nat → Nat → Nat) (hR : R 285 = hm_R) (rec : Int32 → hs_S → Option (Nat × Int32 × hs_S)) (rec2 : Int32 → hm → Option (Nat × Int32 × hm)) (hrec : ∀ (y0 : Int32) (g : hm), rec y0 (gm g R) = hl_3 R (rec2 y0 g)) (v1 : Int32) (v2 : Int32) (v3 : Int32) (v4 : Int32) (v5 : Int32) (v6 : Int32) (v7 : Int32) (v8 : Int32) (g : hm) : jX12_instructions_183 rec 285 v1 v2 v3 v4 v5 v6 v7 v8 (gm g R) = hl_3 R (njX12_instructions_183 rec2 v1 v2 v3 v4 v5 v6 v7 v8 g) := by
  unfold jX12_instructions_183 njX12_instructions_183
  simp only [gm_I, gm_R, gm_w, gm_kd, gm_ln, not_false_eq_true, if_true, ite_true, gk_285, gk_286, gk_287, gk_288, gk_289, gk_290, gk_291, gk_292, gk_293, gk_294, gk_295, gk_296, gk_297, gk_298, gk_299, gk_300, gk_301, gk_302, gk_303, gk_304, gk_305, gk_306, gk_307, gk_308, gk_309, gk_310, gk_311, gk_312, gk_313, gk_314, gk_315, gk_316, gk_317, gk_318, gk_319, gn_286, gn_287, gn_288, gn_289, gn_290, gn_291, gn_292, gn_293, gn_294, gn_295, gn_296, gn_297, gn_298, gn_299, gn_300, gn_301, gn_302, gn_303, gn_304, gn_305, gn_306, gn_307, gn_308, gn_309, gn_310, gn_311, gn_312, gn_313, gn_314, gn_315, gn_316, gn_317, gn_318, gn_319, gr_1, gr_5, gr_6, gr_7, gr_8, gr_9, gr_10, gr_11, gr_12, gr_13, gr_14, gr_15, gr_16, gr_17, gr_18, gr_19, gr_20, gr_21, gr_23, gr_24, gr_25, gr_26, gr_27, gr_28, gr_29, gr_30, gr_32, gr_34, gr_35, gr_41, gr_42, gr_43, gr_44, gr_45, gz_1, gz_5, gz_6, gz_7, gz_8, gz_9, gz_10, gz_11, gz_12, gz_13, gz_14, gz_15, gz_16, gz_17, gz_18, gz_19, gz_20, gz_21, gz_23, gz_24, gz_25, gz_26, gz_27, gz_28, gz_29, gz_30, gz_32, gz_34, gz_35, gz_41, gz_42, gz_43, gz_44, gz_45, hl_v_none, hl_v_ite, hl_d_none, hl_d_ite, hl_3_none, hl_3_ite, hl_4_none, hl_4_ite, hl_5_none, hl_5_ite, hl_v_some, hl_d_some, hl_3_some, hl_4_some, hl_5_some, hl_v_bv, hl_d_bv, hl_3_bv, hl_4_bv, hl_5_bv, hl_bv, hl_v_bd, hl_d_bd, hl_3_bd, hl_4_bd, hl_5_bd, hl_bd, hl_v_b3, hl_d_b3, hl_3_b3, hl_4_b3, hl_5_b3, hl_b3, hl_v_b4, hl_d_b4, hl_3_b4, hl_4_b4, hl_5_b4, hl_b4, hl_v_b5, hl_d_b5, hl_3_b5, hl_4_b5, hl_5_b5, hl_b5, hs_bv_i, hm_bv_i, hR, tX12_isKind R hR, tX12_size R hR, tX12_wrong R hR, tlX12_instructions_10 R hR, hrec, tjX12_instructions_231 R hR rec rec2 hrec, tjX12_instructions_229 R hR rec rec2 hrec, tjX12_instructions_228 R hR rec rec2 hrec, tjX12_instructions_213 R hR rec rec2 hrec]
  all_goals rfl
set_option maxHeartbeats 4000000 in
theorem tjX12_instructions_181 (R : Nat → Nat → Nat) (hR : R 285 = hm_R) (rec : Int32 → hs_S → Option (Nat × Int32 × hs_S)) (rec2 : Int32 → hm → Option (Nat × Int32 × hm)) (hrec : ∀ (y0 : Int32) (g : hm), rec y0 (gm g R) = hl_3 R (rec2 y0 g)) (v1 : Int32) (v2 : Int32) (v3 : Int32) (v4 : Int32) (v5 : Int32) (v6 : Int32) (v8 : Int32) (s0 : Int32) (g : hm) : jX12_instructions_181 rec 285 v1 v2 v3 v4 v5 v6 v8 s0 (gm g R) = hl_3 R (njX12_instructions_181 rec2 v1 v2 v3 v4 v5 v6 v8 s0 g) := by
  unfold jX12_instructions_181 njX12_instructions_181
  simp only [gm_I, gm_R, gm_w, gm_kd, gm_ln, not_false_eq_true, if_true, ite_true, gk_285, gk_286, gk_287, gk_288, gk_289, gk_290, gk_291, gk_292, gk_293, gk_294, gk_295, gk_296, gk_297, gk_298, gk_299, gk_300, gk_301, gk_302, gk_303, gk_304, gk_305, gk_306, gk_307, gk_308, gk_309, gk_310, gk_311, gk_312, gk_313, gk_314, gk_315, gk_316, gk_317, gk_318, gk_319, gn_286, gn_287, gn_288, gn_289, gn_290, gn_291, gn_292, gn_293, gn_294, gn_295, gn_296, gn_297, gn_298, gn_299, gn_300, gn_301, gn_302, gn_303, gn_304, gn_305, gn_306, gn_307, gn_308, gn_309, gn_310, gn_311, gn_312, gn_313, gn_314, gn_315, gn_316, gn_317, gn_318, gn_319, gr_1, gr_5, gr_6, gr_7, gr_8, gr_9, gr_10, gr_11, gr_12, gr_13, gr_14, gr_15, gr_16, gr_17, gr_18, gr_19, gr_20, gr_21, gr_23, gr_24, gr_25, gr_26, gr_27, gr_28, gr_29, gr_30, gr_32, gr_34, gr_35, gr_41, gr_42, gr_43, gr_44, gr_45, gz_1, gz_5, gz_6, gz_7, gz_8, gz_9, gz_10, gz_11, gz_12, gz_13, gz_14, gz_15, gz_16, gz_17, gz_18, gz_19, gz_20, gz_21, gz_23, gz_24, gz_25, gz_26, gz_27, gz_28, gz_29, gz_30, gz_32, gz_34, gz_35, gz_41, gz_42, gz_43, gz_44, gz_45, hl_v_none, hl_v_ite, hl_d_none, hl_d_ite, hl_3_none, hl_3_ite, hl_4_none, hl_4_ite, hl_5_none, hl_5_ite, hl_v_some, hl_d_some, hl_3_some, hl_4_some, hl_5_some, hl_v_bv, hl_d_bv, hl_3_bv, hl_4_bv, hl_5_bv, hl_bv, hl_v_bd, hl_d_bd, hl_3_bd, hl_4_bd, hl_5_bd, hl_bd, hl_v_b3, hl_d_b3, hl_3_b3, hl_4_b3, hl_5_b3, hl_b3, hl_v_b4, hl_d_b4, hl_3_b4, hl_4_b4, hl_5_b4, hl_b4, hl_v_b5, hl_d_b5, hl_3_b5, hl_4_b5, hl_5_b5, hl_b5, hs_bv_i, hm_bv_i, hR, tX12_isKind R hR, tX12_size R hR, tX12_wrong R hR, tlX12_instructions_10 R hR, hrec, tjX12_instructions_231 R hR rec rec2 hrec, tjX12_instructions_229 R hR rec rec2 hrec, tjX12_instructions_228 R hR rec rec2 hrec, tjX12_instructions_213 R hR rec rec2 hrec, tjX12_instructions_183 R hR rec rec2 hrec]
  all_goals rfl
set_option maxHeartbeats 4000000 in
theorem tjX12_instructions_180 (R : Nat → Nat → Nat) (hR : R 285 = hm_R) (rec : Int32 → hs_S → Option (Nat × Int32 × hs_S)) (rec2 : Int32 → hm → Option (Nat × Int32 × hm)) (hrec : ∀ (y0 : Int32) (g : hm), rec y0 (gm g R) = hl_3 R (rec2 y0 g)) (v1 : Int32) (v2 : Int32) (v3 : Int32) (v4 : Int32) (v5 : Int32) (v6 : Int32) (v8 : Int32) (g : hm) : jX12_instructions_180 rec 285 v1 v2 v3 v4 v5 v6 v8 (gm g R) = hl_3 R (njX12_instructions_180 rec2 v1 v2 v3 v4 v5 v6 v8 g) := by
  unfold jX12_instructions_180 njX12_instructions_180
  simp only [gm_I, gm_R, gm_w, gm_kd, gm_ln, not_false_eq_true, if_true, ite_true, gk_285, gk_286, gk_287, gk_288, gk_289, gk_290, gk_291, gk_292, gk_293, gk_294, gk_295, gk_296, gk_297, gk_298, gk_299, gk_300, gk_301, gk_302, gk_303, gk_304, gk_305, gk_306, gk_307, gk_308, gk_309, gk_310, gk_311, gk_312, gk_313, gk_314, gk_315, gk_316, gk_317, gk_318, gk_319, gn_286, gn_287, gn_288, gn_289, gn_290, gn_291, gn_292, gn_293, gn_294, gn_295, gn_296, gn_297, gn_298, gn_299, gn_300, gn_301, gn_302, gn_303, gn_304, gn_305, gn_306, gn_307, gn_308, gn_309, gn_310, gn_311, gn_312, gn_313, gn_314, gn_315, gn_316, gn_317, gn_318, gn_319, gr_1, gr_5, gr_6, gr_7, gr_8, gr_9, gr_10, gr_11, gr_12, gr_13, gr_14, gr_15, gr_16, gr_17, gr_18, gr_19, gr_20, gr_21, gr_23, gr_24, gr_25, gr_26, gr_27, gr_28, gr_29, gr_30, gr_32, gr_34, gr_35, gr_41, gr_42, gr_43, gr_44, gr_45, gz_1, gz_5, gz_6, gz_7, gz_8, gz_9, gz_10, gz_11, gz_12, gz_13, gz_14, gz_15, gz_16, gz_17, gz_18, gz_19, gz_20, gz_21, gz_23, gz_24, gz_25, gz_26, gz_27, gz_28, gz_29, gz_30, gz_32, gz_34, gz_35, gz_41, gz_42, gz_43, gz_44, gz_45, hl_v_none, hl_v_ite, hl_d_none, hl_d_ite, hl_3_none, hl_3_ite, hl_4_none, hl_4_ite, hl_5_none, hl_5_ite, hl_v_some, hl_d_some, hl_3_some, hl_4_some, hl_5_some, hl_v_bv, hl_d_bv, hl_3_bv, hl_4_bv, hl_5_bv, hl_bv, hl_v_bd, hl_d_bd, hl_3_bd, hl_4_bd, hl_5_bd, hl_bd, hl_v_b3, hl_d_b3, hl_3_b3, hl_4_b3, hl_5_b3, hl_b3, hl_v_b4, hl_d_b4, hl_3_b4, hl_4_b4, hl_5_b4, hl_b4, hl_v_b5, hl_d_b5, hl_3_b5, hl_4_b5, hl_5_b5, hl_b5, hs_bv_i, hm_bv_i, hR, tX12_isKind R hR, tX12_size R hR, tX12_wrong R hR, tlX12_instructions_10 R hR, hrec, tjX12_instructions_231 R hR rec rec2 hrec, tjX12_instructions_229 R hR rec rec2 hrec, tjX12_instructions_228 R hR rec rec2 hrec, tjX12_instructions_213 R hR rec rec2 hrec, tjX12_instructions_183 R hR rec rec2 hrec, tjX12_instructions_181 R hR rec rec2 hrec]
  all_goals rfl
set_option maxHeartbeats 4000000 in
theorem tjX12_instructions_157 (R : Nat → Nat → Nat) (hR : R 285 = hm_R) (rec : Int32 → hs_S → Option (Nat × Int32 × hs_S)) (rec2 : Int32 → hm → Option (Nat × Int32 × hm)) (hrec : ∀ (y0 : Int32) (g : hm), rec y0 (gm g R) = hl_3 R (rec2 y0 g)) (v1 : Int32) (v2 : Int32) (v3 : Int32) (v4 : Int32) (v5 : Int32) (v6 : Int32) (v7 : Int32) (v8 : Int32) (g : hm) : jX12_instructions_157 rec 285 v1 v2 v3 v4 v5 v6 v7 v8 (gm g R) = hl_3 R (njX12_instructions_157 rec2 v1 v2 v3 v4 v5 v6 v7 v8 g) := by
  unfold jX12_instructions_157 njX12_instructions_157
  simp only [gm_I, gm_R, gm_w, gm_kd, gm_ln, not_false_eq_true, if_true, ite_true, gk_285, gk_286, gk_287, gk_288, gk_289, gk_290, gk_291, gk_292, gk_293, gk_294, gk_295, gk_296, gk_297, gk_298, gk_299, gk_300, gk_301, gk_302, gk_303, gk_304, gk_305, gk_306, gk_307, gk_308, gk_309, gk_310, gk_311, gk_312, gk_313, gk_314, gk_315, gk_316, gk_317, gk_318, gk_319, gn_286, gn_287, gn_288, gn_289, gn_290, gn_291, gn_292, gn_293, gn_294, gn_295, gn_296, gn_297, gn_298, gn_299, gn_300, gn_301, gn_302, gn_303, gn_304, gn_305, gn_306, gn_307, gn_308, gn_309, gn_310, gn_311, gn_312, gn_313, gn_314, gn_315, gn_316, gn_317, gn_318, gn_319, gr_1, gr_5, gr_6, gr_7, gr_8, gr_9, gr_10, gr_11, gr_12, gr_13, gr_14, gr_15, gr_16, gr_17, gr_18, gr_19, gr_20, gr_21, gr_23, gr_24, gr_25, gr_26, gr_27, gr_28, gr_29, gr_30, gr_32, gr_34, gr_35, gr_41, gr_42, gr_43, gr_44, gr_45, gz_1, gz_5, gz_6, gz_7, gz_8, gz_9, gz_10, gz_11, gz_12, gz_13, gz_14, gz_15, gz_16, gz_17, gz_18, gz_19, gz_20, gz_21, gz_23, gz_24, gz_25, gz_26, gz_27, gz_28, gz_29, gz_30, gz_32, gz_34, gz_35, gz_41, gz_42, gz_43, gz_44, gz_45, hl_v_none, hl_v_ite, hl_d_none, hl_d_ite, hl_3_none, hl_3_ite, hl_4_none, hl_4_ite, hl_5_none, hl_5_ite, hl_v_some, hl_d_some, hl_3_some, hl_4_some, hl_5_some, hl_v_bv, hl_d_bv, hl_3_bv, hl_4_bv, hl_5_bv, hl_bv, hl_v_bd, hl_d_bd, hl_3_bd, hl_4_bd, hl_5_bd, hl_bd, hl_v_b3, hl_d_b3, hl_3_b3, hl_4_b3, hl_5_b3, hl_b3, hl_v_b4, hl_d_b4, hl_3_b4, hl_4_b4, hl_5_b4, hl_b4, hl_v_b5, hl_d_b5, hl_3_b5, hl_4_b5, hl_5_b5, hl_b5, hs_bv_i, hm_bv_i, hR, tX12_isKind R hR, tX12_size R hR, tX12_wrong R hR, tlX12_instructions_10 R hR, hrec, tjX12_instructions_231 R hR rec rec2 hrec, tjX12_instructions_229 R hR rec rec2 hrec, tjX12_instructions_228 R hR rec rec2 hrec, tjX12_instructions_213 R hR rec rec2 hrec, tjX12_instructions_183 R hR rec rec2 hrec, tjX12_instructions_181 R hR rec rec2 hrec, tjX12_instructions_180 R hR rec rec2 hrec]
  all_goals rfl
set_option maxHeartbeats 4000000 in
theorem tjX12_instructions_155 (R : Nat → Nat → Nat) (hR : R 285 = hm_R) (rec : Int32 → hs_S → Option (Nat × Int32 × hs_S)) (rec2 : Int32 → hm → Option (Nat × Int32 × hm)) (hrec : ∀ (y0 : Int32) (g : hm), rec y0 (gm g R) = hl_3 R (rec2 y0 g)) (v1 : Int32) (v2 : Int32) (v3 : Int32) (v4 : Int32) (v5 : Int32) (v6 : Int32) (v8 : Int32) (s0 : Int32) (g : hm) : jX12_instructions_155 rec 285 v1 v2 v3 v4 v5 v6 v8 s0 (gm g R) = hl_3 R (njX12_instructions_155 rec2 v1 v2 v3 v4 v5 v6 v8 s0 g) := by
  unfold jX12_instructions_155 njX12_instructions_155
  simp only [gm_I, gm_R, gm_w, gm_kd, gm_ln, not_false_eq_true, if_true, ite_true, gk_285, gk_286, gk_287, gk_288, gk_289, gk_290, gk_291, gk_292, gk_293, gk_294, gk_295, gk_296, gk_297, gk_298, gk_299, gk_300, gk_301, gk_302, gk_303, gk_304, gk_305, gk_306, gk_307, gk_308, gk_309, gk_310, gk_311, gk_312, gk_313, gk_314, gk_315, gk_316, gk_317, gk_318, gk_319, gn_286, gn_287, gn_288, gn_289, gn_290, gn_291, gn_292, gn_293, gn_294, gn_295, gn_296, gn_297, gn_298, gn_299, gn_300, gn_301, gn_302, gn_303, gn_304, gn_305, gn_306, gn_307, gn_308, gn_309, gn_310, gn_311, gn_312, gn_313, gn_314, gn_315, gn_316, gn_317, gn_318, gn_319, gr_1, gr_5, gr_6, gr_7, gr_8, gr_9, gr_10, gr_11, gr_12, gr_13, gr_14, gr_15, gr_16, gr_17, gr_18, gr_19, gr_20, gr_21, gr_23, gr_24, gr_25, gr_26, gr_27, gr_28, gr_29, gr_30, gr_32, gr_34, gr_35, gr_41, gr_42, gr_43, gr_44, gr_45, gz_1, gz_5, gz_6, gz_7, gz_8, gz_9, gz_10, gz_11, gz_12, gz_13, gz_14, gz_15, gz_16, gz_17, gz_18, gz_19, gz_20, gz_21, gz_23, gz_24, gz_25, gz_26, gz_27, gz_28, gz_29, gz_30, gz_32, gz_34, gz_35, gz_41, gz_42, gz_43, gz_44, gz_45, hl_v_none, hl_v_ite, hl_d_none, hl_d_ite, hl_3_none, hl_3_ite, hl_4_none, hl_4_ite, hl_5_none, hl_5_ite, hl_v_some, hl_d_some, hl_3_some, hl_4_some, hl_5_some, hl_v_bv, hl_d_bv, hl_3_bv, hl_4_bv, hl_5_bv, hl_bv, hl_v_bd, hl_d_bd, hl_3_bd, hl_4_bd, hl_5_bd, hl_bd, hl_v_b3, hl_d_b3, hl_3_b3, hl_4_b3, hl_5_b3, hl_b3, hl_v_b4, hl_d_b4, hl_3_b4, hl_4_b4, hl_5_b4, hl_b4, hl_v_b5, hl_d_b5, hl_3_b5, hl_4_b5, hl_5_b5, hl_b5, hs_bv_i, hm_bv_i, hR, tX12_isKind R hR, tX12_size R hR, tX12_wrong R hR, tlX12_instructions_10 R hR, hrec, tjX12_instructions_231 R hR rec rec2 hrec, tjX12_instructions_229 R hR rec rec2 hrec, tjX12_instructions_228 R hR rec rec2 hrec, tjX12_instructions_213 R hR rec rec2 hrec, tjX12_instructions_183 R hR rec rec2 hrec, tjX12_instructions_181 R hR rec rec2 hrec, tjX12_instructions_180 R hR rec rec2 hrec, tjX12_instructions_157 R hR rec rec2 hrec]
  all_goals rfl
set_option maxHeartbeats 4000000 in
theorem tjX12_instructions_154 (R : Nat → Nat → Nat) (hR : R 285 = hm_R) (rec : Int32 → hs_S → Option (Nat × Int32 × hs_S)) (rec2 : Int32 → hm → Option (Nat × Int32 × hm)) (hrec : ∀ (y0 : Int32) (g : hm), rec y0 (gm g R) = hl_3 R (rec2 y0 g)) (v1 : Int32) (v2 : Int32) (v3 : Int32) (v4 : Int32) (v5 : Int32) (v6 : Int32) (v8 : Int32) (g : hm) : jX12_instructions_154 rec 285 v1 v2 v3 v4 v5 v6 v8 (gm g R) = hl_3 R (njX12_instructions_154 rec2 v1 v2 v3 v4 v5 v6 v8 g) := by
  unfold jX12_instructions_154 njX12_instructions_154
  simp only [gm_I, gm_R, gm_w, gm_kd, gm_ln, not_false_eq_true, if_true, ite_true, gk_285, gk_286, gk_287, gk_288, gk_289, gk_290, gk_291, gk_292, gk_293, gk_294, gk_295, gk_296, gk_297, gk_298, gk_299, gk_300, gk_301, gk_302, gk_303, gk_304, gk_305, gk_306, gk_307, gk_308, gk_309, gk_310, gk_311, gk_312, gk_313, gk_314, gk_315, gk_316, gk_317, gk_318, gk_319, gn_286, gn_287, gn_288, gn_289, gn_290, gn_291, gn_292, gn_293, gn_294, gn_295, gn_296, gn_297, gn_298, gn_299, gn_300, gn_301, gn_302, gn_303, gn_304, gn_305, gn_306, gn_307, gn_308, gn_309, gn_310, gn_311, gn_312, gn_313, gn_314, gn_315, gn_316, gn_317, gn_318, gn_319, gr_1, gr_5, gr_6, gr_7, gr_8, gr_9, gr_10, gr_11, gr_12, gr_13, gr_14, gr_15, gr_16, gr_17, gr_18, gr_19, gr_20, gr_21, gr_23, gr_24, gr_25, gr_26, gr_27, gr_28, gr_29, gr_30, gr_32, gr_34, gr_35, gr_41, gr_42, gr_43, gr_44, gr_45, gz_1, gz_5, gz_6, gz_7, gz_8, gz_9, gz_10, gz_11, gz_12, gz_13, gz_14, gz_15, gz_16, gz_17, gz_18, gz_19, gz_20, gz_21, gz_23, gz_24, gz_25, gz_26, gz_27, gz_28, gz_29, gz_30, gz_32, gz_34, gz_35, gz_41, gz_42, gz_43, gz_44, gz_45, hl_v_none, hl_v_ite, hl_d_none, hl_d_ite, hl_3_none, hl_3_ite, hl_4_none, hl_4_ite, hl_5_none, hl_5_ite, hl_v_some, hl_d_some, hl_3_some, hl_4_some, hl_5_some, hl_v_bv, hl_d_bv, hl_3_bv, hl_4_bv, hl_5_bv, hl_bv, hl_v_bd, hl_d_bd, hl_3_bd, hl_4_bd, hl_5_bd, hl_bd, hl_v_b3, hl_d_b3, hl_3_b3, hl_4_b3, hl_5_b3, hl_b3, hl_v_b4, hl_d_b4, hl_3_b4, hl_4_b4, hl_5_b4, hl_b4, hl_v_b5, hl_d_b5, hl_3_b5, hl_4_b5, hl_5_b5, hl_b5, hs_bv_i, hm_bv_i, hR, tX12_isKind R hR, tX12_size R hR, tX12_wrong R hR, tlX12_instructions_10 R hR, hrec, tjX12_instructions_231 R hR rec rec2 hrec, tjX12_instructions_229 R hR rec rec2 hrec, tjX12_instructions_228 R hR rec rec2 hrec, tjX12_instructions_213 R hR rec rec2 hrec, tjX12_instructions_183 R hR rec rec2 hrec, tjX12_instructions_181 R hR rec rec2 hrec, tjX12_instructions_180 R hR rec rec2 hrec, tjX12_instructions_157 R hR rec rec2 hrec, tjX12_instructions_155 R hR rec rec2 hrec]
  all_goals rfl
set_option maxHeartbeats 4000000 in
theorem tjX12_instructions_134 (R : Nat → Nat → Nat) (hR : R 285 = hm_R) (rec : Int32 → hs_S → Option (Nat × Int32 × hs_S)) (rec2 : Int32 → hm → Option (Nat × Int32 × hm)) (hrec : ∀ (y0 : Int32) (g : hm), rec y0 (gm g R) = hl_3 R (rec2 y0 g)) (v1 : Int32) (v2 : Int32) (v3 : Int32) (v4 : Int32) (v5 : Int32) (v6 : Int32) (v7 : Int32) (v8 : Int32) (g : hm) : jX12_instructions_134 rec 285 v1 v2 v3 v4 v5 v6 v7 v8 (gm g R) = hl_3 R (njX12_instructions_134 rec2 v1 v2 v3 v4 v5 v6 v7 v8 g) := by
  unfold jX12_instructions_134 njX12_instructions_134
  simp only [gm_I, gm_R, gm_w, gm_kd, gm_ln, not_false_eq_true, if_true, ite_true, gk_285, gk_286, gk_287, gk_288, gk_289, gk_290, gk_291, gk_292, gk_293, gk_294, gk_295, gk_296, gk_297, gk_298, gk_299, gk_300, gk_301, gk_302, gk_303, gk_304, gk_305, gk_306, gk_307, gk_308, gk_309, gk_310, gk_311, gk_312, gk_313, gk_314, gk_315, gk_316, gk_317, gk_318, gk_319, gn_286, gn_287, gn_288, gn_289, gn_290, gn_291, gn_292, gn_293, gn_294, gn_295, gn_296, gn_297, gn_298, gn_299, gn_300, gn_301, gn_302, gn_303, gn_304, gn_305, gn_306, gn_307, gn_308, gn_309, gn_310, gn_311, gn_312, gn_313, gn_314, gn_315, gn_316, gn_317, gn_318, gn_319, gr_1, gr_5, gr_6, gr_7, gr_8, gr_9, gr_10, gr_11, gr_12, gr_13, gr_14, gr_15, gr_16, gr_17, gr_18, gr_19, gr_20, gr_21, gr_23, gr_24, gr_25, gr_26, gr_27, gr_28, gr_29, gr_30, gr_32, gr_34, gr_35, gr_41, gr_42, gr_43, gr_44, gr_45, gz_1, gz_5, gz_6, gz_7, gz_8, gz_9, gz_10, gz_11, gz_12, gz_13, gz_14, gz_15, gz_16, gz_17, gz_18, gz_19, gz_20, gz_21, gz_23, gz_24, gz_25, gz_26, gz_27, gz_28, gz_29, gz_30, gz_32, gz_34, gz_35, gz_41, gz_42, gz_43, gz_44, gz_45, hl_v_none, hl_v_ite, hl_d_none, hl_d_ite, hl_3_none, hl_3_ite, hl_4_none, hl_4_ite, hl_5_none, hl_5_ite, hl_v_some, hl_d_some, hl_3_some, hl_4_some, hl_5_some, hl_v_bv, hl_d_bv, hl_3_bv, hl_4_bv, hl_5_bv, hl_bv, hl_v_bd, hl_d_bd, hl_3_bd, hl_4_bd, hl_5_bd, hl_bd, hl_v_b3, hl_d_b3, hl_3_b3, hl_4_b3, hl_5_b3, hl_b3, hl_v_b4, hl_d_b4, hl_3_b4, hl_4_b4, hl_5_b4, hl_b4, hl_v_b5, hl_d_b5, hl_3_b5, hl_4_b5, hl_5_b5, hl_b5, hs_bv_i, hm_bv_i, hR, tX12_isKind R hR, tX12_size R hR, tX12_wrong R hR, tlX12_instructions_10 R hR, hrec, tjX12_instructions_231 R hR rec rec2 hrec, tjX12_instructions_229 R hR rec rec2 hrec, tjX12_instructions_228 R hR rec rec2 hrec, tjX12_instructions_213 R hR rec rec2 hrec, tjX12_instructions_183 R hR rec rec2 hrec, tjX12_instructions_181 R hR rec rec2 hrec, tjX12_instructions_180 R hR rec rec2 hrec, tjX12_instructions_157 R hR rec rec2 hrec, tjX12_instructions_155 R hR rec rec2 hrec, tjX12_instructions_154 R hR rec rec2 hrec]
  all_goals rfl
set_option maxHeartbeats 4000000 in
theorem tjX12_instructions_118 (R : Nat → Nat → Nat) (hR : R 285 = hm_R) (rec : Int32 → hs_S → Option (Nat × Int32 × hs_S)) (rec2 : Int32 → hm → Option (Nat × Int32 × hm)) (hrec : ∀ (y0 : Int32) (g : hm), rec y0 (gm g R) = hl_3 R (rec2 y0 g)) (v1 : Int32) (v2 : Int32) (v3 : Int32) (v4 : Int32) (v5 : Int32) (v6 : Int32) (v7 : Int32) (s0 : Int32) (g : hm) : jX12_instructions_118 rec 285 v1 v2 v3 v4 v5 v6 v7 s0 (gm g R) = hl_3 R (njX12_instructions_118 rec2 v1 v2 v3 v4 v5 v6 v7 s0 g) := by
  unfold jX12_instructions_118 njX12_instructions_118
  simp only [gm_I, gm_R, gm_w, gm_kd, gm_ln, not_false_eq_true, if_true, ite_true, gk_285, gk_286, gk_287, gk_288, gk_289, gk_290, gk_291, gk_292, gk_293, gk_294, gk_295, gk_296, gk_297, gk_298, gk_299, gk_300, gk_301, gk_302, gk_303, gk_304, gk_305, gk_306, gk_307, gk_308, gk_309, gk_310, gk_311, gk_312, gk_313, gk_314, gk_315, gk_316, gk_317, gk_318, gk_319, gn_286, gn_287, gn_288, gn_289, gn_290, gn_291, gn_292, gn_293, gn_294, gn_295, gn_296, gn_297, gn_298, gn_299, gn_300, gn_301, gn_302, gn_303, gn_304, gn_305, gn_306, gn_307, gn_308, gn_309, gn_310, gn_311, gn_312, gn_313, gn_314, gn_315, gn_316, gn_317, gn_318, gn_319, gr_1, gr_5, gr_6, gr_7, gr_8, gr_9, gr_10, gr_11, gr_12, gr_13, gr_14, gr_15, gr_16, gr_17, gr_18, gr_19, gr_20, gr_21, gr_23, gr_24, gr_25, gr_26, gr_27, gr_28, gr_29, gr_30, gr_32, gr_34, gr_35, gr_41, gr_42, gr_43, gr_44, gr_45, gz_1, gz_5, gz_6, gz_7, gz_8, gz_9, gz_10, gz_11, gz_12, gz_13, gz_14, gz_15, gz_16, gz_17, gz_18, gz_19, gz_20, gz_21, gz_23, gz_24, gz_25, gz_26, gz_27, gz_28, gz_29, gz_30, gz_32, gz_34, gz_35, gz_41, gz_42, gz_43, gz_44, gz_45, hl_v_none, hl_v_ite, hl_d_none, hl_d_ite, hl_3_none, hl_3_ite, hl_4_none, hl_4_ite, hl_5_none, hl_5_ite, hl_v_some, hl_d_some, hl_3_some, hl_4_some, hl_5_some, hl_v_bv, hl_d_bv, hl_3_bv, hl_4_bv, hl_5_bv, hl_bv, hl_v_bd, hl_d_bd, hl_3_bd, hl_4_bd, hl_5_bd, hl_bd, hl_v_b3, hl_d_b3, hl_3_b3, hl_4_b3, hl_5_b3, hl_b3, hl_v_b4, hl_d_b4, hl_3_b4, hl_4_b4, hl_5_b4, hl_b4, hl_v_b5, hl_d_b5, hl_3_b5, hl_4_b5, hl_5_b5, hl_b5, hs_bv_i, hm_bv_i, hR, tX12_isKind R hR, tX12_size R hR, tX12_wrong R hR, tlX12_instructions_10 R hR, hrec, tjX12_instructions_231 R hR rec rec2 hrec, tjX12_instructions_229 R hR rec rec2 hrec, tjX12_instructions_228 R hR rec rec2 hrec, tjX12_instructions_213 R hR rec rec2 hrec, tjX12_instructions_183 R hR rec rec2 hrec, tjX12_instructions_181 R hR rec rec2 hrec, tjX12_instructions_180 R hR rec rec2 hrec, tjX12_instructions_157 R hR rec rec2 hrec, tjX12_instructions_155 R hR rec rec2 hrec, tjX12_instructions_154 R hR rec rec2 hrec, tjX12_instructions_134 R hR rec rec2 hrec]
  all_goals rfl
set_option maxHeartbeats 4000000 in
theorem tjX12_instructions_117 (R : Nat → Nat → Nat) (hR : R 285 = hm_R) (rec : Int32 → hs_S → Option (Nat × Int32 × hs_S)) (rec2 : Int32 → hm → Option (Nat × Int32 × hm)) (hrec : ∀ (y0 : Int32) (g : hm), rec y0 (gm g R) = hl_3 R (rec2 y0 g)) (v1 : Int32) (v2 : Int32) (v3 : Int32) (v4 : Int32) (v5 : Int32) (v6 : Int32) (v7 : Int32) (g : hm) : jX12_instructions_117 rec 285 v1 v2 v3 v4 v5 v6 v7 (gm g R) = hl_3 R (njX12_instructions_117 rec2 v1 v2 v3 v4 v5 v6 v7 g) := by
  unfold jX12_instructions_117 njX12_instructions_117
  simp only [gm_I, gm_R, gm_w, gm_kd, gm_ln, not_false_eq_true, if_true, ite_true, gk_285, gk_286, gk_287, gk_288, gk_289, gk_290, gk_291, gk_292, gk_293, gk_294, gk_295, gk_296, gk_297, gk_298, gk_299, gk_300, gk_301, gk_302, gk_303, gk_304, gk_305, gk_306, gk_307, gk_308, gk_309, gk_310, gk_311, gk_312, gk_313, gk_314, gk_315, gk_316, gk_317, gk_318, gk_319, gn_286, gn_287, gn_288, gn_289, gn_290, gn_291, gn_292, gn_293, gn_294, gn_295, gn_296, gn_297, gn_298, gn_299, gn_300, gn_301, gn_302, gn_303, gn_304, gn_305, gn_306, gn_307, gn_308, gn_309, gn_310, gn_311, gn_312, gn_313, gn_314, gn_315, gn_316, gn_317, gn_318, gn_319, gr_1, gr_5, gr_6, gr_7, gr_8, gr_9, gr_10, gr_11, gr_12, gr_13, gr_14, gr_15, gr_16, gr_17, gr_18, gr_19, gr_20, gr_21, gr_23, gr_24, gr_25, gr_26, gr_27, gr_28, gr_29, gr_30, gr_32, gr_34, gr_35, gr_41, gr_42, gr_43, gr_44, gr_45, gz_1, gz_5, gz_6, gz_7, gz_8, gz_9, gz_10, gz_11, gz_12, gz_13, gz_14, gz_15, gz_16, gz_17, gz_18, gz_19, gz_20, gz_21, gz_23, gz_24, gz_25, gz_26, gz_27, gz_28, gz_29, gz_30, gz_32, gz_34, gz_35, gz_41, gz_42, gz_43, gz_44, gz_45, hl_v_none, hl_v_ite, hl_d_none, hl_d_ite, hl_3_none, hl_3_ite, hl_4_none, hl_4_ite, hl_5_none, hl_5_ite, hl_v_some, hl_d_some, hl_3_some, hl_4_some, hl_5_some, hl_v_bv, hl_d_bv, hl_3_bv, hl_4_bv, hl_5_bv, hl_bv, hl_v_bd, hl_d_bd, hl_3_bd, hl_4_bd, hl_5_bd, hl_bd, hl_v_b3, hl_d_b3, hl_3_b3, hl_4_b3, hl_5_b3, hl_b3, hl_v_b4, hl_d_b4, hl_3_b4, hl_4_b4, hl_5_b4, hl_b4, hl_v_b5, hl_d_b5, hl_3_b5, hl_4_b5, hl_5_b5, hl_b5, hs_bv_i, hm_bv_i, hR, tX12_isKind R hR, tX12_size R hR, tX12_wrong R hR, tlX12_instructions_10 R hR, hrec, tjX12_instructions_231 R hR rec rec2 hrec, tjX12_instructions_229 R hR rec rec2 hrec, tjX12_instructions_228 R hR rec rec2 hrec, tjX12_instructions_213 R hR rec rec2 hrec, tjX12_instructions_183 R hR rec rec2 hrec, tjX12_instructions_181 R hR rec rec2 hrec, tjX12_instructions_180 R hR rec rec2 hrec, tjX12_instructions_157 R hR rec rec2 hrec, tjX12_instructions_155 R hR rec rec2 hrec, tjX12_instructions_154 R hR rec rec2 hrec, tjX12_instructions_134 R hR rec rec2 hrec, tjX12_instructions_118 R hR rec rec2 hrec]
  all_goals rfl
set_option maxHeartbeats 4000000 in
theorem tjX12_instructions_89 (R : Nat → Nat → Nat) (hR : R 285 = hm_R) (rec : Int32 → hs_S → Option (Nat × Int32 × hs_S)) (rec2 : Int32 → hm → Option (Nat × Int32 × hm)) (hrec : ∀ (y0 : Int32) (g : hm), rec y0 (gm g R) = hl_3 R (rec2 y0 g)) (v1 : Int32) (v2 : Int32) (v3 : Int32) (v4 : Int32) (v5 : Int32) (v6 : Int32) (s0 : Int32) (g : hm) : jX12_instructions_89 rec 285 v1 v2 v3 v4 v5 v6 s0 (gm g R) = hl_3 R (njX12_instructions_89 rec2 v1 v2 v3 v4 v5 v6 s0 g) := by
  unfold jX12_instructions_89 njX12_instructions_89
  simp only [gm_I, gm_R, gm_w, gm_kd, gm_ln, not_false_eq_true, if_true, ite_true, gk_285, gk_286, gk_287, gk_288, gk_289, gk_290, gk_291, gk_292, gk_293, gk_294, gk_295, gk_296, gk_297, gk_298, gk_299, gk_300, gk_301, gk_302, gk_303, gk_304, gk_305, gk_306, gk_307, gk_308, gk_309, gk_310, gk_311, gk_312, gk_313, gk_314, gk_315, gk_316, gk_317, gk_318, gk_319, gn_286, gn_287, gn_288, gn_289, gn_290, gn_291, gn_292, gn_293, gn_294, gn_295, gn_296, gn_297, gn_298, gn_299, gn_300, gn_301, gn_302, gn_303, gn_304, gn_305, gn_306, gn_307, gn_308, gn_309, gn_310, gn_311, gn_312, gn_313, gn_314, gn_315, gn_316, gn_317, gn_318, gn_319, gr_1, gr_5, gr_6, gr_7, gr_8, gr_9, gr_10, gr_11, gr_12, gr_13, gr_14, gr_15, gr_16, gr_17, gr_18, gr_19, gr_20, gr_21, gr_23, gr_24, gr_25, gr_26, gr_27, gr_28, gr_29, gr_30, gr_32, gr_34, gr_35, gr_41, gr_42, gr_43, gr_44, gr_45, gz_1, gz_5, gz_6, gz_7, gz_8, gz_9, gz_10, gz_11, gz_12, gz_13, gz_14, gz_15, gz_16, gz_17, gz_18, gz_19, gz_20, gz_21, gz_23, gz_24, gz_25, gz_26, gz_27, gz_28, gz_29, gz_30, gz_32, gz_34, gz_35, gz_41, gz_42, gz_43, gz_44, gz_45, hl_v_none, hl_v_ite, hl_d_none, hl_d_ite, hl_3_none, hl_3_ite, hl_4_none, hl_4_ite, hl_5_none, hl_5_ite, hl_v_some, hl_d_some, hl_3_some, hl_4_some, hl_5_some, hl_v_bv, hl_d_bv, hl_3_bv, hl_4_bv, hl_5_bv, hl_bv, hl_v_bd, hl_d_bd, hl_3_bd, hl_4_bd, hl_5_bd, hl_bd, hl_v_b3, hl_d_b3, hl_3_b3, hl_4_b3, hl_5_b3, hl_b3, hl_v_b4, hl_d_b4, hl_3_b4, hl_4_b4, hl_5_b4, hl_b4, hl_v_b5, hl_d_b5, hl_3_b5, hl_4_b5, hl_5_b5, hl_b5, hs_bv_i, hm_bv_i, hR, tX12_isKind R hR, tX12_size R hR, tX12_wrong R hR, tlX12_instructions_10 R hR, hrec, tjX12_instructions_231 R hR rec rec2 hrec, tjX12_instructions_229 R hR rec rec2 hrec, tjX12_instructions_228 R hR rec rec2 hrec, tjX12_instructions_213 R hR rec rec2 hrec, tjX12_instructions_183 R hR rec rec2 hrec, tjX12_instructions_181 R hR rec rec2 hrec, tjX12_instructions_180 R hR rec rec2 hrec, tjX12_instructions_157 R hR rec rec2 hrec, tjX12_instructions_155 R hR rec rec2 hrec, tjX12_instructions_154 R hR rec rec2 hrec, tjX12_instructions_134 R hR rec rec2 hrec, tjX12_instructions_118 R hR rec rec2 hrec, tjX12_instructions_117 R hR rec rec2 hrec]
  all_goals rfl
set_option maxHeartbeats 4000000 in
theorem tjX12_instructions_88 (R : Nat → Nat → Nat) (hR : R 285 = hm_R) (rec : Int32 → hs_S → Option (Nat × Int32 × hs_S)) (rec2 : Int32 → hm → Option (Nat × Int32 × hm)) (hrec : ∀ (y0 : Int32) (g : hm), rec y0 (gm g R) = hl_3 R (rec2 y0 g)) (v1 : Int32) (v2 : Int32) (v3 : Int32) (v4 : Int32) (v5 : Int32) (v6 : Int32) (g : hm) : jX12_instructions_88 rec 285 v1 v2 v3 v4 v5 v6 (gm g R) = hl_3 R (njX12_instructions_88 rec2 v1 v2 v3 v4 v5 v6 g) := by
  unfold jX12_instructions_88 njX12_instructions_88
  simp only [gm_I, gm_R, gm_w, gm_kd, gm_ln, not_false_eq_true, if_true, ite_true, gk_285, gk_286, gk_287, gk_288, gk_289, gk_290, gk_291, gk_292, gk_293, gk_294, gk_295, gk_296, gk_297, gk_298, gk_299, gk_300, gk_301, gk_302, gk_303, gk_304, gk_305, gk_306, gk_307, gk_308, gk_309, gk_310, gk_311, gk_312, gk_313, gk_314, gk_315, gk_316, gk_317, gk_318, gk_319, gn_286, gn_287, gn_288, gn_289, gn_290, gn_291, gn_292, gn_293, gn_294, gn_295, gn_296, gn_297, gn_298, gn_299, gn_300, gn_301, gn_302, gn_303, gn_304, gn_305, gn_306, gn_307, gn_308, gn_309, gn_310, gn_311, gn_312, gn_313, gn_314, gn_315, gn_316, gn_317, gn_318, gn_319, gr_1, gr_5, gr_6, gr_7, gr_8, gr_9, gr_10, gr_11, gr_12, gr_13, gr_14, gr_15, gr_16, gr_17, gr_18, gr_19, gr_20, gr_21, gr_23, gr_24, gr_25, gr_26, gr_27, gr_28, gr_29, gr_30, gr_32, gr_34, gr_35, gr_41, gr_42, gr_43, gr_44, gr_45, gz_1, gz_5, gz_6, gz_7, gz_8, gz_9, gz_10, gz_11, gz_12, gz_13, gz_14, gz_15, gz_16, gz_17, gz_18, gz_19, gz_20, gz_21, gz_23, gz_24, gz_25, gz_26, gz_27, gz_28, gz_29, gz_30, gz_32, gz_34, gz_35, gz_41, gz_42, gz_43, gz_44, gz_45, hl_v_none, hl_v_ite, hl_d_none, hl_d_ite, hl_3_none, hl_3_ite, hl_4_none, hl_4_ite, hl_5_none, hl_5_ite, hl_v_some, hl_d_some, hl_3_some, hl_4_some, hl_5_some, hl_v_bv, hl_d_bv, hl_3_bv, hl_4_bv, hl_5_bv, hl_bv, hl_v_bd, hl_d_bd, hl_3_bd, hl_4_bd, hl_5_bd, hl_bd, hl_v_b3, hl_d_b3, hl_3_b3, hl_4_b3, hl_5_b3, hl_b3, hl_v_b4, hl_d_b4, hl_3_b4, hl_4_b4, hl_5_b4, hl_b4, hl_v_b5, hl_d_b5, hl_3_b5, hl_4_b5, hl_5_b5, hl_b5, hs_bv_i, hm_bv_i, hR, tX12_isKind R hR, tX12_size R hR, tX12_wrong R hR, tlX12_instructions_10 R hR, hrec, tjX12_instructions_231 R hR rec rec2 hrec, tjX12_instructions_229 R hR rec rec2 hrec, tjX12_instructions_228 R hR rec rec2 hrec, tjX12_instructions_213 R hR rec rec2 hrec, tjX12_instructions_183 R hR rec rec2 hrec, tjX12_instructions_181 R hR rec rec2 hrec, tjX12_instructions_180 R hR rec rec2 hrec, tjX12_instructions_157 R hR rec rec2 hrec, tjX12_instructions_155 R hR rec rec2 hrec, tjX12_instructions_154 R hR rec rec2 hrec, tjX12_instructions_134 R hR rec rec2 hrec, tjX12_instructions_118 R hR rec rec2 hrec, tjX12_instructions_117 R hR rec rec2 hrec, tjX12_instructions_89 R hR rec rec2 hrec]
  all_goals rfl
set_option maxHeartbeats 4000000 in
theorem tlX12_instructions_39 (R : Nat → Nat → Nat) (hR : R 285 = hm_R) : ∀ (n : Nat) (v1 : Int32) (v2 : Int32) (v3 : Int32) (v4 : Int32) (g : hm), lX12_instructions_39 n 285 v1 v2 v3 v4 (gm g R) = hl_3 R (nlX12_instructions_39 n v1 v2 v3 v4 g) := by
  intro n
  induction n with
  | zero => intros; rfl
  | succ n ih =>
    intro v1 v2 v3 v4 g
    rw [lX12_instructions_39_s, nlX12_instructions_39_s]
    simp only [gm_I, gm_R, gm_w, gm_kd, gm_ln, not_false_eq_true, if_true, ite_true, gk_285, gk_286, gk_287, gk_288, gk_289, gk_290, gk_291, gk_292, gk_293, gk_294, gk_295, gk_296, gk_297, gk_298, gk_299, gk_300, gk_301, gk_302, gk_303, gk_304, gk_305, gk_306, gk_307, gk_308, gk_309, gk_310, gk_311, gk_312, gk_313, gk_314, gk_315, gk_316, gk_317, gk_318, gk_319, gn_286, gn_287, gn_288, gn_289, gn_290, gn_291, gn_292, gn_293, gn_294, gn_295, gn_296, gn_297, gn_298, gn_299, gn_300, gn_301, gn_302, gn_303, gn_304, gn_305, gn_306, gn_307, gn_308, gn_309, gn_310, gn_311, gn_312, gn_313, gn_314, gn_315, gn_316, gn_317, gn_318, gn_319, gr_1, gr_5, gr_6, gr_7, gr_8, gr_9, gr_10, gr_11, gr_12, gr_13, gr_14, gr_15, gr_16, gr_17, gr_18, gr_19, gr_20, gr_21, gr_23, gr_24, gr_25, gr_26, gr_27, gr_28, gr_29, gr_30, gr_32, gr_34, gr_35, gr_41, gr_42, gr_43, gr_44, gr_45, gz_1, gz_5, gz_6, gz_7, gz_8, gz_9, gz_10, gz_11, gz_12, gz_13, gz_14, gz_15, gz_16, gz_17, gz_18, gz_19, gz_20, gz_21, gz_23, gz_24, gz_25, gz_26, gz_27, gz_28, gz_29, gz_30, gz_32, gz_34, gz_35, gz_41, gz_42, gz_43, gz_44, gz_45, hl_v_none, hl_v_ite, hl_d_none, hl_d_ite, hl_3_none, hl_3_ite, hl_4_none, hl_4_ite, hl_5_none, hl_5_ite, hl_v_some, hl_d_some, hl_3_some, hl_4_some, hl_5_some, hl_v_bv, hl_d_bv, hl_3_bv, hl_4_bv, hl_5_bv, hl_bv, hl_v_bd, hl_d_bd, hl_3_bd, hl_4_bd, hl_5_bd, hl_bd, hl_v_b3, hl_d_b3, hl_3_b3, hl_4_b3, hl_5_b3, hl_b3, hl_v_b4, hl_d_b4, hl_3_b4, hl_4_b4, hl_5_b4, hl_b4, hl_v_b5, hl_d_b5, hl_3_b5, hl_4_b5, hl_5_b5, hl_b5, hs_bv_i, hm_bv_i, hR, tX12_isKind R hR, tX12_size R hR, tX12_wrong R hR, tlX12_instructions_10 R hR, ih, tjX12_instructions_231 R hR _ _ (fun y0 g => ih v1 v2 v3 y0 g), tjX12_instructions_229 R hR _ _ (fun y0 g => ih v1 v2 v3 y0 g), tjX12_instructions_228 R hR _ _ (fun y0 g => ih v1 v2 v3 y0 g), tjX12_instructions_213 R hR _ _ (fun y0 g => ih v1 v2 v3 y0 g), tjX12_instructions_183 R hR _ _ (fun y0 g => ih v1 v2 v3 y0 g), tjX12_instructions_181 R hR _ _ (fun y0 g => ih v1 v2 v3 y0 g), tjX12_instructions_180 R hR _ _ (fun y0 g => ih v1 v2 v3 y0 g), tjX12_instructions_157 R hR _ _ (fun y0 g => ih v1 v2 v3 y0 g), tjX12_instructions_155 R hR _ _ (fun y0 g => ih v1 v2 v3 y0 g), tjX12_instructions_154 R hR _ _ (fun y0 g => ih v1 v2 v3 y0 g), tjX12_instructions_134 R hR _ _ (fun y0 g => ih v1 v2 v3 y0 g), tjX12_instructions_118 R hR _ _ (fun y0 g => ih v1 v2 v3 y0 g), tjX12_instructions_117 R hR _ _ (fun y0 g => ih v1 v2 v3 y0 g), tjX12_instructions_89 R hR _ _ (fun y0 g => ih v1 v2 v3 y0 g), tjX12_instructions_88 R hR _ _ (fun y0 g => ih v1 v2 v3 y0 g)]
    all_goals rfl
set_option maxHeartbeats 4000000 in
theorem tX12_instructions (R : Nat → Nat → Nat) (hR : R 285 = hm_R) (v1 : Int32) (v2 : Int32) (g : hm) : fX12_instructions 285 v1 v2 (gm g R) = hl_d R (nX12_instructions v1 v2 g) := by
  unfold fX12_instructions nX12_instructions
  simp only [gm_I, gm_R, gm_w, gm_kd, gm_ln, not_false_eq_true, if_true, ite_true, gk_285, gk_286, gk_287, gk_288, gk_289, gk_290, gk_291, gk_292, gk_293, gk_294, gk_295, gk_296, gk_297, gk_298, gk_299, gk_300, gk_301, gk_302, gk_303, gk_304, gk_305, gk_306, gk_307, gk_308, gk_309, gk_310, gk_311, gk_312, gk_313, gk_314, gk_315, gk_316, gk_317, gk_318, gk_319, gn_286, gn_287, gn_288, gn_289, gn_290, gn_291, gn_292, gn_293, gn_294, gn_295, gn_296, gn_297, gn_298, gn_299, gn_300, gn_301, gn_302, gn_303, gn_304, gn_305, gn_306, gn_307, gn_308, gn_309, gn_310, gn_311, gn_312, gn_313, gn_314, gn_315, gn_316, gn_317, gn_318, gn_319, gr_1, gr_5, gr_6, gr_7, gr_8, gr_9, gr_10, gr_11, gr_12, gr_13, gr_14, gr_15, gr_16, gr_17, gr_18, gr_19, gr_20, gr_21, gr_23, gr_24, gr_25, gr_26, gr_27, gr_28, gr_29, gr_30, gr_32, gr_34, gr_35, gr_41, gr_42, gr_43, gr_44, gr_45, gz_1, gz_5, gz_6, gz_7, gz_8, gz_9, gz_10, gz_11, gz_12, gz_13, gz_14, gz_15, gz_16, gz_17, gz_18, gz_19, gz_20, gz_21, gz_23, gz_24, gz_25, gz_26, gz_27, gz_28, gz_29, gz_30, gz_32, gz_34, gz_35, gz_41, gz_42, gz_43, gz_44, gz_45, hl_v_none, hl_v_ite, hl_d_none, hl_d_ite, hl_3_none, hl_3_ite, hl_4_none, hl_4_ite, hl_5_none, hl_5_ite, hl_v_some, hl_d_some, hl_3_some, hl_4_some, hl_5_some, hl_v_bv, hl_d_bv, hl_3_bv, hl_4_bv, hl_5_bv, hl_bv, hl_v_bd, hl_d_bd, hl_3_bd, hl_4_bd, hl_5_bd, hl_bd, hl_v_b3, hl_d_b3, hl_3_b3, hl_4_b3, hl_5_b3, hl_b3, hl_v_b4, hl_d_b4, hl_3_b4, hl_4_b4, hl_5_b4, hl_b4, hl_v_b5, hl_d_b5, hl_3_b5, hl_4_b5, hl_5_b5, hl_b5, hs_bv_i, hm_bv_i, hR, tX12_isKind R hR, tX12_size R hR, tX12_wrong R hR, tlX12_instructions_10 R hR, tlX12_instructions_39 R hR]
  all_goals rfl
def nX12_isBegin (v1 : Int32) (v2 : Int32) (g : hm) : Option (Int32 × hm) :=
  if v2 < 0 then (
    some ((0 : Int32), g)
  ) else (
    if hs_in v1 8 = true then
    if (g 299 v1.toNatClampNeg) ≤ v2 then (
      some ((0 : Int32), g)
    ) else (
      if hs_in (((2001 : Int32) * v1) + v2) 16008 = true then
      if (g 293 (((2001 : Int32) * v1) + v2).toNatClampNeg) = 0 then (
        some ((0 : Int32), g)
      ) else (
        some ((1 : Int32), g)
      )
      else none
    )
    else none
  )
set_option maxHeartbeats 4000000 in
theorem tX12_isBegin (R : Nat → Nat → Nat) (hR : R 285 = hm_R) (v1 : Int32) (v2 : Int32) (g : hm) : fX12_isBegin 285 v1 v2 (gm g R) = hl_d R (nX12_isBegin v1 v2 g) := by
  unfold fX12_isBegin nX12_isBegin
  simp only [gm_I, gm_R, gm_w, gm_kd, gm_ln, not_false_eq_true, if_true, ite_true, gk_285, gk_286, gk_287, gk_288, gk_289, gk_290, gk_291, gk_292, gk_293, gk_294, gk_295, gk_296, gk_297, gk_298, gk_299, gk_300, gk_301, gk_302, gk_303, gk_304, gk_305, gk_306, gk_307, gk_308, gk_309, gk_310, gk_311, gk_312, gk_313, gk_314, gk_315, gk_316, gk_317, gk_318, gk_319, gn_286, gn_287, gn_288, gn_289, gn_290, gn_291, gn_292, gn_293, gn_294, gn_295, gn_296, gn_297, gn_298, gn_299, gn_300, gn_301, gn_302, gn_303, gn_304, gn_305, gn_306, gn_307, gn_308, gn_309, gn_310, gn_311, gn_312, gn_313, gn_314, gn_315, gn_316, gn_317, gn_318, gn_319, gr_1, gr_5, gr_6, gr_7, gr_8, gr_9, gr_10, gr_11, gr_12, gr_13, gr_14, gr_15, gr_16, gr_17, gr_18, gr_19, gr_20, gr_21, gr_23, gr_24, gr_25, gr_26, gr_27, gr_28, gr_29, gr_30, gr_32, gr_34, gr_35, gr_41, gr_42, gr_43, gr_44, gr_45, gz_1, gz_5, gz_6, gz_7, gz_8, gz_9, gz_10, gz_11, gz_12, gz_13, gz_14, gz_15, gz_16, gz_17, gz_18, gz_19, gz_20, gz_21, gz_23, gz_24, gz_25, gz_26, gz_27, gz_28, gz_29, gz_30, gz_32, gz_34, gz_35, gz_41, gz_42, gz_43, gz_44, gz_45, hl_v_none, hl_v_ite, hl_d_none, hl_d_ite, hl_3_none, hl_3_ite, hl_4_none, hl_4_ite, hl_5_none, hl_5_ite, hl_v_some, hl_d_some, hl_3_some, hl_4_some, hl_5_some, hl_v_bv, hl_d_bv, hl_3_bv, hl_4_bv, hl_5_bv, hl_bv, hl_v_bd, hl_d_bd, hl_3_bd, hl_4_bd, hl_5_bd, hl_bd, hl_v_b3, hl_d_b3, hl_3_b3, hl_4_b3, hl_5_b3, hl_b3, hl_v_b4, hl_d_b4, hl_3_b4, hl_4_b4, hl_5_b4, hl_b4, hl_v_b5, hl_d_b5, hl_3_b5, hl_4_b5, hl_5_b5, hl_b5, hs_bv_i, hm_bv_i, hR]
  all_goals rfl
def njX12_isJump_28  (g : hm) : Option (Int32 × hm) :=
  some ((1 : Int32), g)
def njX12_isJump_14 (v0 : Int32) (g : hm) : Option (Int32 × hm) :=
  if v0 = (167 : Int32) then (
    njX12_isJump_28 g
  ) else (
    if v0 = (168 : Int32) then (
      njX12_isJump_28 g
    ) else (
      some ((0 : Int32), g)
    )
  )
def nX12_isJump (v0 : Int32) (g : hm) : Option (Int32 × hm) :=
  if v0 < (153 : Int32) then (
    njX12_isJump_14 v0 g
  ) else (
    if v0 ≤ (158 : Int32) then (
      njX12_isJump_28 g
    ) else (
      njX12_isJump_14 v0 g
    )
  )
set_option maxHeartbeats 4000000 in
theorem tjX12_isJump_28 (R : Nat → Nat → Nat) (hR : R 285 = hm_R)  (g : hm) : jX12_isJump_28  (gm g R) = hl_d R (njX12_isJump_28  g) := by
  unfold jX12_isJump_28 njX12_isJump_28
  simp only [gm_I, gm_R, gm_w, gm_kd, gm_ln, not_false_eq_true, if_true, ite_true, gk_285, gk_286, gk_287, gk_288, gk_289, gk_290, gk_291, gk_292, gk_293, gk_294, gk_295, gk_296, gk_297, gk_298, gk_299, gk_300, gk_301, gk_302, gk_303, gk_304, gk_305, gk_306, gk_307, gk_308, gk_309, gk_310, gk_311, gk_312, gk_313, gk_314, gk_315, gk_316, gk_317, gk_318, gk_319, gn_286, gn_287, gn_288, gn_289, gn_290, gn_291, gn_292, gn_293, gn_294, gn_295, gn_296, gn_297, gn_298, gn_299, gn_300, gn_301, gn_302, gn_303, gn_304, gn_305, gn_306, gn_307, gn_308, gn_309, gn_310, gn_311, gn_312, gn_313, gn_314, gn_315, gn_316, gn_317, gn_318, gn_319, gr_1, gr_5, gr_6, gr_7, gr_8, gr_9, gr_10, gr_11, gr_12, gr_13, gr_14, gr_15, gr_16, gr_17, gr_18, gr_19, gr_20, gr_21, gr_23, gr_24, gr_25, gr_26, gr_27, gr_28, gr_29, gr_30, gr_32, gr_34, gr_35, gr_41, gr_42, gr_43, gr_44, gr_45, gz_1, gz_5, gz_6, gz_7, gz_8, gz_9, gz_10, gz_11, gz_12, gz_13, gz_14, gz_15, gz_16, gz_17, gz_18, gz_19, gz_20, gz_21, gz_23, gz_24, gz_25, gz_26, gz_27, gz_28, gz_29, gz_30, gz_32, gz_34, gz_35, gz_41, gz_42, gz_43, gz_44, gz_45, hl_v_none, hl_v_ite, hl_d_none, hl_d_ite, hl_3_none, hl_3_ite, hl_4_none, hl_4_ite, hl_5_none, hl_5_ite, hl_v_some, hl_d_some, hl_3_some, hl_4_some, hl_5_some, hl_v_bv, hl_d_bv, hl_3_bv, hl_4_bv, hl_5_bv, hl_bv, hl_v_bd, hl_d_bd, hl_3_bd, hl_4_bd, hl_5_bd, hl_bd, hl_v_b3, hl_d_b3, hl_3_b3, hl_4_b3, hl_5_b3, hl_b3, hl_v_b4, hl_d_b4, hl_3_b4, hl_4_b4, hl_5_b4, hl_b4, hl_v_b5, hl_d_b5, hl_3_b5, hl_4_b5, hl_5_b5, hl_b5, hs_bv_i, hm_bv_i, hR]
  all_goals rfl
set_option maxHeartbeats 4000000 in
theorem tjX12_isJump_14 (R : Nat → Nat → Nat) (hR : R 285 = hm_R) (v0 : Int32) (g : hm) : jX12_isJump_14 v0 (gm g R) = hl_d R (njX12_isJump_14 v0 g) := by
  unfold jX12_isJump_14 njX12_isJump_14
  simp only [gm_I, gm_R, gm_w, gm_kd, gm_ln, not_false_eq_true, if_true, ite_true, gk_285, gk_286, gk_287, gk_288, gk_289, gk_290, gk_291, gk_292, gk_293, gk_294, gk_295, gk_296, gk_297, gk_298, gk_299, gk_300, gk_301, gk_302, gk_303, gk_304, gk_305, gk_306, gk_307, gk_308, gk_309, gk_310, gk_311, gk_312, gk_313, gk_314, gk_315, gk_316, gk_317, gk_318, gk_319, gn_286, gn_287, gn_288, gn_289, gn_290, gn_291, gn_292, gn_293, gn_294, gn_295, gn_296, gn_297, gn_298, gn_299, gn_300, gn_301, gn_302, gn_303, gn_304, gn_305, gn_306, gn_307, gn_308, gn_309, gn_310, gn_311, gn_312, gn_313, gn_314, gn_315, gn_316, gn_317, gn_318, gn_319, gr_1, gr_5, gr_6, gr_7, gr_8, gr_9, gr_10, gr_11, gr_12, gr_13, gr_14, gr_15, gr_16, gr_17, gr_18, gr_19, gr_20, gr_21, gr_23, gr_24, gr_25, gr_26, gr_27, gr_28, gr_29, gr_30, gr_32, gr_34, gr_35, gr_41, gr_42, gr_43, gr_44, gr_45, gz_1, gz_5, gz_6, gz_7, gz_8, gz_9, gz_10, gz_11, gz_12, gz_13, gz_14, gz_15, gz_16, gz_17, gz_18, gz_19, gz_20, gz_21, gz_23, gz_24, gz_25, gz_26, gz_27, gz_28, gz_29, gz_30, gz_32, gz_34, gz_35, gz_41, gz_42, gz_43, gz_44, gz_45, hl_v_none, hl_v_ite, hl_d_none, hl_d_ite, hl_3_none, hl_3_ite, hl_4_none, hl_4_ite, hl_5_none, hl_5_ite, hl_v_some, hl_d_some, hl_3_some, hl_4_some, hl_5_some, hl_v_bv, hl_d_bv, hl_3_bv, hl_4_bv, hl_5_bv, hl_bv, hl_v_bd, hl_d_bd, hl_3_bd, hl_4_bd, hl_5_bd, hl_bd, hl_v_b3, hl_d_b3, hl_3_b3, hl_4_b3, hl_5_b3, hl_b3, hl_v_b4, hl_d_b4, hl_3_b4, hl_4_b4, hl_5_b4, hl_b4, hl_v_b5, hl_d_b5, hl_3_b5, hl_4_b5, hl_5_b5, hl_b5, hs_bv_i, hm_bv_i, hR, tjX12_isJump_28 R hR]
  all_goals rfl
set_option maxHeartbeats 4000000 in
theorem tX12_isJump (R : Nat → Nat → Nat) (hR : R 285 = hm_R) (v0 : Int32) (g : hm) : fX12_isJump v0 (gm g R) = hl_d R (nX12_isJump v0 g) := by
  unfold fX12_isJump nX12_isJump
  simp only [gm_I, gm_R, gm_w, gm_kd, gm_ln, not_false_eq_true, if_true, ite_true, gk_285, gk_286, gk_287, gk_288, gk_289, gk_290, gk_291, gk_292, gk_293, gk_294, gk_295, gk_296, gk_297, gk_298, gk_299, gk_300, gk_301, gk_302, gk_303, gk_304, gk_305, gk_306, gk_307, gk_308, gk_309, gk_310, gk_311, gk_312, gk_313, gk_314, gk_315, gk_316, gk_317, gk_318, gk_319, gn_286, gn_287, gn_288, gn_289, gn_290, gn_291, gn_292, gn_293, gn_294, gn_295, gn_296, gn_297, gn_298, gn_299, gn_300, gn_301, gn_302, gn_303, gn_304, gn_305, gn_306, gn_307, gn_308, gn_309, gn_310, gn_311, gn_312, gn_313, gn_314, gn_315, gn_316, gn_317, gn_318, gn_319, gr_1, gr_5, gr_6, gr_7, gr_8, gr_9, gr_10, gr_11, gr_12, gr_13, gr_14, gr_15, gr_16, gr_17, gr_18, gr_19, gr_20, gr_21, gr_23, gr_24, gr_25, gr_26, gr_27, gr_28, gr_29, gr_30, gr_32, gr_34, gr_35, gr_41, gr_42, gr_43, gr_44, gr_45, gz_1, gz_5, gz_6, gz_7, gz_8, gz_9, gz_10, gz_11, gz_12, gz_13, gz_14, gz_15, gz_16, gz_17, gz_18, gz_19, gz_20, gz_21, gz_23, gz_24, gz_25, gz_26, gz_27, gz_28, gz_29, gz_30, gz_32, gz_34, gz_35, gz_41, gz_42, gz_43, gz_44, gz_45, hl_v_none, hl_v_ite, hl_d_none, hl_d_ite, hl_3_none, hl_3_ite, hl_4_none, hl_4_ite, hl_5_none, hl_5_ite, hl_v_some, hl_d_some, hl_3_some, hl_4_some, hl_5_some, hl_v_bv, hl_d_bv, hl_3_bv, hl_4_bv, hl_5_bv, hl_bv, hl_v_bd, hl_d_bd, hl_3_bd, hl_4_bd, hl_5_bd, hl_bd, hl_v_b3, hl_d_b3, hl_3_b3, hl_4_b3, hl_5_b3, hl_b3, hl_v_b4, hl_d_b4, hl_3_b4, hl_4_b4, hl_5_b4, hl_b4, hl_v_b5, hl_d_b5, hl_3_b5, hl_4_b5, hl_5_b5, hl_b5, hs_bv_i, hm_bv_i, hR, tjX12_isJump_28 R hR, tjX12_isJump_14 R hR]
  all_goals rfl
def nX12_signedTwo (v0 : Int32) (g : hm) : Option (Int32 × hm) :=
  if v0 ≤ (32767 : Int32) then (
    some (v0, g)
  ) else (
    some ((v0 - (65536 : Int32)), g)
  )
set_option maxHeartbeats 4000000 in
theorem tX12_signedTwo (R : Nat → Nat → Nat) (hR : R 285 = hm_R) (v0 : Int32) (g : hm) : fX12_signedTwo v0 (gm g R) = hl_d R (nX12_signedTwo v0 g) := by
  unfold fX12_signedTwo nX12_signedTwo
  simp only [gm_I, gm_R, gm_w, gm_kd, gm_ln, not_false_eq_true, if_true, ite_true, gk_285, gk_286, gk_287, gk_288, gk_289, gk_290, gk_291, gk_292, gk_293, gk_294, gk_295, gk_296, gk_297, gk_298, gk_299, gk_300, gk_301, gk_302, gk_303, gk_304, gk_305, gk_306, gk_307, gk_308, gk_309, gk_310, gk_311, gk_312, gk_313, gk_314, gk_315, gk_316, gk_317, gk_318, gk_319, gn_286, gn_287, gn_288, gn_289, gn_290, gn_291, gn_292, gn_293, gn_294, gn_295, gn_296, gn_297, gn_298, gn_299, gn_300, gn_301, gn_302, gn_303, gn_304, gn_305, gn_306, gn_307, gn_308, gn_309, gn_310, gn_311, gn_312, gn_313, gn_314, gn_315, gn_316, gn_317, gn_318, gn_319, gr_1, gr_5, gr_6, gr_7, gr_8, gr_9, gr_10, gr_11, gr_12, gr_13, gr_14, gr_15, gr_16, gr_17, gr_18, gr_19, gr_20, gr_21, gr_23, gr_24, gr_25, gr_26, gr_27, gr_28, gr_29, gr_30, gr_32, gr_34, gr_35, gr_41, gr_42, gr_43, gr_44, gr_45, gz_1, gz_5, gz_6, gz_7, gz_8, gz_9, gz_10, gz_11, gz_12, gz_13, gz_14, gz_15, gz_16, gz_17, gz_18, gz_19, gz_20, gz_21, gz_23, gz_24, gz_25, gz_26, gz_27, gz_28, gz_29, gz_30, gz_32, gz_34, gz_35, gz_41, gz_42, gz_43, gz_44, gz_45, hl_v_none, hl_v_ite, hl_d_none, hl_d_ite, hl_3_none, hl_3_ite, hl_4_none, hl_4_ite, hl_5_none, hl_5_ite, hl_v_some, hl_d_some, hl_3_some, hl_4_some, hl_5_some, hl_v_bv, hl_d_bv, hl_3_bv, hl_4_bv, hl_5_bv, hl_bv, hl_v_bd, hl_d_bd, hl_3_bd, hl_4_bd, hl_5_bd, hl_bd, hl_v_b3, hl_d_b3, hl_3_b3, hl_4_b3, hl_5_b3, hl_b3, hl_v_b4, hl_d_b4, hl_3_b4, hl_4_b4, hl_5_b4, hl_b4, hl_v_b5, hl_d_b5, hl_3_b5, hl_4_b5, hl_5_b5, hl_b5, hs_bv_i, hm_bv_i, hR]
  all_goals rfl
def nX12_signed (v0 : Int32) (g : hm) : Option (Int32 × hm) :=
  if v0 ≤ (127 : Int32) then (
    some (v0, g)
  ) else (
    some ((v0 - (256 : Int32)), g)
  )
set_option maxHeartbeats 4000000 in
theorem tX12_signed (R : Nat → Nat → Nat) (hR : R 285 = hm_R) (v0 : Int32) (g : hm) : fX12_signed v0 (gm g R) = hl_d R (nX12_signed v0 g) := by
  unfold fX12_signed nX12_signed
  simp only [gm_I, gm_R, gm_w, gm_kd, gm_ln, not_false_eq_true, if_true, ite_true, gk_285, gk_286, gk_287, gk_288, gk_289, gk_290, gk_291, gk_292, gk_293, gk_294, gk_295, gk_296, gk_297, gk_298, gk_299, gk_300, gk_301, gk_302, gk_303, gk_304, gk_305, gk_306, gk_307, gk_308, gk_309, gk_310, gk_311, gk_312, gk_313, gk_314, gk_315, gk_316, gk_317, gk_318, gk_319, gn_286, gn_287, gn_288, gn_289, gn_290, gn_291, gn_292, gn_293, gn_294, gn_295, gn_296, gn_297, gn_298, gn_299, gn_300, gn_301, gn_302, gn_303, gn_304, gn_305, gn_306, gn_307, gn_308, gn_309, gn_310, gn_311, gn_312, gn_313, gn_314, gn_315, gn_316, gn_317, gn_318, gn_319, gr_1, gr_5, gr_6, gr_7, gr_8, gr_9, gr_10, gr_11, gr_12, gr_13, gr_14, gr_15, gr_16, gr_17, gr_18, gr_19, gr_20, gr_21, gr_23, gr_24, gr_25, gr_26, gr_27, gr_28, gr_29, gr_30, gr_32, gr_34, gr_35, gr_41, gr_42, gr_43, gr_44, gr_45, gz_1, gz_5, gz_6, gz_7, gz_8, gz_9, gz_10, gz_11, gz_12, gz_13, gz_14, gz_15, gz_16, gz_17, gz_18, gz_19, gz_20, gz_21, gz_23, gz_24, gz_25, gz_26, gz_27, gz_28, gz_29, gz_30, gz_32, gz_34, gz_35, gz_41, gz_42, gz_43, gz_44, gz_45, hl_v_none, hl_v_ite, hl_d_none, hl_d_ite, hl_3_none, hl_3_ite, hl_4_none, hl_4_ite, hl_5_none, hl_5_ite, hl_v_some, hl_d_some, hl_3_some, hl_4_some, hl_5_some, hl_v_bv, hl_d_bv, hl_3_bv, hl_4_bv, hl_5_bv, hl_bv, hl_v_bd, hl_d_bd, hl_3_bd, hl_4_bd, hl_5_bd, hl_bd, hl_v_b3, hl_d_b3, hl_3_b3, hl_4_b3, hl_5_b3, hl_b3, hl_v_b4, hl_d_b4, hl_3_b4, hl_4_b4, hl_5_b4, hl_b4, hl_v_b5, hl_d_b5, hl_3_b5, hl_4_b5, hl_5_b5, hl_b5, hs_bv_i, hm_bv_i, hR]
  all_goals rfl
def nX12_target (v0 : Int32) (v1 : Int32) (v2 : Int32) (v3 : Int32) (g : hm) : Option (Int32 × hm) :=
  if v0 = (168 : Int32) then (
    hm_bd (nX12_signedTwo (((256 : Int32) * v2) + v3) g) fun r4 g3 =>
    some ((v1 + r4), g3)
  ) else (
    hm_bd (nX12_signed v2 g) fun r2 g1 =>
    some ((v1 + r2), g1)
  )
set_option maxHeartbeats 4000000 in
theorem tX12_target (R : Nat → Nat → Nat) (hR : R 285 = hm_R) (v0 : Int32) (v1 : Int32) (v2 : Int32) (v3 : Int32) (g : hm) : fX12_target v0 v1 v2 v3 (gm g R) = hl_d R (nX12_target v0 v1 v2 v3 g) := by
  unfold fX12_target nX12_target
  simp only [gm_I, gm_R, gm_w, gm_kd, gm_ln, not_false_eq_true, if_true, ite_true, gk_285, gk_286, gk_287, gk_288, gk_289, gk_290, gk_291, gk_292, gk_293, gk_294, gk_295, gk_296, gk_297, gk_298, gk_299, gk_300, gk_301, gk_302, gk_303, gk_304, gk_305, gk_306, gk_307, gk_308, gk_309, gk_310, gk_311, gk_312, gk_313, gk_314, gk_315, gk_316, gk_317, gk_318, gk_319, gn_286, gn_287, gn_288, gn_289, gn_290, gn_291, gn_292, gn_293, gn_294, gn_295, gn_296, gn_297, gn_298, gn_299, gn_300, gn_301, gn_302, gn_303, gn_304, gn_305, gn_306, gn_307, gn_308, gn_309, gn_310, gn_311, gn_312, gn_313, gn_314, gn_315, gn_316, gn_317, gn_318, gn_319, gr_1, gr_5, gr_6, gr_7, gr_8, gr_9, gr_10, gr_11, gr_12, gr_13, gr_14, gr_15, gr_16, gr_17, gr_18, gr_19, gr_20, gr_21, gr_23, gr_24, gr_25, gr_26, gr_27, gr_28, gr_29, gr_30, gr_32, gr_34, gr_35, gr_41, gr_42, gr_43, gr_44, gr_45, gz_1, gz_5, gz_6, gz_7, gz_8, gz_9, gz_10, gz_11, gz_12, gz_13, gz_14, gz_15, gz_16, gz_17, gz_18, gz_19, gz_20, gz_21, gz_23, gz_24, gz_25, gz_26, gz_27, gz_28, gz_29, gz_30, gz_32, gz_34, gz_35, gz_41, gz_42, gz_43, gz_44, gz_45, hl_v_none, hl_v_ite, hl_d_none, hl_d_ite, hl_3_none, hl_3_ite, hl_4_none, hl_4_ite, hl_5_none, hl_5_ite, hl_v_some, hl_d_some, hl_3_some, hl_4_some, hl_5_some, hl_v_bv, hl_d_bv, hl_3_bv, hl_4_bv, hl_5_bv, hl_bv, hl_v_bd, hl_d_bd, hl_3_bd, hl_4_bd, hl_5_bd, hl_bd, hl_v_b3, hl_d_b3, hl_3_b3, hl_4_b3, hl_5_b3, hl_b3, hl_v_b4, hl_d_b4, hl_3_b4, hl_4_b4, hl_5_b4, hl_b4, hl_v_b5, hl_d_b5, hl_3_b5, hl_4_b5, hl_5_b5, hl_b5, hs_bv_i, hm_bv_i, hR, tX12_signed R hR, tX12_signedTwo R hR]
  all_goals rfl
def njX12_readMethod_14  (g : hm) : Option (Int32 × hm) :=
  hm_bd (nX12_wrong ((g 285 33) - (1 : Int32)) g) fun r4 g3 =>
  some (r4, g3)
def njX12_readMethod_44  (g : hm) : Option (Int32 × hm) :=
  hm_bd (nX12_wrong ((g 285 33) - (1 : Int32)) g) fun r8 g7 =>
  some (r8, g7)
def njX12_readMethod_89  (g : hm) : Option (Int32 × hm) :=
  hm_bd (nX12_wrong ((g 285 33) - (2 : Int32)) g) fun r12 g11 =>
  some (r12, g11)
def nlX12_readMethod_159 : Nat → Int32 → Int32 → Int32 → Int32 → hm → Option (hm)
  | 0, _, _, _, _, _ => none
  | n + 1, v1, v2, v5, v6, g =>
    if v5 ≤ v6 then (
      some g
    ) else (
      hm_bd (nX12_one g) fun r15 g14 =>
      if hs_in (((2001 : Int32) * v1) + v6) 16008 = true then
      nlX12_readMethod_159 n v1 v2 v5 (v6 + (1 : Int32)) (hm_w g14 303 (((2001 : Int32) * v1) + v6).toNatClampNeg r15)
      else none
    )
theorem nlX12_readMethod_159_s (n : Nat) (v1 : Int32) (v2 : Int32) (v5 : Int32) (v6 : Int32) (g : hm) : nlX12_readMethod_159 (n + 1) v1 v2 v5 v6 g =
    if v5 ≤ v6 then (
      some g
    ) else (
      hm_bd (nX12_one g) fun r15 g14 =>
      if hs_in (((2001 : Int32) * v1) + v6) 16008 = true then
      nlX12_readMethod_159 n v1 v2 v5 (v6 + (1 : Int32)) (hm_w g14 303 (((2001 : Int32) * v1) + v6).toNatClampNeg r15)
      else none
    ) := rfl
def njX12_readMethod_207  (g : hm) : Option (Int32 × hm) :=
  hm_bd (nX12_wrong ((g 285 33) - (1 : Int32)) g) fun r22 g21 =>
  some (r22, g21)
def nlX12_readMethod_261 : Nat → Int32 → Int32 → Int32 → Int32 → Int32 → Int32 → hm → Option (hm)
  | 0, _, _, _, _, _, _, _ => none
  | n + 1, v1, v2, v5, v6, v7, v8, g =>
    if v6 ≤ v8 then (
      some g
    ) else (
      hm_bd (nX12_two g) fun r24 g23 =>
      if hs_in (((32 : Int32) * v1) + ((4 : Int32) * v8)) 256 = true then
      hm_bd (nX12_two (hm_w g23 302 (((32 : Int32) * v1) + ((4 : Int32) * v8)).toNatClampNeg r24)) fun r26 g25 =>
      if hs_in ((((32 : Int32) * v1) + ((4 : Int32) * v8)) + (1 : Int32)) 256 = true then
      hm_bv (some (hm_w g25 302 ((((32 : Int32) * v1) + ((4 : Int32) * v8)) + (1 : Int32)).toNatClampNeg r26)) fun g27 =>
      hm_bd (nX12_two g27) fun r29 g28 =>
      if hs_in ((((32 : Int32) * v1) + ((4 : Int32) * v8)) + (2 : Int32)) 256 = true then
      hm_bv (some (hm_w g28 302 ((((32 : Int32) * v1) + ((4 : Int32) * v8)) + (2 : Int32)).toNatClampNeg r29)) fun g30 =>
      hm_bd (nX12_one g30) fun r32 g31 =>
      if hs_in ((((32 : Int32) * v1) + ((4 : Int32) * v8)) + (3 : Int32)) 256 = true then
      hm_bv (some (hm_w g31 302 ((((32 : Int32) * v1) + ((4 : Int32) * v8)) + (3 : Int32)).toNatClampNeg r32)) fun g33 =>
      nlX12_readMethod_261 n v1 v2 v5 v6 v7 (v8 + (1 : Int32)) g33
      else none else none else none else none
    )
theorem nlX12_readMethod_261_s (n : Nat) (v1 : Int32) (v2 : Int32) (v5 : Int32) (v6 : Int32) (v7 : Int32) (v8 : Int32) (g : hm) : nlX12_readMethod_261 (n + 1) v1 v2 v5 v6 v7 v8 g =
    if v6 ≤ v8 then (
      some g
    ) else (
      hm_bd (nX12_two g) fun r24 g23 =>
      if hs_in (((32 : Int32) * v1) + ((4 : Int32) * v8)) 256 = true then
      hm_bd (nX12_two (hm_w g23 302 (((32 : Int32) * v1) + ((4 : Int32) * v8)).toNatClampNeg r24)) fun r26 g25 =>
      if hs_in ((((32 : Int32) * v1) + ((4 : Int32) * v8)) + (1 : Int32)) 256 = true then
      hm_bv (some (hm_w g25 302 ((((32 : Int32) * v1) + ((4 : Int32) * v8)) + (1 : Int32)).toNatClampNeg r26)) fun g27 =>
      hm_bd (nX12_two g27) fun r29 g28 =>
      if hs_in ((((32 : Int32) * v1) + ((4 : Int32) * v8)) + (2 : Int32)) 256 = true then
      hm_bv (some (hm_w g28 302 ((((32 : Int32) * v1) + ((4 : Int32) * v8)) + (2 : Int32)).toNatClampNeg r29)) fun g30 =>
      hm_bd (nX12_one g30) fun r32 g31 =>
      if hs_in ((((32 : Int32) * v1) + ((4 : Int32) * v8)) + (3 : Int32)) 256 = true then
      hm_bv (some (hm_w g31 302 ((((32 : Int32) * v1) + ((4 : Int32) * v8)) + (3 : Int32)).toNatClampNeg r32)) fun g33 =>
      nlX12_readMethod_261 n v1 v2 v5 v6 v7 (v8 + (1 : Int32)) g33
      else none else none else none else none
    ) := rfl
def njX12_readMethod_480 (rec : Int32 → Int32 → hm → Option (Int32 × hm)) (v1 : Int32) (v5 : Int32) (v6 : Int32) (v7 : Int32) (v8 : Int32) (v9 : Int32) (g : hm) : Option (Int32 × hm) :=
  rec v8 (v9 + (1 : Int32)) g
def njX12_readMethod_459 (rec : Int32 → Int32 → hm → Option (Int32 × hm)) (v1 : Int32) (v5 : Int32) (v6 : Int32) (v7 : Int32) (v8 : Int32) (v9 : Int32) (s0 : Int32) (g : hm) : Option (Int32 × hm) :=
  if s0 = 0 then (
    hm_bd (nX12_wrong (v7 + ((7 : Int32) * v9)) g) fun r42 g41 =>
    njX12_readMethod_480 rec v1 v5 v6 v7 r42 v9 g41
  ) else (
    njX12_readMethod_480 rec v1 v5 v6 v7 v8 v9 g
  )
def njX12_readMethod_458 (rec : Int32 → Int32 → hm → Option (Int32 × hm)) (v1 : Int32) (v5 : Int32) (v6 : Int32) (v7 : Int32) (v8 : Int32) (v9 : Int32) (g : hm) : Option (Int32 × hm) :=
  njX12_readMethod_459 rec v1 v5 v6 v7 v8 v9 (0 : Int32) g
def njX12_readMethod_441 (rec : Int32 → Int32 → hm → Option (Int32 × hm)) (v1 : Int32) (v5 : Int32) (v6 : Int32) (v7 : Int32) (v8 : Int32) (v9 : Int32) (v10 : Int32) (g : hm) : Option (Int32 × hm) :=
  if hs_in (v10 + (3 : Int32)) 256 = true then
  if (4 : Int32) < (g 302 (v10 + (3 : Int32)).toNatClampNeg) then (
    njX12_readMethod_458 rec v1 v5 v6 v7 v8 v9 g
  ) else (
    njX12_readMethod_459 rec v1 v5 v6 v7 v8 v9 (1 : Int32) g
  )
  else none
def nlX12_readMethod_346 : Nat → Int32 → Int32 → Int32 → Int32 → Int32 → Int32 → hm → Option (Int32 × hm)
  | 0, _, _, _, _, _, _, _ => none
  | n + 1, v1, v5, v6, v7, v8, v9, g =>
    if v6 ≤ v9 then (
      some (v8, g)
    ) else (
      if v8 = 0 then (
        if hs_in ((((32 : Int32) * v1) + ((4 : Int32) * v9)) + (1 : Int32)) 256 = true then
        if hs_in (((32 : Int32) * v1) + ((4 : Int32) * v9)) 256 = true then
        hm_bd (nX12_isBegin v1 (g 302 (((32 : Int32) * v1) + ((4 : Int32) * v9)).toNatClampNeg) g) fun r40 g39 =>
        if r40 = 0 then (
          njX12_readMethod_458 (fun y0 y1 g => nlX12_readMethod_346 n v1 v5 v6 v7 y0 y1 g) v1 v5 v6 v7 v8 v9 g39
        ) else (
          if hs_in ((((32 : Int32) * v1) + ((4 : Int32) * v9)) + (2 : Int32)) 256 = true then
          hm_bd (nX12_isBegin v1 (g39 302 ((((32 : Int32) * v1) + ((4 : Int32) * v9)) + (2 : Int32)).toNatClampNeg) g39) fun r44 g43 =>
          if r44 = 0 then (
            njX12_readMethod_458 (fun y0 y1 g => nlX12_readMethod_346 n v1 v5 v6 v7 y0 y1 g) v1 v5 v6 v7 v8 v9 g43
          ) else (
            if hs_in (((32 : Int32) * v1) + ((4 : Int32) * v9)) 256 = true then
            if (g 302 ((((32 : Int32) * v1) + ((4 : Int32) * v9)) + (1 : Int32)).toNatClampNeg) ≤ (g43 302 (((32 : Int32) * v1) + ((4 : Int32) * v9)).toNatClampNeg) then (
              njX12_readMethod_458 (fun y0 y1 g => nlX12_readMethod_346 n v1 v5 v6 v7 y0 y1 g) v1 v5 v6 v7 v8 v9 g43
            ) else (
              if (g 302 ((((32 : Int32) * v1) + ((4 : Int32) * v9)) + (1 : Int32)).toNatClampNeg) = v5 then (
                njX12_readMethod_441 (fun y0 y1 g => nlX12_readMethod_346 n v1 v5 v6 v7 y0 y1 g) v1 v5 v6 v7 v8 v9 (((32 : Int32) * v1) + ((4 : Int32) * v9)) g43
              ) else (
                hm_bd (nX12_isBegin v1 (g 302 ((((32 : Int32) * v1) + ((4 : Int32) * v9)) + (1 : Int32)).toNatClampNeg) g43) fun r46 g45 =>
                if r46 = 0 then (
                  njX12_readMethod_458 (fun y0 y1 g => nlX12_readMethod_346 n v1 v5 v6 v7 y0 y1 g) v1 v5 v6 v7 v8 v9 g45
                ) else (
                  njX12_readMethod_441 (fun y0 y1 g => nlX12_readMethod_346 n v1 v5 v6 v7 y0 y1 g) v1 v5 v6 v7 v8 v9 (((32 : Int32) * v1) + ((4 : Int32) * v9)) g45
                )
              )
            )
            else none
          )
          else none
        )
        else none else none
      ) else (
        some (v8, g)
      )
    )
theorem nlX12_readMethod_346_s (n : Nat) (v1 : Int32) (v5 : Int32) (v6 : Int32) (v7 : Int32) (v8 : Int32) (v9 : Int32) (g : hm) : nlX12_readMethod_346 (n + 1) v1 v5 v6 v7 v8 v9 g =
    if v6 ≤ v9 then (
      some (v8, g)
    ) else (
      if v8 = 0 then (
        if hs_in ((((32 : Int32) * v1) + ((4 : Int32) * v9)) + (1 : Int32)) 256 = true then
        if hs_in (((32 : Int32) * v1) + ((4 : Int32) * v9)) 256 = true then
        hm_bd (nX12_isBegin v1 (g 302 (((32 : Int32) * v1) + ((4 : Int32) * v9)).toNatClampNeg) g) fun r40 g39 =>
        if r40 = 0 then (
          njX12_readMethod_458 (fun y0 y1 g => nlX12_readMethod_346 n v1 v5 v6 v7 y0 y1 g) v1 v5 v6 v7 v8 v9 g39
        ) else (
          if hs_in ((((32 : Int32) * v1) + ((4 : Int32) * v9)) + (2 : Int32)) 256 = true then
          hm_bd (nX12_isBegin v1 (g39 302 ((((32 : Int32) * v1) + ((4 : Int32) * v9)) + (2 : Int32)).toNatClampNeg) g39) fun r44 g43 =>
          if r44 = 0 then (
            njX12_readMethod_458 (fun y0 y1 g => nlX12_readMethod_346 n v1 v5 v6 v7 y0 y1 g) v1 v5 v6 v7 v8 v9 g43
          ) else (
            if hs_in (((32 : Int32) * v1) + ((4 : Int32) * v9)) 256 = true then
            if (g 302 ((((32 : Int32) * v1) + ((4 : Int32) * v9)) + (1 : Int32)).toNatClampNeg) ≤ (g43 302 (((32 : Int32) * v1) + ((4 : Int32) * v9)).toNatClampNeg) then (
              njX12_readMethod_458 (fun y0 y1 g => nlX12_readMethod_346 n v1 v5 v6 v7 y0 y1 g) v1 v5 v6 v7 v8 v9 g43
            ) else (
              if (g 302 ((((32 : Int32) * v1) + ((4 : Int32) * v9)) + (1 : Int32)).toNatClampNeg) = v5 then (
                njX12_readMethod_441 (fun y0 y1 g => nlX12_readMethod_346 n v1 v5 v6 v7 y0 y1 g) v1 v5 v6 v7 v8 v9 (((32 : Int32) * v1) + ((4 : Int32) * v9)) g43
              ) else (
                hm_bd (nX12_isBegin v1 (g 302 ((((32 : Int32) * v1) + ((4 : Int32) * v9)) + (1 : Int32)).toNatClampNeg) g43) fun r46 g45 =>
                if r46 = 0 then (
                  njX12_readMethod_458 (fun y0 y1 g => nlX12_readMethod_346 n v1 v5 v6 v7 y0 y1 g) v1 v5 v6 v7 v8 v9 g45
                ) else (
                  njX12_readMethod_441 (fun y0 y1 g => nlX12_readMethod_346 n v1 v5 v6 v7 y0 y1 g) v1 v5 v6 v7 v8 v9 (((32 : Int32) * v1) + ((4 : Int32) * v9)) g45
                )
              )
            )
            else none
          )
          else none
        )
        else none else none
      ) else (
        some (v8, g)
      )
    ) := rfl
def njX12_readMethod_587 (rec : Int32 → Int32 → hm → Option (Int32 × hm)) (v1 : Int32) (v5 : Int32) (v8 : Int32) (v9 : Int32) (g : hm) : Option (Int32 × hm) :=
  rec v8 (v9 + (1 : Int32)) g
def nlX12_readMethod_489 : Nat → Int32 → Int32 → Int32 → Int32 → hm → Option (Int32 × hm)
  | 0, _, _, _, _, _ => none
  | n + 1, v1, v5, v8, v9, g =>
    if v5 ≤ v9 then (
      some (v8, g)
    ) else (
      if v8 = 0 then (
        if hs_in (((2001 : Int32) * v1) + v9) 16008 = true then
        if (g 293 (((2001 : Int32) * v1) + v9).toNatClampNeg) = 0 then (
          njX12_readMethod_587 (fun y0 y1 g => nlX12_readMethod_489 n v1 v5 y0 y1 g) v1 v5 v8 v9 g
        ) else (
          if hs_in (((2001 : Int32) * v1) + v9) 16008 = true then
          hm_bd (nX12_isJump (g 303 (((2001 : Int32) * v1) + v9).toNatClampNeg) g) fun r52 g51 =>
          if r52 = 0 then (
            njX12_readMethod_587 (fun y0 y1 g => nlX12_readMethod_489 n v1 v5 y0 y1 g) v1 v5 v8 v9 g51
          ) else (
            if hs_in (((2001 : Int32) * v1) + v9) 16008 = true then
            if hs_in ((((2001 : Int32) * v1) + v9) + (1 : Int32)) 16008 = true then
            if hs_in ((((2001 : Int32) * v1) + v9) + (2 : Int32)) 16008 = true then
            hm_bd (nX12_target (g51 303 (((2001 : Int32) * v1) + v9).toNatClampNeg) v9 (g51 303 ((((2001 : Int32) * v1) + v9) + (1 : Int32)).toNatClampNeg) (g51 303 ((((2001 : Int32) * v1) + v9) + (2 : Int32)).toNatClampNeg) g51) fun r54 g53 =>
            hm_bd (nX12_isBegin v1 r54 g53) fun r56 g55 =>
            if r56 = 0 then (
              if hs_in v1 8 = true then
              hm_bd (nX12_wrong ((g55 300 v1.toNatClampNeg) + v9) g55) fun r58 g57 =>
              njX12_readMethod_587 (fun y0 y1 g => nlX12_readMethod_489 n v1 v5 y0 y1 g) v1 v5 r58 v9 g57
              else none
            ) else (
              njX12_readMethod_587 (fun y0 y1 g => nlX12_readMethod_489 n v1 v5 y0 y1 g) v1 v5 v8 v9 g55
            )
            else none else none else none
          )
          else none
        )
        else none
      ) else (
        some (v8, g)
      )
    )
theorem nlX12_readMethod_489_s (n : Nat) (v1 : Int32) (v5 : Int32) (v8 : Int32) (v9 : Int32) (g : hm) : nlX12_readMethod_489 (n + 1) v1 v5 v8 v9 g =
    if v5 ≤ v9 then (
      some (v8, g)
    ) else (
      if v8 = 0 then (
        if hs_in (((2001 : Int32) * v1) + v9) 16008 = true then
        if (g 293 (((2001 : Int32) * v1) + v9).toNatClampNeg) = 0 then (
          njX12_readMethod_587 (fun y0 y1 g => nlX12_readMethod_489 n v1 v5 y0 y1 g) v1 v5 v8 v9 g
        ) else (
          if hs_in (((2001 : Int32) * v1) + v9) 16008 = true then
          hm_bd (nX12_isJump (g 303 (((2001 : Int32) * v1) + v9).toNatClampNeg) g) fun r52 g51 =>
          if r52 = 0 then (
            njX12_readMethod_587 (fun y0 y1 g => nlX12_readMethod_489 n v1 v5 y0 y1 g) v1 v5 v8 v9 g51
          ) else (
            if hs_in (((2001 : Int32) * v1) + v9) 16008 = true then
            if hs_in ((((2001 : Int32) * v1) + v9) + (1 : Int32)) 16008 = true then
            if hs_in ((((2001 : Int32) * v1) + v9) + (2 : Int32)) 16008 = true then
            hm_bd (nX12_target (g51 303 (((2001 : Int32) * v1) + v9).toNatClampNeg) v9 (g51 303 ((((2001 : Int32) * v1) + v9) + (1 : Int32)).toNatClampNeg) (g51 303 ((((2001 : Int32) * v1) + v9) + (2 : Int32)).toNatClampNeg) g51) fun r54 g53 =>
            hm_bd (nX12_isBegin v1 r54 g53) fun r56 g55 =>
            if r56 = 0 then (
              if hs_in v1 8 = true then
              hm_bd (nX12_wrong ((g55 300 v1.toNatClampNeg) + v9) g55) fun r58 g57 =>
              njX12_readMethod_587 (fun y0 y1 g => nlX12_readMethod_489 n v1 v5 y0 y1 g) v1 v5 r58 v9 g57
              else none
            ) else (
              njX12_readMethod_587 (fun y0 y1 g => nlX12_readMethod_489 n v1 v5 y0 y1 g) v1 v5 v8 v9 g55
            )
            else none else none else none
          )
          else none
        )
        else none
      ) else (
        some (v8, g)
      )
    ) := rfl
def njX12_readMethod_486 (v1 : Int32) (v5 : Int32) (v8 : Int32) (g : hm) : Option (Int32 × hm) :=
  hm_bd (nlX12_readMethod_489 hs_N v1 v5 v8 (0 : Int32) g) fun x59 g61 =>
  some (x59, g61)
def nX12_readMethod (v1 : Int32) (v2 : Int32) (g : hm) : Option (Int32 × hm) :=
  hm_bd (nX12_one g) fun r2 g1 =>
  if r2 < 0 then (
    njX12_readMethod_14 g1
  ) else (
    if r2 ≤ (4 : Int32) then (
      hm_bd (nX12_one g1) fun r6 g5 =>
      if r6 < r2 then (
        njX12_readMethod_44 g5
      ) else (
        if r6 ≤ (20 : Int32) then (
          hm_bd (nX12_two g5) fun r10 g9 =>
          if 0 ≤ r10 then (
            if r10 < (1 : Int32) then (
              njX12_readMethod_89 g9
            ) else (
              if r10 ≤ (2000 : Int32) then (
                if hs_in v1 8 = true then
                if hs_in v1 8 = true then
                if hs_in v1 8 = true then
                hm_bv (some (hm_w (hm_w (hm_w g9 297 v1.toNatClampNeg r2) 298 v1.toNatClampNeg r6) 299 v1.toNatClampNeg r10)) fun g13 =>
                if hs_in v1 8 = true then
                if (((hm_w g13 300 v1.toNatClampNeg (g13 285 33)) 285 33) + r10) ≤ ((hm_w g13 300 v1.toNatClampNeg (g13 285 33)) 285 2) then (
                  hm_bv (nlX12_readMethod_159 hs_N v1 v2 r10 (0 : Int32) (hm_w g13 300 v1.toNatClampNeg (g13 285 33))) fun g17 =>
                  hm_bd (nX12_one g17) fun r20 g19 =>
                  if r20 < 0 then (
                    njX12_readMethod_207 g19
                  ) else (
                    if r20 ≤ (8 : Int32) then (
                      if hs_in v1 8 = true then
                      if (((hm_w g19 301 v1.toNatClampNeg r20) 285 33) + ((7 : Int32) * r20)) ≤ ((hm_w g19 301 v1.toNatClampNeg r20) 285 2) then (
                        hm_bv (nlX12_readMethod_261 hs_N v1 v2 r10 r20 ((hm_w g19 301 v1.toNatClampNeg r20) 285 33) (0 : Int32) (hm_w g19 301 v1.toNatClampNeg r20)) fun g35 =>
                        hm_bd (nX12_instructions v1 v2 g35) fun r38 g37 =>
                        hm_bd (nlX12_readMethod_346 hs_N v1 r10 r20 ((hm_w g19 301 v1.toNatClampNeg r20) 285 33) r38 (0 : Int32) g37) fun x47 g49 =>
                        njX12_readMethod_486 v1 r10 x47 g49
                      ) else (
                        hm_bd (nX12_wrong ((hm_w g19 301 v1.toNatClampNeg r20) 285 2) (hm_w g19 301 v1.toNatClampNeg r20)) fun r64 g63 =>
                        some (r64, g63)
                      )
                      else none
                    ) else (
                      njX12_readMethod_207 g19
                    )
                  )
                ) else (
                  hm_bd (nX12_wrong ((hm_w g13 300 v1.toNatClampNeg (g13 285 33)) 285 2) (hm_w g13 300 v1.toNatClampNeg (g13 285 33))) fun r66 g65 =>
                  some (r66, g65)
                )
                else none else none else none else none
              ) else (
                njX12_readMethod_89 g9
              )
            )
          ) else (
            hm_bd (nX12_wrong (g9 285 2) g9) fun r68 g67 =>
            some (r68, g67)
          )
        ) else (
          njX12_readMethod_44 g5
        )
      )
    ) else (
      njX12_readMethod_14 g1
    )
  )
set_option maxHeartbeats 4000000 in
theorem tjX12_readMethod_14 (R : Nat → Nat → Nat) (hR : R 285 = hm_R)  (g : hm) : jX12_readMethod_14 285  (gm g R) = hl_d R (njX12_readMethod_14  g) := by
  unfold jX12_readMethod_14 njX12_readMethod_14
  simp only [gm_I, gm_R, gm_w, gm_kd, gm_ln, not_false_eq_true, if_true, ite_true, gk_285, gk_286, gk_287, gk_288, gk_289, gk_290, gk_291, gk_292, gk_293, gk_294, gk_295, gk_296, gk_297, gk_298, gk_299, gk_300, gk_301, gk_302, gk_303, gk_304, gk_305, gk_306, gk_307, gk_308, gk_309, gk_310, gk_311, gk_312, gk_313, gk_314, gk_315, gk_316, gk_317, gk_318, gk_319, gn_286, gn_287, gn_288, gn_289, gn_290, gn_291, gn_292, gn_293, gn_294, gn_295, gn_296, gn_297, gn_298, gn_299, gn_300, gn_301, gn_302, gn_303, gn_304, gn_305, gn_306, gn_307, gn_308, gn_309, gn_310, gn_311, gn_312, gn_313, gn_314, gn_315, gn_316, gn_317, gn_318, gn_319, gr_1, gr_5, gr_6, gr_7, gr_8, gr_9, gr_10, gr_11, gr_12, gr_13, gr_14, gr_15, gr_16, gr_17, gr_18, gr_19, gr_20, gr_21, gr_23, gr_24, gr_25, gr_26, gr_27, gr_28, gr_29, gr_30, gr_32, gr_34, gr_35, gr_41, gr_42, gr_43, gr_44, gr_45, gz_1, gz_5, gz_6, gz_7, gz_8, gz_9, gz_10, gz_11, gz_12, gz_13, gz_14, gz_15, gz_16, gz_17, gz_18, gz_19, gz_20, gz_21, gz_23, gz_24, gz_25, gz_26, gz_27, gz_28, gz_29, gz_30, gz_32, gz_34, gz_35, gz_41, gz_42, gz_43, gz_44, gz_45, hl_v_none, hl_v_ite, hl_d_none, hl_d_ite, hl_3_none, hl_3_ite, hl_4_none, hl_4_ite, hl_5_none, hl_5_ite, hl_v_some, hl_d_some, hl_3_some, hl_4_some, hl_5_some, hl_v_bv, hl_d_bv, hl_3_bv, hl_4_bv, hl_5_bv, hl_bv, hl_v_bd, hl_d_bd, hl_3_bd, hl_4_bd, hl_5_bd, hl_bd, hl_v_b3, hl_d_b3, hl_3_b3, hl_4_b3, hl_5_b3, hl_b3, hl_v_b4, hl_d_b4, hl_3_b4, hl_4_b4, hl_5_b4, hl_b4, hl_v_b5, hl_d_b5, hl_3_b5, hl_4_b5, hl_5_b5, hl_b5, hs_bv_i, hm_bv_i, hR, tX12_instructions R hR, tX12_isBegin R hR, tX12_isJump R hR, tX12_one R hR, tX12_target R hR, tX12_two R hR, tX12_wrong R hR]
  all_goals rfl
set_option maxHeartbeats 4000000 in
theorem tjX12_readMethod_44 (R : Nat → Nat → Nat) (hR : R 285 = hm_R)  (g : hm) : jX12_readMethod_44 285  (gm g R) = hl_d R (njX12_readMethod_44  g) := by
  unfold jX12_readMethod_44 njX12_readMethod_44
  simp only [gm_I, gm_R, gm_w, gm_kd, gm_ln, not_false_eq_true, if_true, ite_true, gk_285, gk_286, gk_287, gk_288, gk_289, gk_290, gk_291, gk_292, gk_293, gk_294, gk_295, gk_296, gk_297, gk_298, gk_299, gk_300, gk_301, gk_302, gk_303, gk_304, gk_305, gk_306, gk_307, gk_308, gk_309, gk_310, gk_311, gk_312, gk_313, gk_314, gk_315, gk_316, gk_317, gk_318, gk_319, gn_286, gn_287, gn_288, gn_289, gn_290, gn_291, gn_292, gn_293, gn_294, gn_295, gn_296, gn_297, gn_298, gn_299, gn_300, gn_301, gn_302, gn_303, gn_304, gn_305, gn_306, gn_307, gn_308, gn_309, gn_310, gn_311, gn_312, gn_313, gn_314, gn_315, gn_316, gn_317, gn_318, gn_319, gr_1, gr_5, gr_6, gr_7, gr_8, gr_9, gr_10, gr_11, gr_12, gr_13, gr_14, gr_15, gr_16, gr_17, gr_18, gr_19, gr_20, gr_21, gr_23, gr_24, gr_25, gr_26, gr_27, gr_28, gr_29, gr_30, gr_32, gr_34, gr_35, gr_41, gr_42, gr_43, gr_44, gr_45, gz_1, gz_5, gz_6, gz_7, gz_8, gz_9, gz_10, gz_11, gz_12, gz_13, gz_14, gz_15, gz_16, gz_17, gz_18, gz_19, gz_20, gz_21, gz_23, gz_24, gz_25, gz_26, gz_27, gz_28, gz_29, gz_30, gz_32, gz_34, gz_35, gz_41, gz_42, gz_43, gz_44, gz_45, hl_v_none, hl_v_ite, hl_d_none, hl_d_ite, hl_3_none, hl_3_ite, hl_4_none, hl_4_ite, hl_5_none, hl_5_ite, hl_v_some, hl_d_some, hl_3_some, hl_4_some, hl_5_some, hl_v_bv, hl_d_bv, hl_3_bv, hl_4_bv, hl_5_bv, hl_bv, hl_v_bd, hl_d_bd, hl_3_bd, hl_4_bd, hl_5_bd, hl_bd, hl_v_b3, hl_d_b3, hl_3_b3, hl_4_b3, hl_5_b3, hl_b3, hl_v_b4, hl_d_b4, hl_3_b4, hl_4_b4, hl_5_b4, hl_b4, hl_v_b5, hl_d_b5, hl_3_b5, hl_4_b5, hl_5_b5, hl_b5, hs_bv_i, hm_bv_i, hR, tX12_instructions R hR, tX12_isBegin R hR, tX12_isJump R hR, tX12_one R hR, tX12_target R hR, tX12_two R hR, tX12_wrong R hR, tjX12_readMethod_14 R hR]
  all_goals rfl
set_option maxHeartbeats 4000000 in
theorem tjX12_readMethod_89 (R : Nat → Nat → Nat) (hR : R 285 = hm_R)  (g : hm) : jX12_readMethod_89 285  (gm g R) = hl_d R (njX12_readMethod_89  g) := by
  unfold jX12_readMethod_89 njX12_readMethod_89
  simp only [gm_I, gm_R, gm_w, gm_kd, gm_ln, not_false_eq_true, if_true, ite_true, gk_285, gk_286, gk_287, gk_288, gk_289, gk_290, gk_291, gk_292, gk_293, gk_294, gk_295, gk_296, gk_297, gk_298, gk_299, gk_300, gk_301, gk_302, gk_303, gk_304, gk_305, gk_306, gk_307, gk_308, gk_309, gk_310, gk_311, gk_312, gk_313, gk_314, gk_315, gk_316, gk_317, gk_318, gk_319, gn_286, gn_287, gn_288, gn_289, gn_290, gn_291, gn_292, gn_293, gn_294, gn_295, gn_296, gn_297, gn_298, gn_299, gn_300, gn_301, gn_302, gn_303, gn_304, gn_305, gn_306, gn_307, gn_308, gn_309, gn_310, gn_311, gn_312, gn_313, gn_314, gn_315, gn_316, gn_317, gn_318, gn_319, gr_1, gr_5, gr_6, gr_7, gr_8, gr_9, gr_10, gr_11, gr_12, gr_13, gr_14, gr_15, gr_16, gr_17, gr_18, gr_19, gr_20, gr_21, gr_23, gr_24, gr_25, gr_26, gr_27, gr_28, gr_29, gr_30, gr_32, gr_34, gr_35, gr_41, gr_42, gr_43, gr_44, gr_45, gz_1, gz_5, gz_6, gz_7, gz_8, gz_9, gz_10, gz_11, gz_12, gz_13, gz_14, gz_15, gz_16, gz_17, gz_18, gz_19, gz_20, gz_21, gz_23, gz_24, gz_25, gz_26, gz_27, gz_28, gz_29, gz_30, gz_32, gz_34, gz_35, gz_41, gz_42, gz_43, gz_44, gz_45, hl_v_none, hl_v_ite, hl_d_none, hl_d_ite, hl_3_none, hl_3_ite, hl_4_none, hl_4_ite, hl_5_none, hl_5_ite, hl_v_some, hl_d_some, hl_3_some, hl_4_some, hl_5_some, hl_v_bv, hl_d_bv, hl_3_bv, hl_4_bv, hl_5_bv, hl_bv, hl_v_bd, hl_d_bd, hl_3_bd, hl_4_bd, hl_5_bd, hl_bd, hl_v_b3, hl_d_b3, hl_3_b3, hl_4_b3, hl_5_b3, hl_b3, hl_v_b4, hl_d_b4, hl_3_b4, hl_4_b4, hl_5_b4, hl_b4, hl_v_b5, hl_d_b5, hl_3_b5, hl_4_b5, hl_5_b5, hl_b5, hs_bv_i, hm_bv_i, hR, tX12_instructions R hR, tX12_isBegin R hR, tX12_isJump R hR, tX12_one R hR, tX12_target R hR, tX12_two R hR, tX12_wrong R hR, tjX12_readMethod_14 R hR, tjX12_readMethod_44 R hR]
  all_goals rfl
set_option maxHeartbeats 4000000 in
theorem tlX12_readMethod_159 (R : Nat → Nat → Nat) (hR : R 285 = hm_R) : ∀ (n : Nat) (v1 : Int32) (v2 : Int32) (v5 : Int32) (v6 : Int32) (g : hm), lX12_readMethod_159 n 285 v1 v2 v5 v6 (gm g R) = hl_v R (nlX12_readMethod_159 n v1 v2 v5 v6 g) := by
  intro n
  induction n with
  | zero => intros; rfl
  | succ n ih =>
    intro v1 v2 v5 v6 g
    rw [lX12_readMethod_159_s, nlX12_readMethod_159_s]
    simp only [gm_I, gm_R, gm_w, gm_kd, gm_ln, not_false_eq_true, if_true, ite_true, gk_285, gk_286, gk_287, gk_288, gk_289, gk_290, gk_291, gk_292, gk_293, gk_294, gk_295, gk_296, gk_297, gk_298, gk_299, gk_300, gk_301, gk_302, gk_303, gk_304, gk_305, gk_306, gk_307, gk_308, gk_309, gk_310, gk_311, gk_312, gk_313, gk_314, gk_315, gk_316, gk_317, gk_318, gk_319, gn_286, gn_287, gn_288, gn_289, gn_290, gn_291, gn_292, gn_293, gn_294, gn_295, gn_296, gn_297, gn_298, gn_299, gn_300, gn_301, gn_302, gn_303, gn_304, gn_305, gn_306, gn_307, gn_308, gn_309, gn_310, gn_311, gn_312, gn_313, gn_314, gn_315, gn_316, gn_317, gn_318, gn_319, gr_1, gr_5, gr_6, gr_7, gr_8, gr_9, gr_10, gr_11, gr_12, gr_13, gr_14, gr_15, gr_16, gr_17, gr_18, gr_19, gr_20, gr_21, gr_23, gr_24, gr_25, gr_26, gr_27, gr_28, gr_29, gr_30, gr_32, gr_34, gr_35, gr_41, gr_42, gr_43, gr_44, gr_45, gz_1, gz_5, gz_6, gz_7, gz_8, gz_9, gz_10, gz_11, gz_12, gz_13, gz_14, gz_15, gz_16, gz_17, gz_18, gz_19, gz_20, gz_21, gz_23, gz_24, gz_25, gz_26, gz_27, gz_28, gz_29, gz_30, gz_32, gz_34, gz_35, gz_41, gz_42, gz_43, gz_44, gz_45, hl_v_none, hl_v_ite, hl_d_none, hl_d_ite, hl_3_none, hl_3_ite, hl_4_none, hl_4_ite, hl_5_none, hl_5_ite, hl_v_some, hl_d_some, hl_3_some, hl_4_some, hl_5_some, hl_v_bv, hl_d_bv, hl_3_bv, hl_4_bv, hl_5_bv, hl_bv, hl_v_bd, hl_d_bd, hl_3_bd, hl_4_bd, hl_5_bd, hl_bd, hl_v_b3, hl_d_b3, hl_3_b3, hl_4_b3, hl_5_b3, hl_b3, hl_v_b4, hl_d_b4, hl_3_b4, hl_4_b4, hl_5_b4, hl_b4, hl_v_b5, hl_d_b5, hl_3_b5, hl_4_b5, hl_5_b5, hl_b5, hs_bv_i, hm_bv_i, hR, tX12_instructions R hR, tX12_isBegin R hR, tX12_isJump R hR, tX12_one R hR, tX12_target R hR, tX12_two R hR, tX12_wrong R hR, tjX12_readMethod_14 R hR, tjX12_readMethod_44 R hR, tjX12_readMethod_89 R hR, ih]
    all_goals rfl
set_option maxHeartbeats 4000000 in
theorem tjX12_readMethod_207 (R : Nat → Nat → Nat) (hR : R 285 = hm_R)  (g : hm) : jX12_readMethod_207 285  (gm g R) = hl_d R (njX12_readMethod_207  g) := by
  unfold jX12_readMethod_207 njX12_readMethod_207
  simp only [gm_I, gm_R, gm_w, gm_kd, gm_ln, not_false_eq_true, if_true, ite_true, gk_285, gk_286, gk_287, gk_288, gk_289, gk_290, gk_291, gk_292, gk_293, gk_294, gk_295, gk_296, gk_297, gk_298, gk_299, gk_300, gk_301, gk_302, gk_303, gk_304, gk_305, gk_306, gk_307, gk_308, gk_309, gk_310, gk_311, gk_312, gk_313, gk_314, gk_315, gk_316, gk_317, gk_318, gk_319, gn_286, gn_287, gn_288, gn_289, gn_290, gn_291, gn_292, gn_293, gn_294, gn_295, gn_296, gn_297, gn_298, gn_299, gn_300, gn_301, gn_302, gn_303, gn_304, gn_305, gn_306, gn_307, gn_308, gn_309, gn_310, gn_311, gn_312, gn_313, gn_314, gn_315, gn_316, gn_317, gn_318, gn_319, gr_1, gr_5, gr_6, gr_7, gr_8, gr_9, gr_10, gr_11, gr_12, gr_13, gr_14, gr_15, gr_16, gr_17, gr_18, gr_19, gr_20, gr_21, gr_23, gr_24, gr_25, gr_26, gr_27, gr_28, gr_29, gr_30, gr_32, gr_34, gr_35, gr_41, gr_42, gr_43, gr_44, gr_45, gz_1, gz_5, gz_6, gz_7, gz_8, gz_9, gz_10, gz_11, gz_12, gz_13, gz_14, gz_15, gz_16, gz_17, gz_18, gz_19, gz_20, gz_21, gz_23, gz_24, gz_25, gz_26, gz_27, gz_28, gz_29, gz_30, gz_32, gz_34, gz_35, gz_41, gz_42, gz_43, gz_44, gz_45, hl_v_none, hl_v_ite, hl_d_none, hl_d_ite, hl_3_none, hl_3_ite, hl_4_none, hl_4_ite, hl_5_none, hl_5_ite, hl_v_some, hl_d_some, hl_3_some, hl_4_some, hl_5_some, hl_v_bv, hl_d_bv, hl_3_bv, hl_4_bv, hl_5_bv, hl_bv, hl_v_bd, hl_d_bd, hl_3_bd, hl_4_bd, hl_5_bd, hl_bd, hl_v_b3, hl_d_b3, hl_3_b3, hl_4_b3, hl_5_b3, hl_b3, hl_v_b4, hl_d_b4, hl_3_b4, hl_4_b4, hl_5_b4, hl_b4, hl_v_b5, hl_d_b5, hl_3_b5, hl_4_b5, hl_5_b5, hl_b5, hs_bv_i, hm_bv_i, hR, tX12_instructions R hR, tX12_isBegin R hR, tX12_isJump R hR, tX12_one R hR, tX12_target R hR, tX12_two R hR, tX12_wrong R hR, tjX12_readMethod_14 R hR, tjX12_readMethod_44 R hR, tjX12_readMethod_89 R hR, tlX12_readMethod_159 R hR]
  all_goals rfl
set_option maxHeartbeats 4000000 in
theorem tlX12_readMethod_261 (R : Nat → Nat → Nat) (hR : R 285 = hm_R) : ∀ (n : Nat) (v1 : Int32) (v2 : Int32) (v5 : Int32) (v6 : Int32) (v7 : Int32) (v8 : Int32) (g : hm), lX12_readMethod_261 n 285 v1 v2 v5 v6 v7 v8 (gm g R) = hl_v R (nlX12_readMethod_261 n v1 v2 v5 v6 v7 v8 g) := by
  intro n
  induction n with
  | zero => intros; rfl
  | succ n ih =>
    intro v1 v2 v5 v6 v7 v8 g
    rw [lX12_readMethod_261_s, nlX12_readMethod_261_s]
    simp only [gm_I, gm_R, gm_w, gm_kd, gm_ln, not_false_eq_true, if_true, ite_true, gk_285, gk_286, gk_287, gk_288, gk_289, gk_290, gk_291, gk_292, gk_293, gk_294, gk_295, gk_296, gk_297, gk_298, gk_299, gk_300, gk_301, gk_302, gk_303, gk_304, gk_305, gk_306, gk_307, gk_308, gk_309, gk_310, gk_311, gk_312, gk_313, gk_314, gk_315, gk_316, gk_317, gk_318, gk_319, gn_286, gn_287, gn_288, gn_289, gn_290, gn_291, gn_292, gn_293, gn_294, gn_295, gn_296, gn_297, gn_298, gn_299, gn_300, gn_301, gn_302, gn_303, gn_304, gn_305, gn_306, gn_307, gn_308, gn_309, gn_310, gn_311, gn_312, gn_313, gn_314, gn_315, gn_316, gn_317, gn_318, gn_319, gr_1, gr_5, gr_6, gr_7, gr_8, gr_9, gr_10, gr_11, gr_12, gr_13, gr_14, gr_15, gr_16, gr_17, gr_18, gr_19, gr_20, gr_21, gr_23, gr_24, gr_25, gr_26, gr_27, gr_28, gr_29, gr_30, gr_32, gr_34, gr_35, gr_41, gr_42, gr_43, gr_44, gr_45, gz_1, gz_5, gz_6, gz_7, gz_8, gz_9, gz_10, gz_11, gz_12, gz_13, gz_14, gz_15, gz_16, gz_17, gz_18, gz_19, gz_20, gz_21, gz_23, gz_24, gz_25, gz_26, gz_27, gz_28, gz_29, gz_30, gz_32, gz_34, gz_35, gz_41, gz_42, gz_43, gz_44, gz_45, hl_v_none, hl_v_ite, hl_d_none, hl_d_ite, hl_3_none, hl_3_ite, hl_4_none, hl_4_ite, hl_5_none, hl_5_ite, hl_v_some, hl_d_some, hl_3_some, hl_4_some, hl_5_some, hl_v_bv, hl_d_bv, hl_3_bv, hl_4_bv, hl_5_bv, hl_bv, hl_v_bd, hl_d_bd, hl_3_bd, hl_4_bd, hl_5_bd, hl_bd, hl_v_b3, hl_d_b3, hl_3_b3, hl_4_b3, hl_5_b3, hl_b3, hl_v_b4, hl_d_b4, hl_3_b4, hl_4_b4, hl_5_b4, hl_b4, hl_v_b5, hl_d_b5, hl_3_b5, hl_4_b5, hl_5_b5, hl_b5, hs_bv_i, hm_bv_i, hR, tX12_instructions R hR, tX12_isBegin R hR, tX12_isJump R hR, tX12_one R hR, tX12_target R hR, tX12_two R hR, tX12_wrong R hR, tjX12_readMethod_14 R hR, tjX12_readMethod_44 R hR, tjX12_readMethod_89 R hR, tlX12_readMethod_159 R hR, tjX12_readMethod_207 R hR, ih]
    all_goals rfl
set_option maxHeartbeats 4000000 in
theorem tjX12_readMethod_480 (R : Nat → Nat → Nat) (hR : R 285 = hm_R) (rec : Int32 → Int32 → hs_S → Option (Int32 × hs_S)) (rec2 : Int32 → Int32 → hm → Option (Int32 × hm)) (hrec : ∀ (y0 : Int32) (y1 : Int32) (g : hm), rec y0 y1 (gm g R) = hl_d R (rec2 y0 y1 g)) (v1 : Int32) (v5 : Int32) (v6 : Int32) (v7 : Int32) (v8 : Int32) (v9 : Int32) (g : hm) : jX12_readMethod_480 rec 285 v1 v5 v6 v7 v8 v9 (gm g R) = hl_d R (njX12_readMethod_480 rec2 v1 v5 v6 v7 v8 v9 g) := by
  unfold jX12_readMethod_480 njX12_readMethod_480
  simp only [gm_I, gm_R, gm_w, gm_kd, gm_ln, not_false_eq_true, if_true, ite_true, gk_285, gk_286, gk_287, gk_288, gk_289, gk_290, gk_291, gk_292, gk_293, gk_294, gk_295, gk_296, gk_297, gk_298, gk_299, gk_300, gk_301, gk_302, gk_303, gk_304, gk_305, gk_306, gk_307, gk_308, gk_309, gk_310, gk_311, gk_312, gk_313, gk_314, gk_315, gk_316, gk_317, gk_318, gk_319, gn_286, gn_287, gn_288, gn_289, gn_290, gn_291, gn_292, gn_293, gn_294, gn_295, gn_296, gn_297, gn_298, gn_299, gn_300, gn_301, gn_302, gn_303, gn_304, gn_305, gn_306, gn_307, gn_308, gn_309, gn_310, gn_311, gn_312, gn_313, gn_314, gn_315, gn_316, gn_317, gn_318, gn_319, gr_1, gr_5, gr_6, gr_7, gr_8, gr_9, gr_10, gr_11, gr_12, gr_13, gr_14, gr_15, gr_16, gr_17, gr_18, gr_19, gr_20, gr_21, gr_23, gr_24, gr_25, gr_26, gr_27, gr_28, gr_29, gr_30, gr_32, gr_34, gr_35, gr_41, gr_42, gr_43, gr_44, gr_45, gz_1, gz_5, gz_6, gz_7, gz_8, gz_9, gz_10, gz_11, gz_12, gz_13, gz_14, gz_15, gz_16, gz_17, gz_18, gz_19, gz_20, gz_21, gz_23, gz_24, gz_25, gz_26, gz_27, gz_28, gz_29, gz_30, gz_32, gz_34, gz_35, gz_41, gz_42, gz_43, gz_44, gz_45, hl_v_none, hl_v_ite, hl_d_none, hl_d_ite, hl_3_none, hl_3_ite, hl_4_none, hl_4_ite, hl_5_none, hl_5_ite, hl_v_some, hl_d_some, hl_3_some, hl_4_some, hl_5_some, hl_v_bv, hl_d_bv, hl_3_bv, hl_4_bv, hl_5_bv, hl_bv, hl_v_bd, hl_d_bd, hl_3_bd, hl_4_bd, hl_5_bd, hl_bd, hl_v_b3, hl_d_b3, hl_3_b3, hl_4_b3, hl_5_b3, hl_b3, hl_v_b4, hl_d_b4, hl_3_b4, hl_4_b4, hl_5_b4, hl_b4, hl_v_b5, hl_d_b5, hl_3_b5, hl_4_b5, hl_5_b5, hl_b5, hs_bv_i, hm_bv_i, hR, tX12_instructions R hR, tX12_isBegin R hR, tX12_isJump R hR, tX12_one R hR, tX12_target R hR, tX12_two R hR, tX12_wrong R hR, tjX12_readMethod_14 R hR, tjX12_readMethod_44 R hR, tjX12_readMethod_89 R hR, tlX12_readMethod_159 R hR, tjX12_readMethod_207 R hR, tlX12_readMethod_261 R hR, hrec]
  all_goals rfl
set_option maxHeartbeats 4000000 in
theorem tjX12_readMethod_459 (R : Nat → Nat → Nat) (hR : R 285 = hm_R) (rec : Int32 → Int32 → hs_S → Option (Int32 × hs_S)) (rec2 : Int32 → Int32 → hm → Option (Int32 × hm)) (hrec : ∀ (y0 : Int32) (y1 : Int32) (g : hm), rec y0 y1 (gm g R) = hl_d R (rec2 y0 y1 g)) (v1 : Int32) (v5 : Int32) (v6 : Int32) (v7 : Int32) (v8 : Int32) (v9 : Int32) (s0 : Int32) (g : hm) : jX12_readMethod_459 rec 285 v1 v5 v6 v7 v8 v9 s0 (gm g R) = hl_d R (njX12_readMethod_459 rec2 v1 v5 v6 v7 v8 v9 s0 g) := by
  unfold jX12_readMethod_459 njX12_readMethod_459
  simp only [gm_I, gm_R, gm_w, gm_kd, gm_ln, not_false_eq_true, if_true, ite_true, gk_285, gk_286, gk_287, gk_288, gk_289, gk_290, gk_291, gk_292, gk_293, gk_294, gk_295, gk_296, gk_297, gk_298, gk_299, gk_300, gk_301, gk_302, gk_303, gk_304, gk_305, gk_306, gk_307, gk_308, gk_309, gk_310, gk_311, gk_312, gk_313, gk_314, gk_315, gk_316, gk_317, gk_318, gk_319, gn_286, gn_287, gn_288, gn_289, gn_290, gn_291, gn_292, gn_293, gn_294, gn_295, gn_296, gn_297, gn_298, gn_299, gn_300, gn_301, gn_302, gn_303, gn_304, gn_305, gn_306, gn_307, gn_308, gn_309, gn_310, gn_311, gn_312, gn_313, gn_314, gn_315, gn_316, gn_317, gn_318, gn_319, gr_1, gr_5, gr_6, gr_7, gr_8, gr_9, gr_10, gr_11, gr_12, gr_13, gr_14, gr_15, gr_16, gr_17, gr_18, gr_19, gr_20, gr_21, gr_23, gr_24, gr_25, gr_26, gr_27, gr_28, gr_29, gr_30, gr_32, gr_34, gr_35, gr_41, gr_42, gr_43, gr_44, gr_45, gz_1, gz_5, gz_6, gz_7, gz_8, gz_9, gz_10, gz_11, gz_12, gz_13, gz_14, gz_15, gz_16, gz_17, gz_18, gz_19, gz_20, gz_21, gz_23, gz_24, gz_25, gz_26, gz_27, gz_28, gz_29, gz_30, gz_32, gz_34, gz_35, gz_41, gz_42, gz_43, gz_44, gz_45, hl_v_none, hl_v_ite, hl_d_none, hl_d_ite, hl_3_none, hl_3_ite, hl_4_none, hl_4_ite, hl_5_none, hl_5_ite, hl_v_some, hl_d_some, hl_3_some, hl_4_some, hl_5_some, hl_v_bv, hl_d_bv, hl_3_bv, hl_4_bv, hl_5_bv, hl_bv, hl_v_bd, hl_d_bd, hl_3_bd, hl_4_bd, hl_5_bd, hl_bd, hl_v_b3, hl_d_b3, hl_3_b3, hl_4_b3, hl_5_b3, hl_b3, hl_v_b4, hl_d_b4, hl_3_b4, hl_4_b4, hl_5_b4, hl_b4, hl_v_b5, hl_d_b5, hl_3_b5, hl_4_b5, hl_5_b5, hl_b5, hs_bv_i, hm_bv_i, hR, tX12_instructions R hR, tX12_isBegin R hR, tX12_isJump R hR, tX12_one R hR, tX12_target R hR, tX12_two R hR, tX12_wrong R hR, tjX12_readMethod_14 R hR, tjX12_readMethod_44 R hR, tjX12_readMethod_89 R hR, tlX12_readMethod_159 R hR, tjX12_readMethod_207 R hR, tlX12_readMethod_261 R hR, hrec, tjX12_readMethod_480 R hR rec rec2 hrec]
  all_goals rfl
set_option maxHeartbeats 4000000 in
theorem tjX12_readMethod_458 (R : Nat → Nat → Nat) (hR : R 285 = hm_R) (rec : Int32 → Int32 → hs_S → Option (Int32 × hs_S)) (rec2 : Int32 → Int32 → hm → Option (Int32 × hm)) (hrec : ∀ (y0 : Int32) (y1 : Int32) (g : hm), rec y0 y1 (gm g R) = hl_d R (rec2 y0 y1 g)) (v1 : Int32) (v5 : Int32) (v6 : Int32) (v7 : Int32) (v8 : Int32) (v9 : Int32) (g : hm) : jX12_readMethod_458 rec 285 v1 v5 v6 v7 v8 v9 (gm g R) = hl_d R (njX12_readMethod_458 rec2 v1 v5 v6 v7 v8 v9 g) := by
  unfold jX12_readMethod_458 njX12_readMethod_458
  simp only [gm_I, gm_R, gm_w, gm_kd, gm_ln, not_false_eq_true, if_true, ite_true, gk_285, gk_286, gk_287, gk_288, gk_289, gk_290, gk_291, gk_292, gk_293, gk_294, gk_295, gk_296, gk_297, gk_298, gk_299, gk_300, gk_301, gk_302, gk_303, gk_304, gk_305, gk_306, gk_307, gk_308, gk_309, gk_310, gk_311, gk_312, gk_313, gk_314, gk_315, gk_316, gk_317, gk_318, gk_319, gn_286, gn_287, gn_288, gn_289, gn_290, gn_291, gn_292, gn_293, gn_294, gn_295, gn_296, gn_297, gn_298, gn_299, gn_300, gn_301, gn_302, gn_303, gn_304, gn_305, gn_306, gn_307, gn_308, gn_309, gn_310, gn_311, gn_312, gn_313, gn_314, gn_315, gn_316, gn_317, gn_318, gn_319, gr_1, gr_5, gr_6, gr_7, gr_8, gr_9, gr_10, gr_11, gr_12, gr_13, gr_14, gr_15, gr_16, gr_17, gr_18, gr_19, gr_20, gr_21, gr_23, gr_24, gr_25, gr_26, gr_27, gr_28, gr_29, gr_30, gr_32, gr_34, gr_35, gr_41, gr_42, gr_43, gr_44, gr_45, gz_1, gz_5, gz_6, gz_7, gz_8, gz_9, gz_10, gz_11, gz_12, gz_13, gz_14, gz_15, gz_16, gz_17, gz_18, gz_19, gz_20, gz_21, gz_23, gz_24, gz_25, gz_26, gz_27, gz_28, gz_29, gz_30, gz_32, gz_34, gz_35, gz_41, gz_42, gz_43, gz_44, gz_45, hl_v_none, hl_v_ite, hl_d_none, hl_d_ite, hl_3_none, hl_3_ite, hl_4_none, hl_4_ite, hl_5_none, hl_5_ite, hl_v_some, hl_d_some, hl_3_some, hl_4_some, hl_5_some, hl_v_bv, hl_d_bv, hl_3_bv, hl_4_bv, hl_5_bv, hl_bv, hl_v_bd, hl_d_bd, hl_3_bd, hl_4_bd, hl_5_bd, hl_bd, hl_v_b3, hl_d_b3, hl_3_b3, hl_4_b3, hl_5_b3, hl_b3, hl_v_b4, hl_d_b4, hl_3_b4, hl_4_b4, hl_5_b4, hl_b4, hl_v_b5, hl_d_b5, hl_3_b5, hl_4_b5, hl_5_b5, hl_b5, hs_bv_i, hm_bv_i, hR, tX12_instructions R hR, tX12_isBegin R hR, tX12_isJump R hR, tX12_one R hR, tX12_target R hR, tX12_two R hR, tX12_wrong R hR, tjX12_readMethod_14 R hR, tjX12_readMethod_44 R hR, tjX12_readMethod_89 R hR, tlX12_readMethod_159 R hR, tjX12_readMethod_207 R hR, tlX12_readMethod_261 R hR, hrec, tjX12_readMethod_480 R hR rec rec2 hrec, tjX12_readMethod_459 R hR rec rec2 hrec]
  all_goals rfl
set_option maxHeartbeats 4000000 in
theorem tjX12_readMethod_441 (R : Nat → Nat → Nat) (hR : R 285 = hm_R) (rec : Int32 → Int32 → hs_S → Option (Int32 × hs_S)) (rec2 : Int32 → Int32 → hm → Option (Int32 × hm)) (hrec : ∀ (y0 : Int32) (y1 : Int32) (g : hm), rec y0 y1 (gm g R) = hl_d R (rec2 y0 y1 g)) (v1 : Int32) (v5 : Int32) (v6 : Int32) (v7 : Int32) (v8 : Int32) (v9 : Int32) (v10 : Int32) (g : hm) : jX12_readMethod_441 rec 285 v1 v5 v6 v7 v8 v9 v10 (gm g R) = hl_d R (njX12_readMethod_441 rec2 v1 v5 v6 v7 v8 v9 v10 g) := by
  unfold jX12_readMethod_441 njX12_readMethod_441
  simp only [gm_I, gm_R, gm_w, gm_kd, gm_ln, not_false_eq_true, if_true, ite_true, gk_285, gk_286, gk_287, gk_288, gk_289, gk_290, gk_291, gk_292, gk_293, gk_294, gk_295, gk_296, gk_297, gk_298, gk_299, gk_300, gk_301, gk_302, gk_303, gk_304, gk_305, gk_306, gk_307, gk_308, gk_309, gk_310, gk_311, gk_312, gk_313, gk_314, gk_315, gk_316, gk_317, gk_318, gk_319, gn_286, gn_287, gn_288, gn_289, gn_290, gn_291, gn_292, gn_293, gn_294, gn_295, gn_296, gn_297, gn_298, gn_299, gn_300, gn_301, gn_302, gn_303, gn_304, gn_305, gn_306, gn_307, gn_308, gn_309, gn_310, gn_311, gn_312, gn_313, gn_314, gn_315, gn_316, gn_317, gn_318, gn_319, gr_1, gr_5, gr_6, gr_7, gr_8, gr_9, gr_10, gr_11, gr_12, gr_13, gr_14, gr_15, gr_16, gr_17, gr_18, gr_19, gr_20, gr_21, gr_23, gr_24, gr_25, gr_26, gr_27, gr_28, gr_29, gr_30, gr_32, gr_34, gr_35, gr_41, gr_42, gr_43, gr_44, gr_45, gz_1, gz_5, gz_6, gz_7, gz_8, gz_9, gz_10, gz_11, gz_12, gz_13, gz_14, gz_15, gz_16, gz_17, gz_18, gz_19, gz_20, gz_21, gz_23, gz_24, gz_25, gz_26, gz_27, gz_28, gz_29, gz_30, gz_32, gz_34, gz_35, gz_41, gz_42, gz_43, gz_44, gz_45, hl_v_none, hl_v_ite, hl_d_none, hl_d_ite, hl_3_none, hl_3_ite, hl_4_none, hl_4_ite, hl_5_none, hl_5_ite, hl_v_some, hl_d_some, hl_3_some, hl_4_some, hl_5_some, hl_v_bv, hl_d_bv, hl_3_bv, hl_4_bv, hl_5_bv, hl_bv, hl_v_bd, hl_d_bd, hl_3_bd, hl_4_bd, hl_5_bd, hl_bd, hl_v_b3, hl_d_b3, hl_3_b3, hl_4_b3, hl_5_b3, hl_b3, hl_v_b4, hl_d_b4, hl_3_b4, hl_4_b4, hl_5_b4, hl_b4, hl_v_b5, hl_d_b5, hl_3_b5, hl_4_b5, hl_5_b5, hl_b5, hs_bv_i, hm_bv_i, hR, tX12_instructions R hR, tX12_isBegin R hR, tX12_isJump R hR, tX12_one R hR, tX12_target R hR, tX12_two R hR, tX12_wrong R hR, tjX12_readMethod_14 R hR, tjX12_readMethod_44 R hR, tjX12_readMethod_89 R hR, tlX12_readMethod_159 R hR, tjX12_readMethod_207 R hR, tlX12_readMethod_261 R hR, hrec, tjX12_readMethod_480 R hR rec rec2 hrec, tjX12_readMethod_459 R hR rec rec2 hrec, tjX12_readMethod_458 R hR rec rec2 hrec]
  all_goals rfl
set_option maxHeartbeats 4000000 in
theorem tlX12_readMethod_346 (R : Nat → Nat → Nat) (hR : R 285 = hm_R) : ∀ (n : Nat) (v1 : Int32) (v5 : Int32) (v6 : Int32) (v7 : Int32) (v8 : Int32) (v9 : Int32) (g : hm), lX12_readMethod_346 n 285 v1 v5 v6 v7 v8 v9 (gm g R) = hl_d R (nlX12_readMethod_346 n v1 v5 v6 v7 v8 v9 g) := by
  intro n
  induction n with
  | zero => intros; rfl
  | succ n ih =>
    intro v1 v5 v6 v7 v8 v9 g
    rw [lX12_readMethod_346_s, nlX12_readMethod_346_s]
    simp only [gm_I, gm_R, gm_w, gm_kd, gm_ln, not_false_eq_true, if_true, ite_true, gk_285, gk_286, gk_287, gk_288, gk_289, gk_290, gk_291, gk_292, gk_293, gk_294, gk_295, gk_296, gk_297, gk_298, gk_299, gk_300, gk_301, gk_302, gk_303, gk_304, gk_305, gk_306, gk_307, gk_308, gk_309, gk_310, gk_311, gk_312, gk_313, gk_314, gk_315, gk_316, gk_317, gk_318, gk_319, gn_286, gn_287, gn_288, gn_289, gn_290, gn_291, gn_292, gn_293, gn_294, gn_295, gn_296, gn_297, gn_298, gn_299, gn_300, gn_301, gn_302, gn_303, gn_304, gn_305, gn_306, gn_307, gn_308, gn_309, gn_310, gn_311, gn_312, gn_313, gn_314, gn_315, gn_316, gn_317, gn_318, gn_319, gr_1, gr_5, gr_6, gr_7, gr_8, gr_9, gr_10, gr_11, gr_12, gr_13, gr_14, gr_15, gr_16, gr_17, gr_18, gr_19, gr_20, gr_21, gr_23, gr_24, gr_25, gr_26, gr_27, gr_28, gr_29, gr_30, gr_32, gr_34, gr_35, gr_41, gr_42, gr_43, gr_44, gr_45, gz_1, gz_5, gz_6, gz_7, gz_8, gz_9, gz_10, gz_11, gz_12, gz_13, gz_14, gz_15, gz_16, gz_17, gz_18, gz_19, gz_20, gz_21, gz_23, gz_24, gz_25, gz_26, gz_27, gz_28, gz_29, gz_30, gz_32, gz_34, gz_35, gz_41, gz_42, gz_43, gz_44, gz_45, hl_v_none, hl_v_ite, hl_d_none, hl_d_ite, hl_3_none, hl_3_ite, hl_4_none, hl_4_ite, hl_5_none, hl_5_ite, hl_v_some, hl_d_some, hl_3_some, hl_4_some, hl_5_some, hl_v_bv, hl_d_bv, hl_3_bv, hl_4_bv, hl_5_bv, hl_bv, hl_v_bd, hl_d_bd, hl_3_bd, hl_4_bd, hl_5_bd, hl_bd, hl_v_b3, hl_d_b3, hl_3_b3, hl_4_b3, hl_5_b3, hl_b3, hl_v_b4, hl_d_b4, hl_3_b4, hl_4_b4, hl_5_b4, hl_b4, hl_v_b5, hl_d_b5, hl_3_b5, hl_4_b5, hl_5_b5, hl_b5, hs_bv_i, hm_bv_i, hR, tX12_instructions R hR, tX12_isBegin R hR, tX12_isJump R hR, tX12_one R hR, tX12_target R hR, tX12_two R hR, tX12_wrong R hR, tjX12_readMethod_14 R hR, tjX12_readMethod_44 R hR, tjX12_readMethod_89 R hR, tlX12_readMethod_159 R hR, tjX12_readMethod_207 R hR, tlX12_readMethod_261 R hR, ih, tjX12_readMethod_480 R hR _ _ (fun y0 y1 g => ih v1 v5 v6 v7 y0 y1 g), tjX12_readMethod_459 R hR _ _ (fun y0 y1 g => ih v1 v5 v6 v7 y0 y1 g), tjX12_readMethod_458 R hR _ _ (fun y0 y1 g => ih v1 v5 v6 v7 y0 y1 g), tjX12_readMethod_441 R hR _ _ (fun y0 y1 g => ih v1 v5 v6 v7 y0 y1 g)]
    all_goals rfl
set_option maxHeartbeats 4000000 in
theorem tjX12_readMethod_587 (R : Nat → Nat → Nat) (hR : R 285 = hm_R) (rec : Int32 → Int32 → hs_S → Option (Int32 × hs_S)) (rec2 : Int32 → Int32 → hm → Option (Int32 × hm)) (hrec : ∀ (y0 : Int32) (y1 : Int32) (g : hm), rec y0 y1 (gm g R) = hl_d R (rec2 y0 y1 g)) (v1 : Int32) (v5 : Int32) (v8 : Int32) (v9 : Int32) (g : hm) : jX12_readMethod_587 rec 285 v1 v5 v8 v9 (gm g R) = hl_d R (njX12_readMethod_587 rec2 v1 v5 v8 v9 g) := by
  unfold jX12_readMethod_587 njX12_readMethod_587
  simp only [gm_I, gm_R, gm_w, gm_kd, gm_ln, not_false_eq_true, if_true, ite_true, gk_285, gk_286, gk_287, gk_288, gk_289, gk_290, gk_291, gk_292, gk_293, gk_294, gk_295, gk_296, gk_297, gk_298, gk_299, gk_300, gk_301, gk_302, gk_303, gk_304, gk_305, gk_306, gk_307, gk_308, gk_309, gk_310, gk_311, gk_312, gk_313, gk_314, gk_315, gk_316, gk_317, gk_318, gk_319, gn_286, gn_287, gn_288, gn_289, gn_290, gn_291, gn_292, gn_293, gn_294, gn_295, gn_296, gn_297, gn_298, gn_299, gn_300, gn_301, gn_302, gn_303, gn_304, gn_305, gn_306, gn_307, gn_308, gn_309, gn_310, gn_311, gn_312, gn_313, gn_314, gn_315, gn_316, gn_317, gn_318, gn_319, gr_1, gr_5, gr_6, gr_7, gr_8, gr_9, gr_10, gr_11, gr_12, gr_13, gr_14, gr_15, gr_16, gr_17, gr_18, gr_19, gr_20, gr_21, gr_23, gr_24, gr_25, gr_26, gr_27, gr_28, gr_29, gr_30, gr_32, gr_34, gr_35, gr_41, gr_42, gr_43, gr_44, gr_45, gz_1, gz_5, gz_6, gz_7, gz_8, gz_9, gz_10, gz_11, gz_12, gz_13, gz_14, gz_15, gz_16, gz_17, gz_18, gz_19, gz_20, gz_21, gz_23, gz_24, gz_25, gz_26, gz_27, gz_28, gz_29, gz_30, gz_32, gz_34, gz_35, gz_41, gz_42, gz_43, gz_44, gz_45, hl_v_none, hl_v_ite, hl_d_none, hl_d_ite, hl_3_none, hl_3_ite, hl_4_none, hl_4_ite, hl_5_none, hl_5_ite, hl_v_some, hl_d_some, hl_3_some, hl_4_some, hl_5_some, hl_v_bv, hl_d_bv, hl_3_bv, hl_4_bv, hl_5_bv, hl_bv, hl_v_bd, hl_d_bd, hl_3_bd, hl_4_bd, hl_5_bd, hl_bd, hl_v_b3, hl_d_b3, hl_3_b3, hl_4_b3, hl_5_b3, hl_b3, hl_v_b4, hl_d_b4, hl_3_b4, hl_4_b4, hl_5_b4, hl_b4, hl_v_b5, hl_d_b5, hl_3_b5, hl_4_b5, hl_5_b5, hl_b5, hs_bv_i, hm_bv_i, hR, tX12_instructions R hR, tX12_isBegin R hR, tX12_isJump R hR, tX12_one R hR, tX12_target R hR, tX12_two R hR, tX12_wrong R hR, tjX12_readMethod_14 R hR, tjX12_readMethod_44 R hR, tjX12_readMethod_89 R hR, tlX12_readMethod_159 R hR, tjX12_readMethod_207 R hR, tlX12_readMethod_261 R hR, tlX12_readMethod_346 R hR, hrec]
  all_goals rfl
set_option maxHeartbeats 4000000 in
theorem tlX12_readMethod_489 (R : Nat → Nat → Nat) (hR : R 285 = hm_R) : ∀ (n : Nat) (v1 : Int32) (v5 : Int32) (v8 : Int32) (v9 : Int32) (g : hm), lX12_readMethod_489 n 285 v1 v5 v8 v9 (gm g R) = hl_d R (nlX12_readMethod_489 n v1 v5 v8 v9 g) := by
  intro n
  induction n with
  | zero => intros; rfl
  | succ n ih =>
    intro v1 v5 v8 v9 g
    rw [lX12_readMethod_489_s, nlX12_readMethod_489_s]
    simp only [gm_I, gm_R, gm_w, gm_kd, gm_ln, not_false_eq_true, if_true, ite_true, gk_285, gk_286, gk_287, gk_288, gk_289, gk_290, gk_291, gk_292, gk_293, gk_294, gk_295, gk_296, gk_297, gk_298, gk_299, gk_300, gk_301, gk_302, gk_303, gk_304, gk_305, gk_306, gk_307, gk_308, gk_309, gk_310, gk_311, gk_312, gk_313, gk_314, gk_315, gk_316, gk_317, gk_318, gk_319, gn_286, gn_287, gn_288, gn_289, gn_290, gn_291, gn_292, gn_293, gn_294, gn_295, gn_296, gn_297, gn_298, gn_299, gn_300, gn_301, gn_302, gn_303, gn_304, gn_305, gn_306, gn_307, gn_308, gn_309, gn_310, gn_311, gn_312, gn_313, gn_314, gn_315, gn_316, gn_317, gn_318, gn_319, gr_1, gr_5, gr_6, gr_7, gr_8, gr_9, gr_10, gr_11, gr_12, gr_13, gr_14, gr_15, gr_16, gr_17, gr_18, gr_19, gr_20, gr_21, gr_23, gr_24, gr_25, gr_26, gr_27, gr_28, gr_29, gr_30, gr_32, gr_34, gr_35, gr_41, gr_42, gr_43, gr_44, gr_45, gz_1, gz_5, gz_6, gz_7, gz_8, gz_9, gz_10, gz_11, gz_12, gz_13, gz_14, gz_15, gz_16, gz_17, gz_18, gz_19, gz_20, gz_21, gz_23, gz_24, gz_25, gz_26, gz_27, gz_28, gz_29, gz_30, gz_32, gz_34, gz_35, gz_41, gz_42, gz_43, gz_44, gz_45, hl_v_none, hl_v_ite, hl_d_none, hl_d_ite, hl_3_none, hl_3_ite, hl_4_none, hl_4_ite, hl_5_none, hl_5_ite, hl_v_some, hl_d_some, hl_3_some, hl_4_some, hl_5_some, hl_v_bv, hl_d_bv, hl_3_bv, hl_4_bv, hl_5_bv, hl_bv, hl_v_bd, hl_d_bd, hl_3_bd, hl_4_bd, hl_5_bd, hl_bd, hl_v_b3, hl_d_b3, hl_3_b3, hl_4_b3, hl_5_b3, hl_b3, hl_v_b4, hl_d_b4, hl_3_b4, hl_4_b4, hl_5_b4, hl_b4, hl_v_b5, hl_d_b5, hl_3_b5, hl_4_b5, hl_5_b5, hl_b5, hs_bv_i, hm_bv_i, hR, tX12_instructions R hR, tX12_isBegin R hR, tX12_isJump R hR, tX12_one R hR, tX12_target R hR, tX12_two R hR, tX12_wrong R hR, tjX12_readMethod_14 R hR, tjX12_readMethod_44 R hR, tjX12_readMethod_89 R hR, tlX12_readMethod_159 R hR, tjX12_readMethod_207 R hR, tlX12_readMethod_261 R hR, tlX12_readMethod_346 R hR, ih, tjX12_readMethod_587 R hR _ _ (fun y0 y1 g => ih v1 v5 y0 y1 g)]
    all_goals rfl
set_option maxHeartbeats 4000000 in
theorem tjX12_readMethod_486 (R : Nat → Nat → Nat) (hR : R 285 = hm_R) (v1 : Int32) (v5 : Int32) (v8 : Int32) (g : hm) : jX12_readMethod_486 285 v1 v5 v8 (gm g R) = hl_d R (njX12_readMethod_486 v1 v5 v8 g) := by
  unfold jX12_readMethod_486 njX12_readMethod_486
  simp only [gm_I, gm_R, gm_w, gm_kd, gm_ln, not_false_eq_true, if_true, ite_true, gk_285, gk_286, gk_287, gk_288, gk_289, gk_290, gk_291, gk_292, gk_293, gk_294, gk_295, gk_296, gk_297, gk_298, gk_299, gk_300, gk_301, gk_302, gk_303, gk_304, gk_305, gk_306, gk_307, gk_308, gk_309, gk_310, gk_311, gk_312, gk_313, gk_314, gk_315, gk_316, gk_317, gk_318, gk_319, gn_286, gn_287, gn_288, gn_289, gn_290, gn_291, gn_292, gn_293, gn_294, gn_295, gn_296, gn_297, gn_298, gn_299, gn_300, gn_301, gn_302, gn_303, gn_304, gn_305, gn_306, gn_307, gn_308, gn_309, gn_310, gn_311, gn_312, gn_313, gn_314, gn_315, gn_316, gn_317, gn_318, gn_319, gr_1, gr_5, gr_6, gr_7, gr_8, gr_9, gr_10, gr_11, gr_12, gr_13, gr_14, gr_15, gr_16, gr_17, gr_18, gr_19, gr_20, gr_21, gr_23, gr_24, gr_25, gr_26, gr_27, gr_28, gr_29, gr_30, gr_32, gr_34, gr_35, gr_41, gr_42, gr_43, gr_44, gr_45, gz_1, gz_5, gz_6, gz_7, gz_8, gz_9, gz_10, gz_11, gz_12, gz_13, gz_14, gz_15, gz_16, gz_17, gz_18, gz_19, gz_20, gz_21, gz_23, gz_24, gz_25, gz_26, gz_27, gz_28, gz_29, gz_30, gz_32, gz_34, gz_35, gz_41, gz_42, gz_43, gz_44, gz_45, hl_v_none, hl_v_ite, hl_d_none, hl_d_ite, hl_3_none, hl_3_ite, hl_4_none, hl_4_ite, hl_5_none, hl_5_ite, hl_v_some, hl_d_some, hl_3_some, hl_4_some, hl_5_some, hl_v_bv, hl_d_bv, hl_3_bv, hl_4_bv, hl_5_bv, hl_bv, hl_v_bd, hl_d_bd, hl_3_bd, hl_4_bd, hl_5_bd, hl_bd, hl_v_b3, hl_d_b3, hl_3_b3, hl_4_b3, hl_5_b3, hl_b3, hl_v_b4, hl_d_b4, hl_3_b4, hl_4_b4, hl_5_b4, hl_b4, hl_v_b5, hl_d_b5, hl_3_b5, hl_4_b5, hl_5_b5, hl_b5, hs_bv_i, hm_bv_i, hR, tX12_instructions R hR, tX12_isBegin R hR, tX12_isJump R hR, tX12_one R hR, tX12_target R hR, tX12_two R hR, tX12_wrong R hR, tjX12_readMethod_14 R hR, tjX12_readMethod_44 R hR, tjX12_readMethod_89 R hR, tlX12_readMethod_159 R hR, tjX12_readMethod_207 R hR, tlX12_readMethod_261 R hR, tlX12_readMethod_346 R hR, tlX12_readMethod_489 R hR]
  all_goals rfl
set_option maxHeartbeats 4000000 in
theorem tX12_readMethod (R : Nat → Nat → Nat) (hR : R 285 = hm_R) (v1 : Int32) (v2 : Int32) (g : hm) : fX12_readMethod 285 v1 v2 (gm g R) = hl_d R (nX12_readMethod v1 v2 g) := by
  unfold fX12_readMethod nX12_readMethod
  simp only [gm_I, gm_R, gm_w, gm_kd, gm_ln, not_false_eq_true, if_true, ite_true, gk_285, gk_286, gk_287, gk_288, gk_289, gk_290, gk_291, gk_292, gk_293, gk_294, gk_295, gk_296, gk_297, gk_298, gk_299, gk_300, gk_301, gk_302, gk_303, gk_304, gk_305, gk_306, gk_307, gk_308, gk_309, gk_310, gk_311, gk_312, gk_313, gk_314, gk_315, gk_316, gk_317, gk_318, gk_319, gn_286, gn_287, gn_288, gn_289, gn_290, gn_291, gn_292, gn_293, gn_294, gn_295, gn_296, gn_297, gn_298, gn_299, gn_300, gn_301, gn_302, gn_303, gn_304, gn_305, gn_306, gn_307, gn_308, gn_309, gn_310, gn_311, gn_312, gn_313, gn_314, gn_315, gn_316, gn_317, gn_318, gn_319, gr_1, gr_5, gr_6, gr_7, gr_8, gr_9, gr_10, gr_11, gr_12, gr_13, gr_14, gr_15, gr_16, gr_17, gr_18, gr_19, gr_20, gr_21, gr_23, gr_24, gr_25, gr_26, gr_27, gr_28, gr_29, gr_30, gr_32, gr_34, gr_35, gr_41, gr_42, gr_43, gr_44, gr_45, gz_1, gz_5, gz_6, gz_7, gz_8, gz_9, gz_10, gz_11, gz_12, gz_13, gz_14, gz_15, gz_16, gz_17, gz_18, gz_19, gz_20, gz_21, gz_23, gz_24, gz_25, gz_26, gz_27, gz_28, gz_29, gz_30, gz_32, gz_34, gz_35, gz_41, gz_42, gz_43, gz_44, gz_45, hl_v_none, hl_v_ite, hl_d_none, hl_d_ite, hl_3_none, hl_3_ite, hl_4_none, hl_4_ite, hl_5_none, hl_5_ite, hl_v_some, hl_d_some, hl_3_some, hl_4_some, hl_5_some, hl_v_bv, hl_d_bv, hl_3_bv, hl_4_bv, hl_5_bv, hl_bv, hl_v_bd, hl_d_bd, hl_3_bd, hl_4_bd, hl_5_bd, hl_bd, hl_v_b3, hl_d_b3, hl_3_b3, hl_4_b3, hl_5_b3, hl_b3, hl_v_b4, hl_d_b4, hl_3_b4, hl_4_b4, hl_5_b4, hl_b4, hl_v_b5, hl_d_b5, hl_3_b5, hl_4_b5, hl_5_b5, hl_b5, hs_bv_i, hm_bv_i, hR, tX12_instructions R hR, tX12_isBegin R hR, tX12_isJump R hR, tX12_one R hR, tX12_target R hR, tX12_two R hR, tX12_wrong R hR, tjX12_readMethod_14 R hR, tjX12_readMethod_44 R hR, tjX12_readMethod_89 R hR, tlX12_readMethod_159 R hR, tjX12_readMethod_207 R hR, tlX12_readMethod_261 R hR, tlX12_readMethod_346 R hR, tlX12_readMethod_489 R hR, tjX12_readMethod_486 R hR]
  all_goals rfl
