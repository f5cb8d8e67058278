def njX12_told_24 (v1 : Int32) (v2 : Int32) (v3 : Int32) (g : hm) : Option (Int32 × hm) :=
  if v1 < 0 then (
    some ((-3 : Int32), g)
  ) else (
    if (g 285 4) ≤ v1 then (
      some ((-3 : Int32), g)
    ) else (
      if v3 < 0 then (
        some ((-3 : Int32), g)
      ) else (
        if v3 ≤ (5 : Int32) then (
          if v3 = (0 : Int32) then (
            if v2 = 0 then (
              if hs_in v1 8 = true then
              some ((g 289 v1.toNatClampNeg), g)
              else none
            ) else (
              if hs_in v1 8 = true then
              some ((g 305 v1.toNatClampNeg), g)
              else none
            )
          ) else (
          if v3 = (1 : Int32) then (
            hm_bd (nX12_countBlocks v1 g) fun r2 g1 =>
            some (r2, g1)
          ) else (
          if v3 = (2 : Int32) then (
            if hs_in v1 8 = true then
            some ((g 290 v1.toNatClampNeg), g)
            else none
          ) else (
          if v3 = (3 : Int32) then (
            if v2 = 0 then (
              some ((0 : Int32), g)
            ) else (
              if hs_in v1 8 = true then
              some ((g 307 v1.toNatClampNeg), g)
              else none
            )
          ) else (
          if v3 = (4 : Int32) then (
            hm_bd (nX12_longJumps v1 v2 g) fun r4 g3 =>
            if v2 = 0 then (
              some ((r4 - (0 : Int32)), g3)
            ) else (
              if hs_in v1 8 = true then
              some ((r4 - (g3 307 v1.toNatClampNeg)), g3)
              else none
            )
          ) else (
            if v2 = 0 then (
              hm_bd (nX12_deepest v1 g) fun r6 g5 =>
              some (r6, g5)
            ) else (
              some ((-1 : Int32), g)
            )
          )))))
        ) else (
          some ((-3 : Int32), g)
        )
      )
    )
  )
def nX12_told (v1 : Int32) (v2 : Int32) (v3 : Int32) (g : hm) : Option (Int32 × hm) :=
  if v2 = 0 then (
    if (g 285 3) = 0 then (
      some ((-2 : Int32), g)
    ) else (
      njX12_told_24 v1 v2 v3 g
    )
  ) else (
    if (g 285 22) = 0 then (
      some ((-2 : Int32), g)
    ) else (
      njX12_told_24 v1 v2 v3 g
    )
  )
set_option maxHeartbeats 4000000 in
theorem tjX12_told_24 (R : Nat → Nat → Nat) (hR : R 285 = hm_R) (v1 : Int32) (v2 : Int32) (v3 : Int32) (g : hm) : jX12_told_24 285 v1 v2 v3 (gm g R) = hl_d R (njX12_told_24 v1 v2 v3 g) := by
  unfold jX12_told_24 njX12_told_24
  simp only [gm_I, gm_R, gm_w, gm_kd, gm_ln, not_false_eq_true, if_true, ite_true, gk_285, gk_286, gk_287, gk_288, gk_289, gk_290, gk_291, gk_292, gk_293, gk_294, gk_295, gk_296, gk_297, gk_298, gk_299, gk_300, gk_301, gk_302, gk_303, gk_304, gk_305, gk_306, gk_307, gk_308, gk_309, gk_310, gk_311, gk_312, gk_313, gk_314, gk_315, gk_316, gk_317, gk_318, gk_319, gn_286, gn_287, gn_288, gn_289, gn_290, gn_291, gn_292, gn_293, gn_294, gn_295, gn_296, gn_297, gn_298, gn_299, gn_300, gn_301, gn_302, gn_303, gn_304, gn_305, gn_306, gn_307, gn_308, gn_309, gn_310, gn_311, gn_312, gn_313, gn_314, gn_315, gn_316, gn_317, gn_318, gn_319, gr_1, gr_5, gr_6, gr_7, gr_8, gr_9, gr_10, gr_11, gr_12, gr_13, gr_14, gr_15, gr_16, gr_17, gr_18, gr_19, gr_20, gr_21, gr_23, gr_24, gr_25, gr_26, gr_27, gr_28, gr_29, gr_30, gr_32, gr_34, gr_35, gr_41, gr_42, gr_43, gr_44, gr_45, gz_1, gz_5, gz_6, gz_7, gz_8, gz_9, gz_10, gz_11, gz_12, gz_13, gz_14, gz_15, gz_16, gz_17, gz_18, gz_19, gz_20, gz_21, gz_23, gz_24, gz_25, gz_26, gz_27, gz_28, gz_29, gz_30, gz_32, gz_34, gz_35, gz_41, gz_42, gz_43, gz_44, gz_45, hl_v_none, hl_v_ite, hl_d_none, hl_d_ite, hl_3_none, hl_3_ite, hl_4_none, hl_4_ite, hl_5_none, hl_5_ite, hl_v_some, hl_d_some, hl_3_some, hl_4_some, hl_5_some, hl_v_bv, hl_d_bv, hl_3_bv, hl_4_bv, hl_5_bv, hl_bv, hl_v_bd, hl_d_bd, hl_3_bd, hl_4_bd, hl_5_bd, hl_bd, hl_v_b3, hl_d_b3, hl_3_b3, hl_4_b3, hl_5_b3, hl_b3, hl_v_b4, hl_d_b4, hl_3_b4, hl_4_b4, hl_5_b4, hl_b4, hl_v_b5, hl_d_b5, hl_3_b5, hl_4_b5, hl_5_b5, hl_b5, hs_bv_i, hm_bv_i, hR, tX12_countBlocks R hR, tX12_deepest R hR, tX12_longJumps R hR]
  all_goals first | rfl | (split <;> simp_all)
set_option maxHeartbeats 4000000 in
theorem tX12_told (R : Nat → Nat → Nat) (hR : R 285 = hm_R) (v1 : Int32) (v2 : Int32) (v3 : Int32) (g : hm) : fX12_told 285 v1 v2 v3 (gm g R) = hl_d R (nX12_told v1 v2 v3 g) := by
  unfold fX12_told nX12_told
  simp only [gm_I, gm_R, gm_w, gm_kd, gm_ln, not_false_eq_true, if_true, ite_true, gk_285, gk_286, gk_287, gk_288, gk_289, gk_290, gk_291, gk_292, gk_293, gk_294, gk_295, gk_296, gk_297, gk_298, gk_299, gk_300, gk_301, gk_302, gk_303, gk_304, gk_305, gk_306, gk_307, gk_308, gk_309, gk_310, gk_311, gk_312, gk_313, gk_314, gk_315, gk_316, gk_317, gk_318, gk_319, gn_286, gn_287, gn_288, gn_289, gn_290, gn_291, gn_292, gn_293, gn_294, gn_295, gn_296, gn_297, gn_298, gn_299, gn_300, gn_301, gn_302, gn_303, gn_304, gn_305, gn_306, gn_307, gn_308, gn_309, gn_310, gn_311, gn_312, gn_313, gn_314, gn_315, gn_316, gn_317, gn_318, gn_319, gr_1, gr_5, gr_6, gr_7, gr_8, gr_9, gr_10, gr_11, gr_12, gr_13, gr_14, gr_15, gr_16, gr_17, gr_18, gr_19, gr_20, gr_21, gr_23, gr_24, gr_25, gr_26, gr_27, gr_28, gr_29, gr_30, gr_32, gr_34, gr_35, gr_41, gr_42, gr_43, gr_44, gr_45, gz_1, gz_5, gz_6, gz_7, gz_8, gz_9, gz_10, gz_11, gz_12, gz_13, gz_14, gz_15, gz_16, gz_17, gz_18, gz_19, gz_20, gz_21, gz_23, gz_24, gz_25, gz_26, gz_27, gz_28, gz_29, gz_30, gz_32, gz_34, gz_35, gz_41, gz_42, gz_43, gz_44, gz_45, hl_v_none, hl_v_ite, hl_d_none, hl_d_ite, hl_3_none, hl_3_ite, hl_4_none, hl_4_ite, hl_5_none, hl_5_ite, hl_v_some, hl_d_some, hl_3_some, hl_4_some, hl_5_some, hl_v_bv, hl_d_bv, hl_3_bv, hl_4_bv, hl_5_bv, hl_bv, hl_v_bd, hl_d_bd, hl_3_bd, hl_4_bd, hl_5_bd, hl_bd, hl_v_b3, hl_d_b3, hl_3_b3, hl_4_b3, hl_5_b3, hl_b3, hl_v_b4, hl_d_b4, hl_3_b4, hl_4_b4, hl_5_b4, hl_b4, hl_v_b5, hl_d_b5, hl_3_b5, hl_4_b5, hl_5_b5, hl_b5, hs_bv_i, hm_bv_i, hR, tX12_countBlocks R hR, tX12_deepest R hR, tX12_longJumps R hR, tjX12_told_24 R hR]
  all_goals first | rfl | (split <;> simp_all)
def njX12_byteAt_60 (v1 : Int32) (v2 : Int32) (v3 : Int32) (s0 : Int32) (s1 : Int32) (g : hm) : Option (Int32 × hm) :=
  if s1 < s0 then (
    if v2 = 0 then (
      hm_bd (nX12_kindAt v1 v3 g) fun r2 g1 =>
      some (r2, g1)
    ) else (
      if hs_in (((4001 : Int32) * v1) + v3) 32008 = true then
      some ((g 304 (((4001 : Int32) * v1) + v3).toNatClampNeg), g)
      else none
    )
  ) else (
    some ((-3 : Int32), g)
  )
def njX12_byteAt_24 (v1 : Int32) (v2 : Int32) (v3 : Int32) (g : hm) : Option (Int32 × hm) :=
  if v1 < 0 then (
    some ((-3 : Int32), g)
  ) else (
    if (g 285 4) ≤ v1 then (
      some ((-3 : Int32), g)
    ) else (
      if v3 < 0 then (
        some ((-3 : Int32), g)
      ) else (
        if v2 = 0 then (
          if hs_in v1 8 = true then
          njX12_byteAt_60 v1 v2 v3 (g 289 v1.toNatClampNeg) v3 g
          else none
        ) else (
          if hs_in v1 8 = true then
          njX12_byteAt_60 v1 v2 v3 (g 305 v1.toNatClampNeg) v3 g
          else none
        )
      )
    )
  )
def nX12_byteAt (v1 : Int32) (v2 : Int32) (v3 : Int32) (g : hm) : Option (Int32 × hm) :=
  if v2 = 0 then (
    if (g 285 3) = 0 then (
      some ((-2 : Int32), g)
    ) else (
      njX12_byteAt_24 v1 v2 v3 g
    )
  ) else (
    if (g 285 22) = 0 then (
      some ((-2 : Int32), g)
    ) else (
      njX12_byteAt_24 v1 v2 v3 g
    )
  )
set_option maxHeartbeats 4000000 in
theorem tjX12_byteAt_60 (R : Nat → Nat → Nat) (hR : R 285 = hm_R) (v1 : Int32) (v2 : Int32) (v3 : Int32) (s0 : Int32) (s1 : Int32) (g : hm) : jX12_byteAt_60 285 v1 v2 v3 s0 s1 (gm g R) = hl_d R (njX12_byteAt_60 v1 v2 v3 s0 s1 g) := by
  unfold jX12_byteAt_60 njX12_byteAt_60
  simp only [gm_I, gm_R, gm_w, gm_kd, gm_ln, not_false_eq_true, if_true, ite_true, gk_285, gk_286, gk_287, gk_288, gk_289, gk_290, gk_291, gk_292, gk_293, gk_294, gk_295, gk_296, gk_297, gk_298, gk_299, gk_300, gk_301, gk_302, gk_303, gk_304, gk_305, gk_306, gk_307, gk_308, gk_309, gk_310, gk_311, gk_312, gk_313, gk_314, gk_315, gk_316, gk_317, gk_318, gk_319, gn_286, gn_287, gn_288, gn_289, gn_290, gn_291, gn_292, gn_293, gn_294, gn_295, gn_296, gn_297, gn_298, gn_299, gn_300, gn_301, gn_302, gn_303, gn_304, gn_305, gn_306, gn_307, gn_308, gn_309, gn_310, gn_311, gn_312, gn_313, gn_314, gn_315, gn_316, gn_317, gn_318, gn_319, gr_1, gr_5, gr_6, gr_7, gr_8, gr_9, gr_10, gr_11, gr_12, gr_13, gr_14, gr_15, gr_16, gr_17, gr_18, gr_19, gr_20, gr_21, gr_23, gr_24, gr_25, gr_26, gr_27, gr_28, gr_29, gr_30, gr_32, gr_34, gr_35, gr_41, gr_42, gr_43, gr_44, gr_45, gz_1, gz_5, gz_6, gz_7, gz_8, gz_9, gz_10, gz_11, gz_12, gz_13, gz_14, gz_15, gz_16, gz_17, gz_18, gz_19, gz_20, gz_21, gz_23, gz_24, gz_25, gz_26, gz_27, gz_28, gz_29, gz_30, gz_32, gz_34, gz_35, gz_41, gz_42, gz_43, gz_44, gz_45, hl_v_none, hl_v_ite, hl_d_none, hl_d_ite, hl_3_none, hl_3_ite, hl_4_none, hl_4_ite, hl_5_none, hl_5_ite, hl_v_some, hl_d_some, hl_3_some, hl_4_some, hl_5_some, hl_v_bv, hl_d_bv, hl_3_bv, hl_4_bv, hl_5_bv, hl_bv, hl_v_bd, hl_d_bd, hl_3_bd, hl_4_bd, hl_5_bd, hl_bd, hl_v_b3, hl_d_b3, hl_3_b3, hl_4_b3, hl_5_b3, hl_b3, hl_v_b4, hl_d_b4, hl_3_b4, hl_4_b4, hl_5_b4, hl_b4, hl_v_b5, hl_d_b5, hl_3_b5, hl_4_b5, hl_5_b5, hl_b5, hs_bv_i, hm_bv_i, hR, tX12_kindAt R hR]
  all_goals first | rfl | (split <;> simp_all)
set_option maxHeartbeats 4000000 in
theorem tjX12_byteAt_24 (R : Nat → Nat → Nat) (hR : R 285 = hm_R) (v1 : Int32) (v2 : Int32) (v3 : Int32) (g : hm) : jX12_byteAt_24 285 v1 v2 v3 (gm g R) = hl_d R (njX12_byteAt_24 v1 v2 v3 g) := by
  unfold jX12_byteAt_24 njX12_byteAt_24
  simp only [gm_I, gm_R, gm_w, gm_kd, gm_ln, not_false_eq_true, if_true, ite_true, gk_285, gk_286, gk_287, gk_288, gk_289, gk_290, gk_291, gk_292, gk_293, gk_294, gk_295, gk_296, gk_297, gk_298, gk_299, gk_300, gk_301, gk_302, gk_303, gk_304, gk_305, gk_306, gk_307, gk_308, gk_309, gk_310, gk_311, gk_312, gk_313, gk_314, gk_315, gk_316, gk_317, gk_318, gk_319, gn_286, gn_287, gn_288, gn_289, gn_290, gn_291, gn_292, gn_293, gn_294, gn_295, gn_296, gn_297, gn_298, gn_299, gn_300, gn_301, gn_302, gn_303, gn_304, gn_305, gn_306, gn_307, gn_308, gn_309, gn_310, gn_311, gn_312, gn_313, gn_314, gn_315, gn_316, gn_317, gn_318, gn_319, gr_1, gr_5, gr_6, gr_7, gr_8, gr_9, gr_10, gr_11, gr_12, gr_13, gr_14, gr_15, gr_16, gr_17, gr_18, gr_19, gr_20, gr_21, gr_23, gr_24, gr_25, gr_26, gr_27, gr_28, gr_29, gr_30, gr_32, gr_34, gr_35, gr_41, gr_42, gr_43, gr_44, gr_45, gz_1, gz_5, gz_6, gz_7, gz_8, gz_9, gz_10, gz_11, gz_12, gz_13, gz_14, gz_15, gz_16, gz_17, gz_18, gz_19, gz_20, gz_21, gz_23, gz_24, gz_25, gz_26, gz_27, gz_28, gz_29, gz_30, gz_32, gz_34, gz_35, gz_41, gz_42, gz_43, gz_44, gz_45, hl_v_none, hl_v_ite, hl_d_none, hl_d_ite, hl_3_none, hl_3_ite, hl_4_none, hl_4_ite, hl_5_none, hl_5_ite, hl_v_some, hl_d_some, hl_3_some, hl_4_some, hl_5_some, hl_v_bv, hl_d_bv, hl_3_bv, hl_4_bv, hl_5_bv, hl_bv, hl_v_bd, hl_d_bd, hl_3_bd, hl_4_bd, hl_5_bd, hl_bd, hl_v_b3, hl_d_b3, hl_3_b3, hl_4_b3, hl_5_b3, hl_b3, hl_v_b4, hl_d_b4, hl_3_b4, hl_4_b4, hl_5_b4, hl_b4, hl_v_b5, hl_d_b5, hl_3_b5, hl_4_b5, hl_5_b5, hl_b5, hs_bv_i, hm_bv_i, hR, tX12_kindAt R hR, tjX12_byteAt_60 R hR]
  all_goals first | rfl | (split <;> simp_all)
set_option maxHeartbeats 4000000 in
theorem tX12_byteAt (R : Nat → Nat → Nat) (hR : R 285 = hm_R) (v1 : Int32) (v2 : Int32) (v3 : Int32) (g : hm) : fX12_byteAt 285 v1 v2 v3 (gm g R) = hl_d R (nX12_byteAt v1 v2 v3 g) := by
  unfold fX12_byteAt nX12_byteAt
  simp only [gm_I, gm_R, gm_w, gm_kd, gm_ln, not_false_eq_true, if_true, ite_true, gk_285, gk_286, gk_287, gk_288, gk_289, gk_290, gk_291, gk_292, gk_293, gk_294, gk_295, gk_296, gk_297, gk_298, gk_299, gk_300, gk_301, gk_302, gk_303, gk_304, gk_305, gk_306, gk_307, gk_308, gk_309, gk_310, gk_311, gk_312, gk_313, gk_314, gk_315, gk_316, gk_317, gk_318, gk_319, gn_286, gn_287, gn_288, gn_289, gn_290, gn_291, gn_292, gn_293, gn_294, gn_295, gn_296, gn_297, gn_298, gn_299, gn_300, gn_301, gn_302, gn_303, gn_304, gn_305, gn_306, gn_307, gn_308, gn_309, gn_310, gn_311, gn_312, gn_313, gn_314, gn_315, gn_316, gn_317, gn_318, gn_319, gr_1, gr_5, gr_6, gr_7, gr_8, gr_9, gr_10, gr_11, gr_12, gr_13, gr_14, gr_15, gr_16, gr_17, gr_18, gr_19, gr_20, gr_21, gr_23, gr_24, gr_25, gr_26, gr_27, gr_28, gr_29, gr_30, gr_32, gr_34, gr_35, gr_41, gr_42, gr_43, gr_44, gr_45, gz_1, gz_5, gz_6, gz_7, gz_8, gz_9, gz_10, gz_11, gz_12, gz_13, gz_14, gz_15, gz_16, gz_17, gz_18, gz_19, gz_20, gz_21, gz_23, gz_24, gz_25, gz_26, gz_27, gz_28, gz_29, gz_30, gz_32, gz_34, gz_35, gz_41, gz_42, gz_43, gz_44, gz_45, hl_v_none, hl_v_ite, hl_d_none, hl_d_ite, hl_3_none, hl_3_ite, hl_4_none, hl_4_ite, hl_5_none, hl_5_ite, hl_v_some, hl_d_some, hl_3_some, hl_4_some, hl_5_some, hl_v_bv, hl_d_bv, hl_3_bv, hl_4_bv, hl_5_bv, hl_bv, hl_v_bd, hl_d_bd, hl_3_bd, hl_4_bd, hl_5_bd, hl_bd, hl_v_b3, hl_d_b3, hl_3_b3, hl_4_b3, hl_5_b3, hl_b3, hl_v_b4, hl_d_b4, hl_3_b4, hl_4_b4, hl_5_b4, hl_b4, hl_v_b5, hl_d_b5, hl_3_b5, hl_4_b5, hl_5_b5, hl_b5, hs_bv_i, hm_bv_i, hR, tX12_kindAt R hR, tjX12_byteAt_60 R hR, tjX12_byteAt_24 R hR]
  all_goals first | rfl | (split <;> simp_all)
def njX12_handler_24 (v1 : Int32) (v2 : Int32) (v3 : Int32) (v4 : Int32) (g : hm) : Option (Int32 × hm) :=
  if v1 < 0 then (
    some ((-3 : Int32), g)
  ) else (
    if (g 285 4) ≤ v1 then (
      some ((-3 : Int32), g)
    ) else (
      if v3 < 0 then (
        some ((-3 : Int32), g)
      ) else (
        if hs_in v1 8 = true then
        if (g 290 v1.toNatClampNeg) ≤ v3 then (
          some ((-3 : Int32), g)
        ) else (
          if v4 < 0 then (
            some ((-3 : Int32), g)
          ) else (
            if v4 ≤ (3 : Int32) then (
              if v2 = 0 then (
                if hs_in ((((32 : Int32) * v1) + ((4 : Int32) * v3)) + v4) 256 = true then
                some ((g 291 ((((32 : Int32) * v1) + ((4 : Int32) * v3)) + v4).toNatClampNeg), g)
                else none
              ) else (
                if hs_in ((((32 : Int32) * v1) + ((4 : Int32) * v3)) + v4) 256 = true then
                some ((g 306 ((((32 : Int32) * v1) + ((4 : Int32) * v3)) + v4).toNatClampNeg), g)
                else none
              )
            ) else (
              some ((-3 : Int32), g)
            )
          )
        )
        else none
      )
    )
  )
def nX12_handler (v1 : Int32) (v2 : Int32) (v3 : Int32) (v4 : Int32) (g : hm) : Option (Int32 × hm) :=
  if v2 = 0 then (
    if (g 285 3) = 0 then (
      some ((-2 : Int32), g)
    ) else (
      njX12_handler_24 v1 v2 v3 v4 g
    )
  ) else (
    if (g 285 22) = 0 then (
      some ((-2 : Int32), g)
    ) else (
      njX12_handler_24 v1 v2 v3 v4 g
    )
  )
set_option maxHeartbeats 4000000 in
theorem tjX12_handler_24 (R : Nat → Nat → Nat) (hR : R 285 = hm_R) (v1 : Int32) (v2 : Int32) (v3 : Int32) (v4 : Int32) (g : hm) : jX12_handler_24 285 v1 v2 v3 v4 (gm g R) = hl_d R (njX12_handler_24 v1 v2 v3 v4 g) := by
  unfold jX12_handler_24 njX12_handler_24
  simp only [gm_I, gm_R, gm_w, gm_kd, gm_ln, not_false_eq_true, if_true, ite_true, gk_285, gk_286, gk_287, gk_288, gk_289, gk_290, gk_291, gk_292, gk_293, gk_294, gk_295, gk_296, gk_297, gk_298, gk_299, gk_300, gk_301, gk_302, gk_303, gk_304, gk_305, gk_306, gk_307, gk_308, gk_309, gk_310, gk_311, gk_312, gk_313, gk_314, gk_315, gk_316, gk_317, gk_318, gk_319, gn_286, gn_287, gn_288, gn_289, gn_290, gn_291, gn_292, gn_293, gn_294, gn_295, gn_296, gn_297, gn_298, gn_299, gn_300, gn_301, gn_302, gn_303, gn_304, gn_305, gn_306, gn_307, gn_308, gn_309, gn_310, gn_311, gn_312, gn_313, gn_314, gn_315, gn_316, gn_317, gn_318, gn_319, gr_1, gr_5, gr_6, gr_7, gr_8, gr_9, gr_10, gr_11, gr_12, gr_13, gr_14, gr_15, gr_16, gr_17, gr_18, gr_19, gr_20, gr_21, gr_23, gr_24, gr_25, gr_26, gr_27, gr_28, gr_29, gr_30, gr_32, gr_34, gr_35, gr_41, gr_42, gr_43, gr_44, gr_45, gz_1, gz_5, gz_6, gz_7, gz_8, gz_9, gz_10, gz_11, gz_12, gz_13, gz_14, gz_15, gz_16, gz_17, gz_18, gz_19, gz_20, gz_21, gz_23, gz_24, gz_25, gz_26, gz_27, gz_28, gz_29, gz_30, gz_32, gz_34, gz_35, gz_41, gz_42, gz_43, gz_44, gz_45, hl_v_none, hl_v_ite, hl_d_none, hl_d_ite, hl_3_none, hl_3_ite, hl_4_none, hl_4_ite, hl_5_none, hl_5_ite, hl_v_some, hl_d_some, hl_3_some, hl_4_some, hl_5_some, hl_v_bv, hl_d_bv, hl_3_bv, hl_4_bv, hl_5_bv, hl_bv, hl_v_bd, hl_d_bd, hl_3_bd, hl_4_bd, hl_5_bd, hl_bd, hl_v_b3, hl_d_b3, hl_3_b3, hl_4_b3, hl_5_b3, hl_b3, hl_v_b4, hl_d_b4, hl_3_b4, hl_4_b4, hl_5_b4, hl_b4, hl_v_b5, hl_d_b5, hl_3_b5, hl_4_b5, hl_5_b5, hl_b5, hs_bv_i, hm_bv_i, hR]
  all_goals first | rfl | (split <;> simp_all)
set_option maxHeartbeats 4000000 in
theorem tX12_handler (R : Nat → Nat → Nat) (hR : R 285 = hm_R) (v1 : Int32) (v2 : Int32) (v3 : Int32) (v4 : Int32) (g : hm) : fX12_handler 285 v1 v2 v3 v4 (gm g R) = hl_d R (nX12_handler v1 v2 v3 v4 g) := by
  unfold fX12_handler nX12_handler
  simp only [gm_I, gm_R, gm_w, gm_kd, gm_ln, not_false_eq_true, if_true, ite_true, gk_285, gk_286, gk_287, gk_288, gk_289, gk_290, gk_291, gk_292, gk_293, gk_294, gk_295, gk_296, gk_297, gk_298, gk_299, gk_300, gk_301, gk_302, gk_303, gk_304, gk_305, gk_306, gk_307, gk_308, gk_309, gk_310, gk_311, gk_312, gk_313, gk_314, gk_315, gk_316, gk_317, gk_318, gk_319, gn_286, gn_287, gn_288, gn_289, gn_290, gn_291, gn_292, gn_293, gn_294, gn_295, gn_296, gn_297, gn_298, gn_299, gn_300, gn_301, gn_302, gn_303, gn_304, gn_305, gn_306, gn_307, gn_308, gn_309, gn_310, gn_311, gn_312, gn_313, gn_314, gn_315, gn_316, gn_317, gn_318, gn_319, gr_1, gr_5, gr_6, gr_7, gr_8, gr_9, gr_10, gr_11, gr_12, gr_13, gr_14, gr_15, gr_16, gr_17, gr_18, gr_19, gr_20, gr_21, gr_23, gr_24, gr_25, gr_26, gr_27, gr_28, gr_29, gr_30, gr_32, gr_34, gr_35, gr_41, gr_42, gr_43, gr_44, gr_45, gz_1, gz_5, gz_6, gz_7, gz_8, gz_9, gz_10, gz_11, gz_12, gz_13, gz_14, gz_15, gz_16, gz_17, gz_18, gz_19, gz_20, gz_21, gz_23, gz_24, gz_25, gz_26, gz_27, gz_28, gz_29, gz_30, gz_32, gz_34, gz_35, gz_41, gz_42, gz_43, gz_44, gz_45, hl_v_none, hl_v_ite, hl_d_none, hl_d_ite, hl_3_none, hl_3_ite, hl_4_none, hl_4_ite, hl_5_none, hl_5_ite, hl_v_some, hl_d_some, hl_3_some, hl_4_some, hl_5_some, hl_v_bv, hl_d_bv, hl_3_bv, hl_4_bv, hl_5_bv, hl_bv, hl_v_bd, hl_d_bd, hl_3_bd, hl_4_bd, hl_5_bd, hl_bd, hl_v_b3, hl_d_b3, hl_3_b3, hl_4_b3, hl_5_b3, hl_b3, hl_v_b4, hl_d_b4, hl_3_b4, hl_4_b4, hl_5_b4, hl_b4, hl_v_b5, hl_d_b5, hl_3_b5, hl_4_b5, hl_5_b5, hl_b5, hs_bv_i, hm_bv_i, hR, tjX12_handler_24 R hR]
  all_goals first | rfl | (split <;> simp_all)
def nlX12_block_62 : Nat → Int32 → Int32 → Int32 → Int32 → Int32 → hm → Option (Int32 × hm)
  | 0, _, _, _, _, _, _ => none
  | n + 1, v1, v2, v3, v4, v5, g =>
    if hs_in v4 2008 = true then
    if (g 294 v4.toNatClampNeg) = 0 then (
      nlX12_block_62 n v1 v2 v3 (v4 + (1 : Int32)) v5 g
    ) else (
      some (v4, g)
    )
    else none
theorem nlX12_block_62_s (n : Nat) (v1 : Int32) (v2 : Int32) (v3 : Int32) (v4 : Int32) (v5 : Int32) (g : hm) : nlX12_block_62 (n + 1) v1 v2 v3 v4 v5 g =
    if hs_in v4 2008 = true then
    if (g 294 v4.toNatClampNeg) = 0 then (
      nlX12_block_62 n v1 v2 v3 (v4 + (1 : Int32)) v5 g
    ) else (
      some (v4, g)
    )
    else none := rfl
def nlX12_block_53 : Nat → Int32 → Int32 → Int32 → Int32 → Int32 → hm → Option (Int32 × hm)
  | 0, _, _, _, _, _, _ => none
  | n + 1, v1, v2, v3, v4, v5, g =>
    if v2 < v5 then (
      some (v4, g)
    ) else (
      hm_bd (nlX12_block_62 hs_N v1 v2 v3 (v4 + (1 : Int32)) v5 g) fun x3 g5 =>
      nlX12_block_53 n v1 v2 v3 x3 (v5 + (1 : Int32)) g5
    )
theorem nlX12_block_53_s (n : Nat) (v1 : Int32) (v2 : Int32) (v3 : Int32) (v4 : Int32) (v5 : Int32) (g : hm) : nlX12_block_53 (n + 1) v1 v2 v3 v4 v5 g =
    if v2 < v5 then (
      some (v4, g)
    ) else (
      hm_bd (nlX12_block_62 hs_N v1 v2 v3 (v4 + (1 : Int32)) v5 g) fun x3 g5 =>
      nlX12_block_53 n v1 v2 v3 x3 (v5 + (1 : Int32)) g5
    ) := rfl
def nX12_block (v1 : Int32) (v2 : Int32) (v3 : Int32) (g : hm) : Option (Int32 × hm) :=
  if (g 285 3) = 0 then (
    some ((-2 : Int32), g)
  ) else (
    if v1 < 0 then (
      some ((-3 : Int32), g)
    ) else (
      if (g 285 4) ≤ v1 then (
        some ((-3 : Int32), g)
      ) else (
        if v3 < 0 then (
          some ((-3 : Int32), g)
        ) else (
          if (1 : Int32) < v3 then (
            some ((-3 : Int32), g)
          ) else (
            if v2 < 0 then (
              some ((-3 : Int32), g)
            ) else (
              hm_bd (nX12_countBlocks v1 g) fun r2 g1 =>
              if v2 < r2 then (
                hm_bd (nlX12_block_53 hs_N v1 v2 v3 (-1 : Int32) (0 : Int32) g1) fun x7 g9 =>
                if v3 = 0 then (
                  some (x7, g9)
                ) else (
                  hm_bd (nX12_sum v1 x7 g9) fun r12 g11 =>
                  some (r12, g11)
                )
              ) else (
                some ((-3 : Int32), g1)
              )
            )
          )
        )
      )
    )
  )
set_option maxHeartbeats 4000000 in
theorem tlX12_block_62 (R : Nat → Nat → Nat) (hR : R 285 = hm_R) : ∀ (n : Nat) (v1 : Int32) (v2 : Int32) (v3 : Int32) (v4 : Int32) (v5 : Int32) (g : hm), lX12_block_62 n 285 v1 v2 v3 v4 v5 (gm g R) = hl_d R (nlX12_block_62 n v1 v2 v3 v4 v5 g) := by
  intro n
  induction n with
  | zero => intros; rfl
  | succ n ih =>
    intro v1 v2 v3 v4 v5 g
    rw [lX12_block_62_s, nlX12_block_62_s]
    simp only [gm_I, gm_R, gm_w, gm_kd, gm_ln, not_false_eq_true, if_true, ite_true, gk_285, gk_286, gk_287, gk_288, gk_289, gk_290, gk_291, gk_292, gk_293, gk_294, gk_295, gk_296, gk_297, gk_298, gk_299, gk_300, gk_301, gk_302, gk_303, gk_304, gk_305, gk_306, gk_307, gk_308, gk_309, gk_310, gk_311, gk_312, gk_313, gk_314, gk_315, gk_316, gk_317, gk_318, gk_319, gn_286, gn_287, gn_288, gn_289, gn_290, gn_291, gn_292, gn_293, gn_294, gn_295, gn_296, gn_297, gn_298, gn_299, gn_300, gn_301, gn_302, gn_303, gn_304, gn_305, gn_306, gn_307, gn_308, gn_309, gn_310, gn_311, gn_312, gn_313, gn_314, gn_315, gn_316, gn_317, gn_318, gn_319, gr_1, gr_5, gr_6, gr_7, gr_8, gr_9, gr_10, gr_11, gr_12, gr_13, gr_14, gr_15, gr_16, gr_17, gr_18, gr_19, gr_20, gr_21, gr_23, gr_24, gr_25, gr_26, gr_27, gr_28, gr_29, gr_30, gr_32, gr_34, gr_35, gr_41, gr_42, gr_43, gr_44, gr_45, gz_1, gz_5, gz_6, gz_7, gz_8, gz_9, gz_10, gz_11, gz_12, gz_13, gz_14, gz_15, gz_16, gz_17, gz_18, gz_19, gz_20, gz_21, gz_23, gz_24, gz_25, gz_26, gz_27, gz_28, gz_29, gz_30, gz_32, gz_34, gz_35, gz_41, gz_42, gz_43, gz_44, gz_45, hl_v_none, hl_v_ite, hl_d_none, hl_d_ite, hl_3_none, hl_3_ite, hl_4_none, hl_4_ite, hl_5_none, hl_5_ite, hl_v_some, hl_d_some, hl_3_some, hl_4_some, hl_5_some, hl_v_bv, hl_d_bv, hl_3_bv, hl_4_bv, hl_5_bv, hl_bv, hl_v_bd, hl_d_bd, hl_3_bd, hl_4_bd, hl_5_bd, hl_bd, hl_v_b3, hl_d_b3, hl_3_b3, hl_4_b3, hl_5_b3, hl_b3, hl_v_b4, hl_d_b4, hl_3_b4, hl_4_b4, hl_5_b4, hl_b4, hl_v_b5, hl_d_b5, hl_3_b5, hl_4_b5, hl_5_b5, hl_b5, hs_bv_i, hm_bv_i, hR, tX12_countBlocks R hR, tX12_sum R hR, ih]
    all_goals first | rfl | (split <;> simp_all)
set_option maxHeartbeats 4000000 in
theorem tlX12_block_53 (R : Nat → Nat → Nat) (hR : R 285 = hm_R) : ∀ (n : Nat) (v1 : Int32) (v2 : Int32) (v3 : Int32) (v4 : Int32) (v5 : Int32) (g : hm), lX12_block_53 n 285 v1 v2 v3 v4 v5 (gm g R) = hl_d R (nlX12_block_53 n v1 v2 v3 v4 v5 g) := by
  intro n
  induction n with
  | zero => intros; rfl
  | succ n ih =>
    intro v1 v2 v3 v4 v5 g
    rw [lX12_block_53_s, nlX12_block_53_s]
    simp only [gm_I, gm_R, gm_w, gm_kd, gm_ln, not_false_eq_true, if_true, ite_true, gk_285, gk_286, gk_287, gk_288, gk_289, gk_290, gk_291, gk_292, gk_293, gk_294, gk_295, gk_296, gk_297, gk_298, gk_299, gk_300, gk_301, gk_302, gk_303, gk_304, gk_305, gk_306, gk_307, gk_308, gk_309, gk_310, gk_311, gk_312, gk_313, gk_314, gk_315, gk_316, gk_317, gk_318, gk_319, gn_286, gn_287, gn_288, gn_289, gn_290, gn_291, gn_292, gn_293, gn_294, gn_295, gn_296, gn_297, gn_298, gn_299, gn_300, gn_301, gn_302, gn_303, gn_304, gn_305, gn_306, gn_307, gn_308, gn_309, gn_310, gn_311, gn_312, gn_313, gn_314, gn_315, gn_316, gn_317, gn_318, gn_319, gr_1, gr_5, gr_6, gr_7, gr_8, gr_9, gr_10, gr_11, gr_12, gr_13, gr_14, gr_15, gr_16, gr_17, gr_18, gr_19, gr_20, gr_21, gr_23, gr_24, gr_25, gr_26, gr_27, gr_28, gr_29, gr_30, gr_32, gr_34, gr_35, gr_41, gr_42, gr_43, gr_44, gr_45, gz_1, gz_5, gz_6, gz_7, gz_8, gz_9, gz_10, gz_11, gz_12, gz_13, gz_14, gz_15, gz_16, gz_17, gz_18, gz_19, gz_20, gz_21, gz_23, gz_24, gz_25, gz_26, gz_27, gz_28, gz_29, gz_30, gz_32, gz_34, gz_35, gz_41, gz_42, gz_43, gz_44, gz_45, hl_v_none, hl_v_ite, hl_d_none, hl_d_ite, hl_3_none, hl_3_ite, hl_4_none, hl_4_ite, hl_5_none, hl_5_ite, hl_v_some, hl_d_some, hl_3_some, hl_4_some, hl_5_some, hl_v_bv, hl_d_bv, hl_3_bv, hl_4_bv, hl_5_bv, hl_bv, hl_v_bd, hl_d_bd, hl_3_bd, hl_4_bd, hl_5_bd, hl_bd, hl_v_b3, hl_d_b3, hl_3_b3, hl_4_b3, hl_5_b3, hl_b3, hl_v_b4, hl_d_b4, hl_3_b4, hl_4_b4, hl_5_b4, hl_b4, hl_v_b5, hl_d_b5, hl_3_b5, hl_4_b5, hl_5_b5, hl_b5, hs_bv_i, hm_bv_i, hR, tX12_countBlocks R hR, tX12_sum R hR, tlX12_block_62 R hR, ih]
    all_goals first | rfl | (split <;> simp_all)
set_option maxHeartbeats 4000000 in
theorem tX12_block (R : Nat → Nat → Nat) (hR : R 285 = hm_R) (v1 : Int32) (v2 : Int32) (v3 : Int32) (g : hm) : fX12_block 285 v1 v2 v3 (gm g R) = hl_d R (nX12_block v1 v2 v3 g) := by
  unfold fX12_block nX12_block
  simp only [gm_I, gm_R, gm_w, gm_kd, gm_ln, not_false_eq_true, if_true, ite_true, gk_285, gk_286, gk_287, gk_288, gk_289, gk_290, gk_291, gk_292, gk_293, gk_294, gk_295, gk_296, gk_297, gk_298, gk_299, gk_300, gk_301, gk_302, gk_303, gk_304, gk_305, gk_306, gk_307, gk_308, gk_309, gk_310, gk_311, gk_312, gk_313, gk_314, gk_315, gk_316, gk_317, gk_318, gk_319, gn_286, gn_287, gn_288, gn_289, gn_290, gn_291, gn_292, gn_293, gn_294, gn_295, gn_296, gn_297, gn_298, gn_299, gn_300, gn_301, gn_302, gn_303, gn_304, gn_305, gn_306, gn_307, gn_308, gn_309, gn_310, gn_311, gn_312, gn_313, gn_314, gn_315, gn_316, gn_317, gn_318, gn_319, gr_1, gr_5, gr_6, gr_7, gr_8, gr_9, gr_10, gr_11, gr_12, gr_13, gr_14, gr_15, gr_16, gr_17, gr_18, gr_19, gr_20, gr_21, gr_23, gr_24, gr_25, gr_26, gr_27, gr_28, gr_29, gr_30, gr_32, gr_34, gr_35, gr_41, gr_42, gr_43, gr_44, gr_45, gz_1, gz_5, gz_6, gz_7, gz_8, gz_9, gz_10, gz_11, gz_12, gz_13, gz_14, gz_15, gz_16, gz_17, gz_18, gz_19, gz_20, gz_21, gz_23, gz_24, gz_25, gz_26, gz_27, gz_28, gz_29, gz_30, gz_32, gz_34, gz_35, gz_41, gz_42, gz_43, gz_44, gz_45, hl_v_none, hl_v_ite, hl_d_none, hl_d_ite, hl_3_none, hl_3_ite, hl_4_none, hl_4_ite, hl_5_none, hl_5_ite, hl_v_some, hl_d_some, hl_3_some, hl_4_some, hl_5_some, hl_v_bv, hl_d_bv, hl_3_bv, hl_4_bv, hl_5_bv, hl_bv, hl_v_bd, hl_d_bd, hl_3_bd, hl_4_bd, hl_5_bd, hl_bd, hl_v_b3, hl_d_b3, hl_3_b3, hl_4_b3, hl_5_b3, hl_b3, hl_v_b4, hl_d_b4, hl_3_b4, hl_4_b4, hl_5_b4, hl_b4, hl_v_b5, hl_d_b5, hl_3_b5, hl_4_b5, hl_5_b5, hl_b5, hs_bv_i, hm_bv_i, hR, tX12_countBlocks R hR, tX12_sum R hR, tlX12_block_62 R hR, tlX12_block_53 R hR]
  all_goals first | rfl | (split <;> simp_all)
def nlX12_enter_32 : Nat → Int32 → hm → Option (hm)
  | 0, _, _ => none
  | n + 1, v2, g =>
    if (20 : Int32) ≤ v2 then (
      some g
    ) else (
      if hs_in (((20 : Int32) * (g 285 40)) + v2) 1200 = true then
      nlX12_enter_32 n (v2 + (1 : Int32)) (hm_w g 319 (((20 : Int32) * (g 285 40)) + v2).toNatClampNeg (0 : Int32))
      else none
    )
theorem nlX12_enter_32_s (n : Nat) (v2 : Int32) (g : hm) : nlX12_enter_32 (n + 1) v2 g =
    if (20 : Int32) ≤ v2 then (
      some g
    ) else (
      if hs_in (((20 : Int32) * (g 285 40)) + v2) 1200 = true then
      nlX12_enter_32 n (v2 + (1 : Int32)) (hm_w g 319 (((20 : Int32) * (g 285 40)) + v2).toNatClampNeg (0 : Int32))
      else none
    ) := rfl
def nX12_enter (v1 : Int32) (g : hm) : Option (hm) :=
  if hs_in (g 285 40) 60 = true then
  if hs_in ((hm_w g 315 (g 285 40).toNatClampNeg v1) 285 40) 60 = true then
  hm_bv (some (hm_w (hm_w g 315 (g 285 40).toNatClampNeg v1) 316 ((hm_w g 315 (g 285 40).toNatClampNeg v1) 285 40).toNatClampNeg (0 : Int32))) fun g1 =>
  if hs_in (g1 285 40) 60 = true then
  hm_bv (nlX12_enter_32 hs_N (0 : Int32) (hm_w g1 317 (g1 285 40).toNatClampNeg (0 : Int32))) fun g3 =>
  some (hm_w g3 285 40 ((g3 285 40) + (1 : Int32)))
  else none else none else none
set_option maxHeartbeats 4000000 in
theorem tlX12_enter_32 (R : Nat → Nat → Nat) (hR : R 285 = hm_R) : ∀ (n : Nat) (v2 : Int32) (g : hm), lX12_enter_32 n 285 v2 (gm g R) = hl_v R (nlX12_enter_32 n v2 g) := by
  intro n
  induction n with
  | zero => intros; rfl
  | succ n ih =>
    intro v2 g
    rw [lX12_enter_32_s, nlX12_enter_32_s]
    simp only [gm_I, gm_R, gm_w, gm_kd, gm_ln, not_false_eq_true, if_true, ite_true, gk_285, gk_286, gk_287, gk_288, gk_289, gk_290, gk_291, gk_292, gk_293, gk_294, gk_295, gk_296, gk_297, gk_298, gk_299, gk_300, gk_301, gk_302, gk_303, gk_304, gk_305, gk_306, gk_307, gk_308, gk_309, gk_310, gk_311, gk_312, gk_313, gk_314, gk_315, gk_316, gk_317, gk_318, gk_319, gn_286, gn_287, gn_288, gn_289, gn_290, gn_291, gn_292, gn_293, gn_294, gn_295, gn_296, gn_297, gn_298, gn_299, gn_300, gn_301, gn_302, gn_303, gn_304, gn_305, gn_306, gn_307, gn_308, gn_309, gn_310, gn_311, gn_312, gn_313, gn_314, gn_315, gn_316, gn_317, gn_318, gn_319, gr_1, gr_5, gr_6, gr_7, gr_8, gr_9, gr_10, gr_11, gr_12, gr_13, gr_14, gr_15, gr_16, gr_17, gr_18, gr_19, gr_20, gr_21, gr_23, gr_24, gr_25, gr_26, gr_27, gr_28, gr_29, gr_30, gr_32, gr_34, gr_35, gr_41, gr_42, gr_43, gr_44, gr_45, gz_1, gz_5, gz_6, gz_7, gz_8, gz_9, gz_10, gz_11, gz_12, gz_13, gz_14, gz_15, gz_16, gz_17, gz_18, gz_19, gz_20, gz_21, gz_23, gz_24, gz_25, gz_26, gz_27, gz_28, gz_29, gz_30, gz_32, gz_34, gz_35, gz_41, gz_42, gz_43, gz_44, gz_45, hl_v_none, hl_v_ite, hl_d_none, hl_d_ite, hl_3_none, hl_3_ite, hl_4_none, hl_4_ite, hl_5_none, hl_5_ite, hl_v_some, hl_d_some, hl_3_some, hl_4_some, hl_5_some, hl_v_bv, hl_d_bv, hl_3_bv, hl_4_bv, hl_5_bv, hl_bv, hl_v_bd, hl_d_bd, hl_3_bd, hl_4_bd, hl_5_bd, hl_bd, hl_v_b3, hl_d_b3, hl_3_b3, hl_4_b3, hl_5_b3, hl_b3, hl_v_b4, hl_d_b4, hl_3_b4, hl_4_b4, hl_5_b4, hl_b4, hl_v_b5, hl_d_b5, hl_3_b5, hl_4_b5, hl_5_b5, hl_b5, hs_bv_i, hm_bv_i, hR, ih]
    all_goals first | rfl | (split <;> simp_all)
set_option maxHeartbeats 4000000 in
theorem tX12_enter (R : Nat → Nat → Nat) (hR : R 285 = hm_R) (v1 : Int32) (g : hm) : fX12_enter 285 v1 (gm g R) = hl_v R (nX12_enter v1 g) := by
  unfold fX12_enter nX12_enter
  simp only [gm_I, gm_R, gm_w, gm_kd, gm_ln, not_false_eq_true, if_true, ite_true, gk_285, gk_286, gk_287, gk_288, gk_289, gk_290, gk_291, gk_292, gk_293, gk_294, gk_295, gk_296, gk_297, gk_298, gk_299, gk_300, gk_301, gk_302, gk_303, gk_304, gk_305, gk_306, gk_307, gk_308, gk_309, gk_310, gk_311, gk_312, gk_313, gk_314, gk_315, gk_316, gk_317, gk_318, gk_319, gn_286, gn_287, gn_288, gn_289, gn_290, gn_291, gn_292, gn_293, gn_294, gn_295, gn_296, gn_297, gn_298, gn_299, gn_300, gn_301, gn_302, gn_303, gn_304, gn_305, gn_306, gn_307, gn_308, gn_309, gn_310, gn_311, gn_312, gn_313, gn_314, gn_315, gn_316, gn_317, gn_318, gn_319, gr_1, gr_5, gr_6, gr_7, gr_8, gr_9, gr_10, gr_11, gr_12, gr_13, gr_14, gr_15, gr_16, gr_17, gr_18, gr_19, gr_20, gr_21, gr_23, gr_24, gr_25, gr_26, gr_27, gr_28, gr_29, gr_30, gr_32, gr_34, gr_35, gr_41, gr_42, gr_43, gr_44, gr_45, gz_1, gz_5, gz_6, gz_7, gz_8, gz_9, gz_10, gz_11, gz_12, gz_13, gz_14, gz_15, gz_16, gz_17, gz_18, gz_19, gz_20, gz_21, gz_23, gz_24, gz_25, gz_26, gz_27, gz_28, gz_29, gz_30, gz_32, gz_34, gz_35, gz_41, gz_42, gz_43, gz_44, gz_45, hl_v_none, hl_v_ite, hl_d_none, hl_d_ite, hl_3_none, hl_3_ite, hl_4_none, hl_4_ite, hl_5_none, hl_5_ite, hl_v_some, hl_d_some, hl_3_some, hl_4_some, hl_5_some, hl_v_bv, hl_d_bv, hl_3_bv, hl_4_bv, hl_5_bv, hl_bv, hl_v_bd, hl_d_bd, hl_3_bd, hl_4_bd, hl_5_bd, hl_bd, hl_v_b3, hl_d_b3, hl_3_b3, hl_4_b3, hl_5_b3, hl_b3, hl_v_b4, hl_d_b4, hl_3_b4, hl_4_b4, hl_5_b4, hl_b4, hl_v_b5, hl_d_b5, hl_3_b5, hl_4_b5, hl_5_b5, hl_b5, hs_bv_i, hm_bv_i, hR, tlX12_enter_32 R hR]
  all_goals first | rfl | (split <;> simp_all)
def nX12_codeAt (v1 : Int32) (g : hm) : Option (Int32 × hm) :=
  if hs_in ((g 285 40) - (1 : Int32)) 60 = true then
  if hs_in ((g 285 40) - (1 : Int32)) 60 = true then
  if hs_in ((((4001 : Int32) * (g 315 ((g 285 40) - (1 : Int32)).toNatClampNeg)) + (g 316 ((g 285 40) - (1 : Int32)).toNatClampNeg)) + v1) 32008 = true then
  some ((g 304 ((((4001 : Int32) * (g 315 ((g 285 40) - (1 : Int32)).toNatClampNeg)) + (g 316 ((g 285 40) - (1 : Int32)).toNatClampNeg)) + v1).toNatClampNeg), g)
  else none else none else none
set_option maxHeartbeats 4000000 in
theorem tX12_codeAt (R : Nat → Nat → Nat) (hR : R 285 = hm_R) (v1 : Int32) (g : hm) : fX12_codeAt 285 v1 (gm g R) = hl_d R (nX12_codeAt v1 g) := by
  unfold fX12_codeAt nX12_codeAt
  simp only [gm_I, gm_R, gm_w, gm_kd, gm_ln, not_false_eq_true, if_true, ite_true, gk_285, gk_286, gk_287, gk_288, gk_289, gk_290, gk_291, gk_292, gk_293, gk_294, gk_295, gk_296, gk_297, gk_298, gk_299, gk_300, gk_301, gk_302, gk_303, gk_304, gk_305, gk_306, gk_307, gk_308, gk_309, gk_310, gk_311, gk_312, gk_313, gk_314, gk_315, gk_316, gk_317, gk_318, gk_319, gn_286, gn_287, gn_288, gn_289, gn_290, gn_291, gn_292, gn_293, gn_294, gn_295, gn_296, gn_297, gn_298, gn_299, gn_300, gn_301, gn_302, gn_303, gn_304, gn_305, gn_306, gn_307, gn_308, gn_309, gn_310, gn_311, gn_312, gn_313, gn_314, gn_315, gn_316, gn_317, gn_318, gn_319, gr_1, gr_5, gr_6, gr_7, gr_8, gr_9, gr_10, gr_11, gr_12, gr_13, gr_14, gr_15, gr_16, gr_17, gr_18, gr_19, gr_20, gr_21, gr_23, gr_24, gr_25, gr_26, gr_27, gr_28, gr_29, gr_30, gr_32, gr_34, gr_35, gr_41, gr_42, gr_43, gr_44, gr_45, gz_1, gz_5, gz_6, gz_7, gz_8, gz_9, gz_10, gz_11, gz_12, gz_13, gz_14, gz_15, gz_16, gz_17, gz_18, gz_19, gz_20, gz_21, gz_23, gz_24, gz_25, gz_26, gz_27, gz_28, gz_29, gz_30, gz_32, gz_34, gz_35, gz_41, gz_42, gz_43, gz_44, gz_45, hl_v_none, hl_v_ite, hl_d_none, hl_d_ite, hl_3_none, hl_3_ite, hl_4_none, hl_4_ite, hl_5_none, hl_5_ite, hl_v_some, hl_d_some, hl_3_some, hl_4_some, hl_5_some, hl_v_bv, hl_d_bv, hl_3_bv, hl_4_bv, hl_5_bv, hl_bv, hl_v_bd, hl_d_bd, hl_3_bd, hl_4_bd, hl_5_bd, hl_bd, hl_v_b3, hl_d_b3, hl_3_b3, hl_4_b3, hl_5_b3, hl_b3, hl_v_b4, hl_d_b4, hl_3_b4, hl_4_b4, hl_5_b4, hl_b4, hl_v_b5, hl_d_b5, hl_3_b5, hl_4_b5, hl_5_b5, hl_b5, hs_bv_i, hm_bv_i, hR]
  all_goals first | rfl | (split <;> simp_all)
def nX12_pays (v1 : Int32) (g : hm) : Option (Int32 × hm) :=
  if v1 ≤ (g 285 39) then (
    hm_bv (some (hm_w (hm_w g 285 39 ((g 285 39) - v1)) 285 37 (((hm_w g 285 39 ((g 285 39) - v1)) 285 37) + v1))) fun g1 =>
    some ((1 : Int32), g1)
  ) else (
    some ((0 : Int32), (hm_w g 285 46 (1 : Int32)))
  )
set_option maxHeartbeats 4000000 in
theorem tX12_pays (R : Nat → Nat → Nat) (hR : R 285 = hm_R) (v1 : Int32) (g : hm) : fX12_pays 285 v1 (gm g R) = hl_d R (nX12_pays v1 g) := by
  unfold fX12_pays nX12_pays
  simp only [gm_I, gm_R, gm_w, gm_kd, gm_ln, not_false_eq_true, if_true, ite_true, gk_285, gk_286, gk_287, gk_288, gk_289, gk_290, gk_291, gk_292, gk_293, gk_294, gk_295, gk_296, gk_297, gk_298, gk_299, gk_300, gk_301, gk_302, gk_303, gk_304, gk_305, gk_306, gk_307, gk_308, gk_309, gk_310, gk_311, gk_312, gk_313, gk_314, gk_315, gk_316, gk_317, gk_318, gk_319, gn_286, gn_287, gn_288, gn_289, gn_290, gn_291, gn_292, gn_293, gn_294, gn_295, gn_296, gn_297, gn_298, gn_299, gn_300, gn_301, gn_302, gn_303, gn_304, gn_305, gn_306, gn_307, gn_308, gn_309, gn_310, gn_311, gn_312, gn_313, gn_314, gn_315, gn_316, gn_317, gn_318, gn_319, gr_1, gr_5, gr_6, gr_7, gr_8, gr_9, gr_10, gr_11, gr_12, gr_13, gr_14, gr_15, gr_16, gr_17, gr_18, gr_19, gr_20, gr_21, gr_23, gr_24, gr_25, gr_26, gr_27, gr_28, gr_29, gr_30, gr_32, gr_34, gr_35, gr_41, gr_42, gr_43, gr_44, gr_45, gz_1, gz_5, gz_6, gz_7, gz_8, gz_9, gz_10, gz_11, gz_12, gz_13, gz_14, gz_15, gz_16, gz_17, gz_18, gz_19, gz_20, gz_21, gz_23, gz_24, gz_25, gz_26, gz_27, gz_28, gz_29, gz_30, gz_32, gz_34, gz_35, gz_41, gz_42, gz_43, gz_44, gz_45, hl_v_none, hl_v_ite, hl_d_none, hl_d_ite, hl_3_none, hl_3_ite, hl_4_none, hl_4_ite, hl_5_none, hl_5_ite, hl_v_some, hl_d_some, hl_3_some, hl_4_some, hl_5_some, hl_v_bv, hl_d_bv, hl_3_bv, hl_4_bv, hl_5_bv, hl_bv, hl_v_bd, hl_d_bd, hl_3_bd, hl_4_bd, hl_5_bd, hl_bd, hl_v_b3, hl_d_b3, hl_3_b3, hl_4_b3, hl_5_b3, hl_b3, hl_v_b4, hl_d_b4, hl_3_b4, hl_4_b4, hl_5_b4, hl_b4, hl_v_b5, hl_d_b5, hl_3_b5, hl_4_b5, hl_5_b5, hl_b5, hs_bv_i, hm_bv_i, hR]
  all_goals first | rfl | (split <;> simp_all)
def nX12_top  (g : hm) : Option (Int32 × hm) :=
  if hs_in ((g 285 40) - (1 : Int32)) 60 = true then
  if hs_in ((((24 : Int32) * ((g 285 40) - (1 : Int32))) + (g 317 ((g 285 40) - (1 : Int32)).toNatClampNeg)) - (1 : Int32)) 1440 = true then
  some ((g 318 ((((24 : Int32) * ((g 285 40) - (1 : Int32))) + (g 317 ((g 285 40) - (1 : Int32)).toNatClampNeg)) - (1 : Int32)).toNatClampNeg), g)
  else none else none
set_option maxHeartbeats 4000000 in
theorem tX12_top (R : Nat → Nat → Nat) (hR : R 285 = hm_R)  (g : hm) : fX12_top 285  (gm g R) = hl_d R (nX12_top  g) := by
  unfold fX12_top nX12_top
  simp only [gm_I, gm_R, gm_w, gm_kd, gm_ln, not_false_eq_true, if_true, ite_true, gk_285, gk_286, gk_287, gk_288, gk_289, gk_290, gk_291, gk_292, gk_293, gk_294, gk_295, gk_296, gk_297, gk_298, gk_299, gk_300, gk_301, gk_302, gk_303, gk_304, gk_305, gk_306, gk_307, gk_308, gk_309, gk_310, gk_311, gk_312, gk_313, gk_314, gk_315, gk_316, gk_317, gk_318, gk_319, gn_286, gn_287, gn_288, gn_289, gn_290, gn_291, gn_292, gn_293, gn_294, gn_295, gn_296, gn_297, gn_298, gn_299, gn_300, gn_301, gn_302, gn_303, gn_304, gn_305, gn_306, gn_307, gn_308, gn_309, gn_310, gn_311, gn_312, gn_313, gn_314, gn_315, gn_316, gn_317, gn_318, gn_319, gr_1, gr_5, gr_6, gr_7, gr_8, gr_9, gr_10, gr_11, gr_12, gr_13, gr_14, gr_15, gr_16, gr_17, gr_18, gr_19, gr_20, gr_21, gr_23, gr_24, gr_25, gr_26, gr_27, gr_28, gr_29, gr_30, gr_32, gr_34, gr_35, gr_41, gr_42, gr_43, gr_44, gr_45, gz_1, gz_5, gz_6, gz_7, gz_8, gz_9, gz_10, gz_11, gz_12, gz_13, gz_14, gz_15, gz_16, gz_17, gz_18, gz_19, gz_20, gz_21, gz_23, gz_24, gz_25, gz_26, gz_27, gz_28, gz_29, gz_30, gz_32, gz_34, gz_35, gz_41, gz_42, gz_43, gz_44, gz_45, hl_v_none, hl_v_ite, hl_d_none, hl_d_ite, hl_3_none, hl_3_ite, hl_4_none, hl_4_ite, hl_5_none, hl_5_ite, hl_v_some, hl_d_some, hl_3_some, hl_4_some, hl_5_some, hl_v_bv, hl_d_bv, hl_3_bv, hl_4_bv, hl_5_bv, hl_bv, hl_v_bd, hl_d_bd, hl_3_bd, hl_4_bd, hl_5_bd, hl_bd, hl_v_b3, hl_d_b3, hl_3_b3, hl_4_b3, hl_5_b3, hl_b3, hl_v_b4, hl_d_b4, hl_3_b4, hl_4_b4, hl_5_b4, hl_b4, hl_v_b5, hl_d_b5, hl_3_b5, hl_4_b5, hl_5_b5, hl_b5, hs_bv_i, hm_bv_i, hR]
  all_goals first | rfl | (split <;> simp_all)
def nX12_pop  (g : hm) : Option (Int32 × hm) :=
  if hs_in ((g 285 40) - (1 : Int32)) 60 = true then
  hm_bv (some (hm_w g 317 ((g 285 40) - (1 : Int32)).toNatClampNeg ((g 317 ((g 285 40) - (1 : Int32)).toNatClampNeg) - (1 : Int32)))) fun g1 =>
  if hs_in (((24 : Int32) * ((g 285 40) - (1 : Int32))) + (g1 317 ((g 285 40) - (1 : Int32)).toNatClampNeg)) 1440 = true then
  some ((g1 318 (((24 : Int32) * ((g 285 40) - (1 : Int32))) + (g1 317 ((g 285 40) - (1 : Int32)).toNatClampNeg)).toNatClampNeg), g1)
  else none else none
set_option maxHeartbeats 4000000 in
theorem tX12_pop (R : Nat → Nat → Nat) (hR : R 285 = hm_R)  (g : hm) : fX12_pop 285  (gm g R) = hl_d R (nX12_pop  g) := by
  unfold fX12_pop nX12_pop
  simp only [gm_I, gm_R, gm_w, gm_kd, gm_ln, not_false_eq_true, if_true, ite_true, gk_285, gk_286, gk_287, gk_288, gk_289, gk_290, gk_291, gk_292, gk_293, gk_294, gk_295, gk_296, gk_297, gk_298, gk_299, gk_300, gk_301, gk_302, gk_303, gk_304, gk_305, gk_306, gk_307, gk_308, gk_309, gk_310, gk_311, gk_312, gk_313, gk_314, gk_315, gk_316, gk_317, gk_318, gk_319, gn_286, gn_287, gn_288, gn_289, gn_290, gn_291, gn_292, gn_293, gn_294, gn_295, gn_296, gn_297, gn_298, gn_299, gn_300, gn_301, gn_302, gn_303, gn_304, gn_305, gn_306, gn_307, gn_308, gn_309, gn_310, gn_311, gn_312, gn_313, gn_314, gn_315, gn_316, gn_317, gn_318, gn_319, gr_1, gr_5, gr_6, gr_7, gr_8, gr_9, gr_10, gr_11, gr_12, gr_13, gr_14, gr_15, gr_16, gr_17, gr_18, gr_19, gr_20, gr_21, gr_23, gr_24, gr_25, gr_26, gr_27, gr_28, gr_29, gr_30, gr_32, gr_34, gr_35, gr_41, gr_42, gr_43, gr_44, gr_45, gz_1, gz_5, gz_6, gz_7, gz_8, gz_9, gz_10, gz_11, gz_12, gz_13, gz_14, gz_15, gz_16, gz_17, gz_18, gz_19, gz_20, gz_21, gz_23, gz_24, gz_25, gz_26, gz_27, gz_28, gz_29, gz_30, gz_32, gz_34, gz_35, gz_41, gz_42, gz_43, gz_44, gz_45, hl_v_none, hl_v_ite, hl_d_none, hl_d_ite, hl_3_none, hl_3_ite, hl_4_none, hl_4_ite, hl_5_none, hl_5_ite, hl_v_some, hl_d_some, hl_3_some, hl_4_some, hl_5_some, hl_v_bv, hl_d_bv, hl_3_bv, hl_4_bv, hl_5_bv, hl_bv, hl_v_bd, hl_d_bd, hl_3_bd, hl_4_bd, hl_5_bd, hl_bd, hl_v_b3, hl_d_b3, hl_3_b3, hl_4_b3, hl_5_b3, hl_b3, hl_v_b4, hl_d_b4, hl_3_b4, hl_4_b4, hl_5_b4, hl_b4, hl_v_b5, hl_d_b5, hl_3_b5, hl_4_b5, hl_5_b5, hl_b5, hs_bv_i, hm_bv_i, hR]
  all_goals first | rfl | (split <;> simp_all)
def nX12_push (v1 : Int32) (g : hm) : Option (hm) :=
  if hs_in ((g 285 40) - (1 : Int32)) 60 = true then
  if hs_in (((24 : Int32) * ((g 285 40) - (1 : Int32))) + (g 317 ((g 285 40) - (1 : Int32)).toNatClampNeg)) 1440 = true then
  hm_bv (some (hm_w g 318 (((24 : Int32) * ((g 285 40) - (1 : Int32))) + (g 317 ((g 285 40) - (1 : Int32)).toNatClampNeg)).toNatClampNeg v1)) fun g1 =>
  some (hm_w g1 317 ((g 285 40) - (1 : Int32)).toNatClampNeg ((g1 317 ((g 285 40) - (1 : Int32)).toNatClampNeg) + (1 : Int32)))
  else none else none
set_option maxHeartbeats 4000000 in
theorem tX12_push (R : Nat → Nat → Nat) (hR : R 285 = hm_R) (v1 : Int32) (g : hm) : fX12_push 285 v1 (gm g R) = hl_v R (nX12_push v1 g) := by
  unfold fX12_push nX12_push
  simp only [gm_I, gm_R, gm_w, gm_kd, gm_ln, not_false_eq_true, if_true, ite_true, gk_285, gk_286, gk_287, gk_288, gk_289, gk_290, gk_291, gk_292, gk_293, gk_294, gk_295, gk_296, gk_297, gk_298, gk_299, gk_300, gk_301, gk_302, gk_303, gk_304, gk_305, gk_306, gk_307, gk_308, gk_309, gk_310, gk_311, gk_312, gk_313, gk_314, gk_315, gk_316, gk_317, gk_318, gk_319, gn_286, gn_287, gn_288, gn_289, gn_290, gn_291, gn_292, gn_293, gn_294, gn_295, gn_296, gn_297, gn_298, gn_299, gn_300, gn_301, gn_302, gn_303, gn_304, gn_305, gn_306, gn_307, gn_308, gn_309, gn_310, gn_311, gn_312, gn_313, gn_314, gn_315, gn_316, gn_317, gn_318, gn_319, gr_1, gr_5, gr_6, gr_7, gr_8, gr_9, gr_10, gr_11, gr_12, gr_13, gr_14, gr_15, gr_16, gr_17, gr_18, gr_19, gr_20, gr_21, gr_23, gr_24, gr_25, gr_26, gr_27, gr_28, gr_29, gr_30, gr_32, gr_34, gr_35, gr_41, gr_42, gr_43, gr_44, gr_45, gz_1, gz_5, gz_6, gz_7, gz_8, gz_9, gz_10, gz_11, gz_12, gz_13, gz_14, gz_15, gz_16, gz_17, gz_18, gz_19, gz_20, gz_21, gz_23, gz_24, gz_25, gz_26, gz_27, gz_28, gz_29, gz_30, gz_32, gz_34, gz_35, gz_41, gz_42, gz_43, gz_44, gz_45, hl_v_none, hl_v_ite, hl_d_none, hl_d_ite, hl_3_none, hl_3_ite, hl_4_none, hl_4_ite, hl_5_none, hl_5_ite, hl_v_some, hl_d_some, hl_3_some, hl_4_some, hl_5_some, hl_v_bv, hl_d_bv, hl_3_bv, hl_4_bv, hl_5_bv, hl_bv, hl_v_bd, hl_d_bd, hl_3_bd, hl_4_bd, hl_5_bd, hl_bd, hl_v_b3, hl_d_b3, hl_3_b3, hl_4_b3, hl_5_b3, hl_b3, hl_v_b4, hl_d_b4, hl_3_b4, hl_4_b4, hl_5_b4, hl_b4, hl_v_b5, hl_d_b5, hl_3_b5, hl_4_b5, hl_5_b5, hl_b5, hs_bv_i, hm_bv_i, hR]
  all_goals first | rfl | (split <;> simp_all)
def nX12_ends  (g : hm) : Option (hm) :=
  hm_bd (nX12_pop g) fun r2 g1 =>
  if ((hm_w g1 285 40 ((g1 285 40) - (1 : Int32))) 285 40) = 0 then (
    some (hm_w (hm_w g1 285 40 ((g1 285 40) - (1 : Int32))) 285 36 r2)
  ) else (
    if hs_in (((hm_w g1 285 40 ((g1 285 40) - (1 : Int32))) 285 40) - (1 : Int32)) 60 = true then
    hm_bv (some (hm_w (hm_w g1 285 40 ((g1 285 40) - (1 : Int32))) 316 (((hm_w g1 285 40 ((g1 285 40) - (1 : Int32))) 285 40) - (1 : Int32)).toNatClampNeg (((hm_w g1 285 40 ((g1 285 40) - (1 : Int32))) 316 (((hm_w g1 285 40 ((g1 285 40) - (1 : Int32))) 285 40) - (1 : Int32)).toNatClampNeg) + (2 : Int32)))) fun g3 =>
    hm_bv (nX12_push r2 g3) fun g4 =>
    some g4
    else none
  )
set_option maxHeartbeats 4000000 in
theorem tX12_ends (R : Nat → Nat → Nat) (hR : R 285 = hm_R)  (g : hm) : fX12_ends 285  (gm g R) = hl_v R (nX12_ends  g) := by
  unfold fX12_ends nX12_ends
  simp only [gm_I, gm_R, gm_w, gm_kd, gm_ln, not_false_eq_true, if_true, ite_true, gk_285, gk_286, gk_287, gk_288, gk_289, gk_290, gk_291, gk_292, gk_293, gk_294, gk_295, gk_296, gk_297, gk_298, gk_299, gk_300, gk_301, gk_302, gk_303, gk_304, gk_305, gk_306, gk_307, gk_308, gk_309, gk_310, gk_311, gk_312, gk_313, gk_314, gk_315, gk_316, gk_317, gk_318, gk_319, gn_286, gn_287, gn_288, gn_289, gn_290, gn_291, gn_292, gn_293, gn_294, gn_295, gn_296, gn_297, gn_298, gn_299, gn_300, gn_301, gn_302, gn_303, gn_304, gn_305, gn_306, gn_307, gn_308, gn_309, gn_310, gn_311, gn_312, gn_313, gn_314, gn_315, gn_316, gn_317, gn_318, gn_319, gr_1, gr_5, gr_6, gr_7, gr_8, gr_9, gr_10, gr_11, gr_12, gr_13, gr_14, gr_15, gr_16, gr_17, gr_18, gr_19, gr_20, gr_21, gr_23, gr_24, gr_25, gr_26, gr_27, gr_28, gr_29, gr_30, gr_32, gr_34, gr_35, gr_41, gr_42, gr_43, gr_44, gr_45, gz_1, gz_5, gz_6, gz_7, gz_8, gz_9, gz_10, gz_11, gz_12, gz_13, gz_14, gz_15, gz_16, gz_17, gz_18, gz_19, gz_20, gz_21, gz_23, gz_24, gz_25, gz_26, gz_27, gz_28, gz_29, gz_30, gz_32, gz_34, gz_35, gz_41, gz_42, gz_43, gz_44, gz_45, hl_v_none, hl_v_ite, hl_d_none, hl_d_ite, hl_3_none, hl_3_ite, hl_4_none, hl_4_ite, hl_5_none, hl_5_ite, hl_v_some, hl_d_some, hl_3_some, hl_4_some, hl_5_some, hl_v_bv, hl_d_bv, hl_3_bv, hl_4_bv, hl_5_bv, hl_bv, hl_v_bd, hl_d_bd, hl_3_bd, hl_4_bd, hl_5_bd, hl_bd, hl_v_b3, hl_d_b3, hl_3_b3, hl_4_b3, hl_5_b3, hl_b3, hl_v_b4, hl_d_b4, hl_3_b4, hl_4_b4, hl_5_b4, hl_b4, hl_v_b5, hl_d_b5, hl_3_b5, hl_4_b5, hl_5_b5, hl_b5, hs_bv_i, hm_bv_i, hR, tX12_pop R hR, tX12_push R hR]
  all_goals first | rfl | (split <;> simp_all)
def nlX12_calls_50 : Nat → Int32 → Int32 → Int32 → hm → Option (hm)
  | 0, _, _, _, _ => none
  | n + 1, v1, v2, v3, g =>
    if hs_in v1 8 = true then
    if (g 287 v1.toNatClampNeg) ≤ v3 then (
      some g
    ) else (
      if hs_in v2 60 = true then
      if hs_in ((((24 : Int32) * v2) + (g 317 v2.toNatClampNeg)) + v3) 1440 = true then
      if hs_in (((20 : Int32) * ((g 285 40) - (1 : Int32))) + v3) 1200 = true then
      hm_bv (some (hm_w g 319 (((20 : Int32) * ((g 285 40) - (1 : Int32))) + v3).toNatClampNeg (g 318 ((((24 : Int32) * v2) + (g 317 v2.toNatClampNeg)) + v3).toNatClampNeg))) fun g6 =>
      nlX12_calls_50 n v1 v2 (v3 + (1 : Int32)) g6
      else none else none else none
    )
    else none
theorem nlX12_calls_50_s (n : Nat) (v1 : Int32) (v2 : Int32) (v3 : Int32) (g : hm) : nlX12_calls_50 (n + 1) v1 v2 v3 g =
    if hs_in v1 8 = true then
    if (g 287 v1.toNatClampNeg) ≤ v3 then (
      some g
    ) else (
      if hs_in v2 60 = true then
      if hs_in ((((24 : Int32) * v2) + (g 317 v2.toNatClampNeg)) + v3) 1440 = true then
      if hs_in (((20 : Int32) * ((g 285 40) - (1 : Int32))) + v3) 1200 = true then
      hm_bv (some (hm_w g 319 (((20 : Int32) * ((g 285 40) - (1 : Int32))) + v3).toNatClampNeg (g 318 ((((24 : Int32) * v2) + (g 317 v2.toNatClampNeg)) + v3).toNatClampNeg))) fun g6 =>
      nlX12_calls_50 n v1 v2 (v3 + (1 : Int32)) g6
      else none else none else none
    )
    else none := rfl
def nX12_calls  (g : hm) : Option (hm) :=
  if (g 285 40) = (60 : Int32) then (
    some (hm_w g 285 46 (1 : Int32))
  ) else (
    hm_bd (nX12_codeAt (1 : Int32) g) fun r2 g1 =>
    if hs_in ((g1 285 40) - (1 : Int32)) 60 = true then
    if hs_in r2 8 = true then
    hm_bv (some (hm_w g1 317 ((g1 285 40) - (1 : Int32)).toNatClampNeg ((g1 317 ((g1 285 40) - (1 : Int32)).toNatClampNeg) - (g1 287 r2.toNatClampNeg)))) fun g3 =>
    hm_bv (nX12_enter r2 g3) fun g4 =>
    hm_bv (nlX12_calls_50 hs_N r2 ((g1 285 40) - (1 : Int32)) (0 : Int32) g4) fun g8 =>
    some g8
    else none else none
  )
set_option maxHeartbeats 4000000 in
theorem tlX12_calls_50 (R : Nat → Nat → Nat) (hR : R 285 = hm_R) : ∀ (n : Nat) (v1 : Int32) (v2 : Int32) (v3 : Int32) (g : hm), lX12_calls_50 n 285 v1 v2 v3 (gm g R) = hl_v R (nlX12_calls_50 n v1 v2 v3 g) := by
  intro n
  induction n with
  | zero => intros; rfl
  | succ n ih =>
    intro v1 v2 v3 g
    rw [lX12_calls_50_s, nlX12_calls_50_s]
    simp only [gm_I, gm_R, gm_w, gm_kd, gm_ln, not_false_eq_true, if_true, ite_true, gk_285, gk_286, gk_287, gk_288, gk_289, gk_290, gk_291, gk_292, gk_293, gk_294, gk_295, gk_296, gk_297, gk_298, gk_299, gk_300, gk_301, gk_302, gk_303, gk_304, gk_305, gk_306, gk_307, gk_308, gk_309, gk_310, gk_311, gk_312, gk_313, gk_314, gk_315, gk_316, gk_317, gk_318, gk_319, gn_286, gn_287, gn_288, gn_289, gn_290, gn_291, gn_292, gn_293, gn_294, gn_295, gn_296, gn_297, gn_298, gn_299, gn_300, gn_301, gn_302, gn_303, gn_304, gn_305, gn_306, gn_307, gn_308, gn_309, gn_310, gn_311, gn_312, gn_313, gn_314, gn_315, gn_316, gn_317, gn_318, gn_319, gr_1, gr_5, gr_6, gr_7, gr_8, gr_9, gr_10, gr_11, gr_12, gr_13, gr_14, gr_15, gr_16, gr_17, gr_18, gr_19, gr_20, gr_21, gr_23, gr_24, gr_25, gr_26, gr_27, gr_28, gr_29, gr_30, gr_32, gr_34, gr_35, gr_41, gr_42, gr_43, gr_44, gr_45, gz_1, gz_5, gz_6, gz_7, gz_8, gz_9, gz_10, gz_11, gz_12, gz_13, gz_14, gz_15, gz_16, gz_17, gz_18, gz_19, gz_20, gz_21, gz_23, gz_24, gz_25, gz_26, gz_27, gz_28, gz_29, gz_30, gz_32, gz_34, gz_35, gz_41, gz_42, gz_43, gz_44, gz_45, hl_v_none, hl_v_ite, hl_d_none, hl_d_ite, hl_3_none, hl_3_ite, hl_4_none, hl_4_ite, hl_5_none, hl_5_ite, hl_v_some, hl_d_some, hl_3_some, hl_4_some, hl_5_some, hl_v_bv, hl_d_bv, hl_3_bv, hl_4_bv, hl_5_bv, hl_bv, hl_v_bd, hl_d_bd, hl_3_bd, hl_4_bd, hl_5_bd, hl_bd, hl_v_b3, hl_d_b3, hl_3_b3, hl_4_b3, hl_5_b3, hl_b3, hl_v_b4, hl_d_b4, hl_3_b4, hl_4_b4, hl_5_b4, hl_b4, hl_v_b5, hl_d_b5, hl_3_b5, hl_4_b5, hl_5_b5, hl_b5, hs_bv_i, hm_bv_i, hR, tX12_codeAt R hR, tX12_enter R hR, ih]
    all_goals first | rfl | (split <;> simp_all)
set_option maxHeartbeats 4000000 in
theorem tX12_calls (R : Nat → Nat → Nat) (hR : R 285 = hm_R)  (g : hm) : fX12_calls 285  (gm g R) = hl_v R (nX12_calls  g) := by
  unfold fX12_calls nX12_calls
  simp only [gm_I, gm_R, gm_w, gm_kd, gm_ln, not_false_eq_true, if_true, ite_true, gk_285, gk_286, gk_287, gk_288, gk_289, gk_290, gk_291, gk_292, gk_293, gk_294, gk_295, gk_296, gk_297, gk_298, gk_299, gk_300, gk_301, gk_302, gk_303, gk_304, gk_305, gk_306, gk_307, gk_308, gk_309, gk_310, gk_311, gk_312, gk_313, gk_314, gk_315, gk_316, gk_317, gk_318, gk_319, gn_286, gn_287, gn_288, gn_289, gn_290, gn_291, gn_292, gn_293, gn_294, gn_295, gn_296, gn_297, gn_298, gn_299, gn_300, gn_301, gn_302, gn_303, gn_304, gn_305, gn_306, gn_307, gn_308, gn_309, gn_310, gn_311, gn_312, gn_313, gn_314, gn_315, gn_316, gn_317, gn_318, gn_319, gr_1, gr_5, gr_6, gr_7, gr_8, gr_9, gr_10, gr_11, gr_12, gr_13, gr_14, gr_15, gr_16, gr_17, gr_18, gr_19, gr_20, gr_21, gr_23, gr_24, gr_25, gr_26, gr_27, gr_28, gr_29, gr_30, gr_32, gr_34, gr_35, gr_41, gr_42, gr_43, gr_44, gr_45, gz_1, gz_5, gz_6, gz_7, gz_8, gz_9, gz_10, gz_11, gz_12, gz_13, gz_14, gz_15, gz_16, gz_17, gz_18, gz_19, gz_20, gz_21, gz_23, gz_24, gz_25, gz_26, gz_27, gz_28, gz_29, gz_30, gz_32, gz_34, gz_35, gz_41, gz_42, gz_43, gz_44, gz_45, hl_v_none, hl_v_ite, hl_d_none, hl_d_ite, hl_3_none, hl_3_ite, hl_4_none, hl_4_ite, hl_5_none, hl_5_ite, hl_v_some, hl_d_some, hl_3_some, hl_4_some, hl_5_some, hl_v_bv, hl_d_bv, hl_3_bv, hl_4_bv, hl_5_bv, hl_bv, hl_v_bd, hl_d_bd, hl_3_bd, hl_4_bd, hl_5_bd, hl_bd, hl_v_b3, hl_d_b3, hl_3_b3, hl_4_b3, hl_5_b3, hl_b3, hl_v_b4, hl_d_b4, hl_3_b4, hl_4_b4, hl_5_b4, hl_b4, hl_v_b5, hl_d_b5, hl_3_b5, hl_4_b5, hl_5_b5, hl_b5, hs_bv_i, hm_bv_i, hR, tX12_codeAt R hR, tX12_enter R hR, tlX12_calls_50 R hR]
  all_goals first | rfl | (split <;> simp_all)
def njX12_jumps_168 (s0 : Int32) (s1 : Int32) (s2 : Int32) (s3 : Int32) (s4 : Int32) (g : hm) : Option (hm) :=
  hm_bd (nX12_target s3 s2 s1 s0 g) fun r6 g5 =>
  if hs_in s4 60 = true then
  some (hm_w g5 316 s4.toNatClampNeg r6)
  else none
def njX12_jumps_119 (v1 : Int32) (v2 : Int32) (g : hm) : Option (hm) :=
  if hs_in ((g 285 40) - (1 : Int32)) 60 = true then
  if v2 = 0 then (
    hm_bd (nX12_size v1 g) fun r2 g1 =>
    if hs_in ((g 285 40) - (1 : Int32)) 60 = true then
    some (hm_w g1 316 ((g 285 40) - (1 : Int32)).toNatClampNeg ((g 316 ((g 285 40) - (1 : Int32)).toNatClampNeg) + r2))
    else none
  ) else (
    hm_bd (nX12_codeAt (1 : Int32) g) fun r4 g3 =>
    if v1 = (168 : Int32) then (
      hm_bd (nX12_codeAt (2 : Int32) g3) fun r8 g7 =>
      njX12_jumps_168 r8 r4 (g 316 ((g 285 40) - (1 : Int32)).toNatClampNeg) v1 ((g 285 40) - (1 : Int32)) g7
    ) else (
      njX12_jumps_168 (0 : Int32) r4 (g 316 ((g 285 40) - (1 : Int32)).toNatClampNeg) v1 ((g 285 40) - (1 : Int32)) g3
    )
  )
  else none
def njX12_jumps_118 (v1 : Int32) (s0 : Int32) (g : hm) : Option (hm) :=
  njX12_jumps_119 v1 s0 g
def nX12_jumps (v1 : Int32) (g : hm) : Option (hm) :=
  if (167 : Int32) ≤ v1 then (
    njX12_jumps_119 v1 (1 : Int32) g
  ) else (
    hm_bd (nX12_pop g) fun r10 g9 =>
    if v1 = (153 : Int32) then (
      if r10 = 0 then (
        njX12_jumps_118 v1 (1 : Int32) g9
      ) else (
        njX12_jumps_118 v1 (0 : Int32) g9
      )
    ) else (
      if v1 = (154 : Int32) then (
        if r10 = 0 then (
          njX12_jumps_118 v1 (0 : Int32) g9
        ) else (
          njX12_jumps_118 v1 (1 : Int32) g9
        )
      ) else (
        if v1 = (155 : Int32) then (
          if 0 ≤ r10 then (
            njX12_jumps_118 v1 (0 : Int32) g9
          ) else (
            njX12_jumps_118 v1 (1 : Int32) g9
          )
        ) else (
          if v1 = (156 : Int32) then (
            if r10 < 0 then (
              njX12_jumps_118 v1 (0 : Int32) g9
            ) else (
              njX12_jumps_118 v1 (1 : Int32) g9
            )
          ) else (
            if v1 = (157 : Int32) then (
              if r10 ≤ 0 then (
                njX12_jumps_118 v1 (0 : Int32) g9
              ) else (
                njX12_jumps_118 v1 (1 : Int32) g9
              )
            ) else (
              if 0 < r10 then (
                njX12_jumps_118 v1 (0 : Int32) g9
              ) else (
                njX12_jumps_118 v1 (1 : Int32) g9
              )
            )
          )
        )
      )
    )
  )
set_option maxHeartbeats 4000000 in
theorem tjX12_jumps_168 (R : Nat → Nat → Nat) (hR : R 285 = hm_R) (s0 : Int32) (s1 : Int32) (s2 : Int32) (s3 : Int32) (s4 : Int32) (g : hm) : jX12_jumps_168 s0 s1 s2 s3 s4 316 (gm g R) = hl_v R (njX12_jumps_168 s0 s1 s2 s3 s4 g) := by
  unfold jX12_jumps_168 njX12_jumps_168
  simp only [gm_I, gm_R, gm_w, gm_kd, gm_ln, not_false_eq_true, if_true, ite_true, gk_285, gk_286, gk_287, gk_288, gk_289, gk_290, gk_291, gk_292, gk_293, gk_294, gk_295, gk_296, gk_297, gk_298, gk_299, gk_300, gk_301, gk_302, gk_303, gk_304, gk_305, gk_306, gk_307, gk_308, gk_309, gk_310, gk_311, gk_312, gk_313, gk_314, gk_315, gk_316, gk_317, gk_318, gk_319, gn_286, gn_287, gn_288, gn_289, gn_290, gn_291, gn_292, gn_293, gn_294, gn_295, gn_296, gn_297, gn_298, gn_299, gn_300, gn_301, gn_302, gn_303, gn_304, gn_305, gn_306, gn_307, gn_308, gn_309, gn_310, gn_311, gn_312, gn_313, gn_314, gn_315, gn_316, gn_317, gn_318, gn_319, gr_1, gr_5, gr_6, gr_7, gr_8, gr_9, gr_10, gr_11, gr_12, gr_13, gr_14, gr_15, gr_16, gr_17, gr_18, gr_19, gr_20, gr_21, gr_23, gr_24, gr_25, gr_26, gr_27, gr_28, gr_29, gr_30, gr_32, gr_34, gr_35, gr_41, gr_42, gr_43, gr_44, gr_45, gz_1, gz_5, gz_6, gz_7, gz_8, gz_9, gz_10, gz_11, gz_12, gz_13, gz_14, gz_15, gz_16, gz_17, gz_18, gz_19, gz_20, gz_21, gz_23, gz_24, gz_25, gz_26, gz_27, gz_28, gz_29, gz_30, gz_32, gz_34, gz_35, gz_41, gz_42, gz_43, gz_44, gz_45, hl_v_none, hl_v_ite, hl_d_none, hl_d_ite, hl_3_none, hl_3_ite, hl_4_none, hl_4_ite, hl_5_none, hl_5_ite, hl_v_some, hl_d_some, hl_3_some, hl_4_some, hl_5_some, hl_v_bv, hl_d_bv, hl_3_bv, hl_4_bv, hl_5_bv, hl_bv, hl_v_bd, hl_d_bd, hl_3_bd, hl_4_bd, hl_5_bd, hl_bd, hl_v_b3, hl_d_b3, hl_3_b3, hl_4_b3, hl_5_b3, hl_b3, hl_v_b4, hl_d_b4, hl_3_b4, hl_4_b4, hl_5_b4, hl_b4, hl_v_b5, hl_d_b5, hl_3_b5, hl_4_b5, hl_5_b5, hl_b5, hs_bv_i, hm_bv_i, hR, tX12_codeAt R hR, tX12_pop R hR, tX12_size R hR, tX12_target R hR]
  all_goals first | rfl | (split <;> simp_all)
set_option maxHeartbeats 4000000 in
theorem tjX12_jumps_119 (R : Nat → Nat → Nat) (hR : R 285 = hm_R) (v1 : Int32) (v2 : Int32) (g : hm) : jX12_jumps_119 285 v1 v2 (gm g R) = hl_v R (njX12_jumps_119 v1 v2 g) := by
  unfold jX12_jumps_119 njX12_jumps_119
  simp only [gm_I, gm_R, gm_w, gm_kd, gm_ln, not_false_eq_true, if_true, ite_true, gk_285, gk_286, gk_287, gk_288, gk_289, gk_290, gk_291, gk_292, gk_293, gk_294, gk_295, gk_296, gk_297, gk_298, gk_299, gk_300, gk_301, gk_302, gk_303, gk_304, gk_305, gk_306, gk_307, gk_308, gk_309, gk_310, gk_311, gk_312, gk_313, gk_314, gk_315, gk_316, gk_317, gk_318, gk_319, gn_286, gn_287, gn_288, gn_289, gn_290, gn_291, gn_292, gn_293, gn_294, gn_295, gn_296, gn_297, gn_298, gn_299, gn_300, gn_301, gn_302, gn_303, gn_304, gn_305, gn_306, gn_307, gn_308, gn_309, gn_310, gn_311, gn_312, gn_313, gn_314, gn_315, gn_316, gn_317, gn_318, gn_319, gr_1, gr_5, gr_6, gr_7, gr_8, gr_9, gr_10, gr_11, gr_12, gr_13, gr_14, gr_15, gr_16, gr_17, gr_18, gr_19, gr_20, gr_21, gr_23, gr_24, gr_25, gr_26, gr_27, gr_28, gr_29, gr_30, gr_32, gr_34, gr_35, gr_41, gr_42, gr_43, gr_44, gr_45, gz_1, gz_5, gz_6, gz_7, gz_8, gz_9, gz_10, gz_11, gz_12, gz_13, gz_14, gz_15, gz_16, gz_17, gz_18, gz_19, gz_20, gz_21, gz_23, gz_24, gz_25, gz_26, gz_27, gz_28, gz_29, gz_30, gz_32, gz_34, gz_35, gz_41, gz_42, gz_43, gz_44, gz_45, hl_v_none, hl_v_ite, hl_d_none, hl_d_ite, hl_3_none, hl_3_ite, hl_4_none, hl_4_ite, hl_5_none, hl_5_ite, hl_v_some, hl_d_some, hl_3_some, hl_4_some, hl_5_some, hl_v_bv, hl_d_bv, hl_3_bv, hl_4_bv, hl_5_bv, hl_bv, hl_v_bd, hl_d_bd, hl_3_bd, hl_4_bd, hl_5_bd, hl_bd, hl_v_b3, hl_d_b3, hl_3_b3, hl_4_b3, hl_5_b3, hl_b3, hl_v_b4, hl_d_b4, hl_3_b4, hl_4_b4, hl_5_b4, hl_b4, hl_v_b5, hl_d_b5, hl_3_b5, hl_4_b5, hl_5_b5, hl_b5, hs_bv_i, hm_bv_i, hR, tX12_codeAt R hR, tX12_pop R hR, tX12_size R hR, tX12_target R hR, tjX12_jumps_168 R hR]
  all_goals first | rfl | (split <;> simp_all)
set_option maxHeartbeats 4000000 in
theorem tjX12_jumps_118 (R : Nat → Nat → Nat) (hR : R 285 = hm_R) (v1 : Int32) (s0 : Int32) (g : hm) : jX12_jumps_118 285 v1 s0 (gm g R) = hl_v R (njX12_jumps_118 v1 s0 g) := by
  unfold jX12_jumps_118 njX12_jumps_118
  simp only [gm_I, gm_R, gm_w, gm_kd, gm_ln, not_false_eq_true, if_true, ite_true, gk_285, gk_286, gk_287, gk_288, gk_289, gk_290, gk_291, gk_292, gk_293, gk_294, gk_295, gk_296, gk_297, gk_298, gk_299, gk_300, gk_301, gk_302, gk_303, gk_304, gk_305, gk_306, gk_307, gk_308, gk_309, gk_310, gk_311, gk_312, gk_313, gk_314, gk_315, gk_316, gk_317, gk_318, gk_319, gn_286, gn_287, gn_288, gn_289, gn_290, gn_291, gn_292, gn_293, gn_294, gn_295, gn_296, gn_297, gn_298, gn_299, gn_300, gn_301, gn_302, gn_303, gn_304, gn_305, gn_306, gn_307, gn_308, gn_309, gn_310, gn_311, gn_312, gn_313, gn_314, gn_315, gn_316, gn_317, gn_318, gn_319, gr_1, gr_5, gr_6, gr_7, gr_8, gr_9, gr_10, gr_11, gr_12, gr_13, gr_14, gr_15, gr_16, gr_17, gr_18, gr_19, gr_20, gr_21, gr_23, gr_24, gr_25, gr_26, gr_27, gr_28, gr_29, gr_30, gr_32, gr_34, gr_35, gr_41, gr_42, gr_43, gr_44, gr_45, gz_1, gz_5, gz_6, gz_7, gz_8, gz_9, gz_10, gz_11, gz_12, gz_13, gz_14, gz_15, gz_16, gz_17, gz_18, gz_19, gz_20, gz_21, gz_23, gz_24, gz_25, gz_26, gz_27, gz_28, gz_29, gz_30, gz_32, gz_34, gz_35, gz_41, gz_42, gz_43, gz_44, gz_45, hl_v_none, hl_v_ite, hl_d_none, hl_d_ite, hl_3_none, hl_3_ite, hl_4_none, hl_4_ite, hl_5_none, hl_5_ite, hl_v_some, hl_d_some, hl_3_some, hl_4_some, hl_5_some, hl_v_bv, hl_d_bv, hl_3_bv, hl_4_bv, hl_5_bv, hl_bv, hl_v_bd, hl_d_bd, hl_3_bd, hl_4_bd, hl_5_bd, hl_bd, hl_v_b3, hl_d_b3, hl_3_b3, hl_4_b3, hl_5_b3, hl_b3, hl_v_b4, hl_d_b4, hl_3_b4, hl_4_b4, hl_5_b4, hl_b4, hl_v_b5, hl_d_b5, hl_3_b5, hl_4_b5, hl_5_b5, hl_b5, hs_bv_i, hm_bv_i, hR, tX12_codeAt R hR, tX12_pop R hR, tX12_size R hR, tX12_target R hR, tjX12_jumps_168 R hR, tjX12_jumps_119 R hR]
  all_goals first | rfl | (split <;> simp_all)
set_option maxHeartbeats 4000000 in
theorem tX12_jumps (R : Nat → Nat → Nat) (hR : R 285 = hm_R) (v1 : Int32) (g : hm) : fX12_jumps 285 v1 (gm g R) = hl_v R (nX12_jumps v1 g) := by
  unfold fX12_jumps nX12_jumps
  simp only [gm_I, gm_R, gm_w, gm_kd, gm_ln, not_false_eq_true, if_true, ite_true, gk_285, gk_286, gk_287, gk_288, gk_289, gk_290, gk_291, gk_292, gk_293, gk_294, gk_295, gk_296, gk_297, gk_298, gk_299, gk_300, gk_301, gk_302, gk_303, gk_304, gk_305, gk_306, gk_307, gk_308, gk_309, gk_310, gk_311, gk_312, gk_313, gk_314, gk_315, gk_316, gk_317, gk_318, gk_319, gn_286, gn_287, gn_288, gn_289, gn_290, gn_291, gn_292, gn_293, gn_294, gn_295, gn_296, gn_297, gn_298, gn_299, gn_300, gn_301, gn_302, gn_303, gn_304, gn_305, gn_306, gn_307, gn_308, gn_309, gn_310, gn_311, gn_312, gn_313, gn_314, gn_315, gn_316, gn_317, gn_318, gn_319, gr_1, gr_5, gr_6, gr_7, gr_8, gr_9, gr_10, gr_11, gr_12, gr_13, gr_14, gr_15, gr_16, gr_17, gr_18, gr_19, gr_20, gr_21, gr_23, gr_24, gr_25, gr_26, gr_27, gr_28, gr_29, gr_30, gr_32, gr_34, gr_35, gr_41, gr_42, gr_43, gr_44, gr_45, gz_1, gz_5, gz_6, gz_7, gz_8, gz_9, gz_10, gz_11, gz_12, gz_13, gz_14, gz_15, gz_16, gz_17, gz_18, gz_19, gz_20, gz_21, gz_23, gz_24, gz_25, gz_26, gz_27, gz_28, gz_29, gz_30, gz_32, gz_34, gz_35, gz_41, gz_42, gz_43, gz_44, gz_45, hl_v_none, hl_v_ite, hl_d_none, hl_d_ite, hl_3_none, hl_3_ite, hl_4_none, hl_4_ite, hl_5_none, hl_5_ite, hl_v_some, hl_d_some, hl_3_some, hl_4_some, hl_5_some, hl_v_bv, hl_d_bv, hl_3_bv, hl_4_bv, hl_5_bv, hl_bv, hl_v_bd, hl_d_bd, hl_3_bd, hl_4_bd, hl_5_bd, hl_bd, hl_v_b3, hl_d_b3, hl_3_b3, hl_4_b3, hl_5_b3, hl_b3, hl_v_b4, hl_d_b4, hl_3_b4, hl_4_b4, hl_5_b4, hl_b4, hl_v_b5, hl_d_b5, hl_3_b5, hl_4_b5, hl_5_b5, hl_b5, hs_bv_i, hm_bv_i, hR, tX12_codeAt R hR, tX12_pop R hR, tX12_size R hR, tX12_target R hR, tjX12_jumps_168 R hR, tjX12_jumps_119 R hR, tjX12_jumps_118 R hR]
  all_goals first | rfl | (split <;> simp_all)
def njX12_ofArrays_241 (v3 : Int32) (g : hm) : Option (hm) :=
  if (g 285 47) = 0 then (
    if hs_in ((g 285 40) - (1 : Int32)) 60 = true then
    some (hm_w g 316 ((g 285 40) - (1 : Int32)).toNatClampNeg v3)
    else none
  ) else (
    some g
  )
def njX12_ofArrays_170 (v1 : Int32) (v2 : Int32) (v3 : Int32) (s0 : Int32) (g : hm) : Option (hm) :=
  hm_bd (nX12_pop g) fun r6 g5 =>
  if r6 < 0 then (
    some (hm_w g5 285 47 (2 : Int32))
  ) else (
    if hs_in v2 4 = true then
    if r6 < (g5 313 v2.toNatClampNeg) then (
      if v1 = (79 : Int32) then (
        if hs_in (((1001 : Int32) * v2) + r6) 4004 = true then
        njX12_ofArrays_241 v3 (hm_w g5 314 (((1001 : Int32) * v2) + r6).toNatClampNeg s0)
        else none
      ) else (
        if hs_in (((1001 : Int32) * v2) + r6) 4004 = true then
        hm_bv (nX12_push (g5 314 (((1001 : Int32) * v2) + r6).toNatClampNeg) g5) fun g7 =>
        njX12_ofArrays_241 v3 g7
        else none
      )
    ) else (
      some (hm_w g5 285 47 (2 : Int32))
    )
    else none
  )
def njX12_ofArrays_75 (v4 : Int32) (g : hm) : Option (hm) :=
  if 0 ≤ v4 then (
    some (hm_w g 285 47 (4 : Int32))
  ) else (
    some (hm_w g 285 47 (3 : Int32))
  )
def nlX12_ofArrays_106 : Nat → Int32 → Int32 → Int32 → Int32 → hm → Option (hm)
  | 0, _, _, _, _, _ => none
  | n + 1, v2, v3, v4, v5, g =>
    if v4 ≤ v5 then (
      some g
    ) else (
      if hs_in (((1001 : Int32) * v2) + v5) 4004 = true then
      nlX12_ofArrays_106 n v2 v3 v4 (v5 + (1 : Int32)) (hm_w g 314 (((1001 : Int32) * v2) + v5).toNatClampNeg (0 : Int32))
      else none
    )
theorem nlX12_ofArrays_106_s (n : Nat) (v2 : Int32) (v3 : Int32) (v4 : Int32) (v5 : Int32) (g : hm) : nlX12_ofArrays_106 (n + 1) v2 v3 v4 v5 g =
    if v4 ≤ v5 then (
      some g
    ) else (
      if hs_in (((1001 : Int32) * v2) + v5) 4004 = true then
      nlX12_ofArrays_106 n v2 v3 v4 (v5 + (1 : Int32)) (hm_w g 314 (((1001 : Int32) * v2) + v5).toNatClampNeg (0 : Int32))
      else none
    ) := rfl
def njX12_ofArrays_16 (v1 : Int32) (s0 : Int32) (g : hm) : Option (hm) :=
  if hs_in ((g 285 40) - (1 : Int32)) 60 = true then
  hm_bd (nX12_size v1 g) fun r4 g3 =>
  if v1 = (191 : Int32) then (
    njX12_ofArrays_241 ((g 316 ((g 285 40) - (1 : Int32)).toNatClampNeg) + r4) (hm_w g3 285 47 (4 : Int32))
  ) else (
    if v1 = (188 : Int32) then (
      hm_bd (nX12_top g3) fun r14 g13 =>
      if r14 < 0 then (
        njX12_ofArrays_75 r14 g13
      ) else (
        if r14 ≤ (1000 : Int32) then (
          hm_bd (nX12_pop g13) fun r16 g15 =>
          if hs_in s0 4 = true then
          hm_bv (nlX12_ofArrays_106 hs_N s0 ((g 316 ((g 285 40) - (1 : Int32)).toNatClampNeg) + r4) r14 (0 : Int32) (hm_w g15 313 s0.toNatClampNeg r14)) fun g18 =>
          njX12_ofArrays_241 ((g 316 ((g 285 40) - (1 : Int32)).toNatClampNeg) + r4) g18
          else none
        ) else (
          njX12_ofArrays_75 r14 g13
        )
      )
    ) else (
      if v1 = (190 : Int32) then (
        if hs_in s0 4 = true then
        hm_bv (nX12_push (g3 313 s0.toNatClampNeg) g3) fun g11 =>
        njX12_ofArrays_241 ((g 316 ((g 285 40) - (1 : Int32)).toNatClampNeg) + r4) g11
        else none
      ) else (
        if v1 = (79 : Int32) then (
          hm_bd (nX12_pop g3) fun r10 g9 =>
          njX12_ofArrays_170 v1 s0 ((g 316 ((g 285 40) - (1 : Int32)).toNatClampNeg) + r4) r10 g9
        ) else (
          njX12_ofArrays_170 v1 s0 ((g 316 ((g 285 40) - (1 : Int32)).toNatClampNeg) + r4) (0 : Int32) g3
        )
      )
    )
  )
  else none
def nX12_ofArrays (v1 : Int32) (g : hm) : Option (hm) :=
  if v1 = (191 : Int32) then (
    njX12_ofArrays_16 v1 (0 : Int32) g
  ) else (
    hm_bd (nX12_codeAt (1 : Int32) g) fun r2 g1 =>
    njX12_ofArrays_16 v1 r2 g1
  )
set_option maxHeartbeats 4000000 in
theorem tjX12_ofArrays_241 (R : Nat → Nat → Nat) (hR : R 285 = hm_R) (v3 : Int32) (g : hm) : jX12_ofArrays_241 285 v3 (gm g R) = hl_v R (njX12_ofArrays_241 v3 g) := by
  unfold jX12_ofArrays_241 njX12_ofArrays_241
  simp only [gm_I, gm_R, gm_w, gm_kd, gm_ln, not_false_eq_true, if_true, ite_true, gk_285, gk_286, gk_287, gk_288, gk_289, gk_290, gk_291, gk_292, gk_293, gk_294, gk_295, gk_296, gk_297, gk_298, gk_299, gk_300, gk_301, gk_302, gk_303, gk_304, gk_305, gk_306, gk_307, gk_308, gk_309, gk_310, gk_311, gk_312, gk_313, gk_314, gk_315, gk_316, gk_317, gk_318, gk_319, gn_286, gn_287, gn_288, gn_289, gn_290, gn_291, gn_292, gn_293, gn_294, gn_295, gn_296, gn_297, gn_298, gn_299, gn_300, gn_301, gn_302, gn_303, gn_304, gn_305, gn_306, gn_307, gn_308, gn_309, gn_310, gn_311, gn_312, gn_313, gn_314, gn_315, gn_316, gn_317, gn_318, gn_319, gr_1, gr_5, gr_6, gr_7, gr_8, gr_9, gr_10, gr_11, gr_12, gr_13, gr_14, gr_15, gr_16, gr_17, gr_18, gr_19, gr_20, gr_21, gr_23, gr_24, gr_25, gr_26, gr_27, gr_28, gr_29, gr_30, gr_32, gr_34, gr_35, gr_41, gr_42, gr_43, gr_44, gr_45, gz_1, gz_5, gz_6, gz_7, gz_8, gz_9, gz_10, gz_11, gz_12, gz_13, gz_14, gz_15, gz_16, gz_17, gz_18, gz_19, gz_20, gz_21, gz_23, gz_24, gz_25, gz_26, gz_27, gz_28, gz_29, gz_30, gz_32, gz_34, gz_35, gz_41, gz_42, gz_43, gz_44, gz_45, hl_v_none, hl_v_ite, hl_d_none, hl_d_ite, hl_3_none, hl_3_ite, hl_4_none, hl_4_ite, hl_5_none, hl_5_ite, hl_v_some, hl_d_some, hl_3_some, hl_4_some, hl_5_some, hl_v_bv, hl_d_bv, hl_3_bv, hl_4_bv, hl_5_bv, hl_bv, hl_v_bd, hl_d_bd, hl_3_bd, hl_4_bd, hl_5_bd, hl_bd, hl_v_b3, hl_d_b3, hl_3_b3, hl_4_b3, hl_5_b3, hl_b3, hl_v_b4, hl_d_b4, hl_3_b4, hl_4_b4, hl_5_b4, hl_b4, hl_v_b5, hl_d_b5, hl_3_b5, hl_4_b5, hl_5_b5, hl_b5, hs_bv_i, hm_bv_i, hR, tX12_codeAt R hR, tX12_pop R hR, tX12_push R hR, tX12_size R hR, tX12_top R hR]
  all_goals first | rfl | (split <;> simp_all)
set_option maxHeartbeats 4000000 in
theorem tjX12_ofArrays_170 (R : Nat → Nat → Nat) (hR : R 285 = hm_R) (v1 : Int32) (v2 : Int32) (v3 : Int32) (s0 : Int32) (g : hm) : jX12_ofArrays_170 285 v1 v2 v3 s0 (gm g R) = hl_v R (njX12_ofArrays_170 v1 v2 v3 s0 g) := by
  unfold jX12_ofArrays_170 njX12_ofArrays_170
  simp only [gm_I, gm_R, gm_w, gm_kd, gm_ln, not_false_eq_true, if_true, ite_true, gk_285, gk_286, gk_287, gk_288, gk_289, gk_290, gk_291, gk_292, gk_293, gk_294, gk_295, gk_296, gk_297, gk_298, gk_299, gk_300, gk_301, gk_302, gk_303, gk_304, gk_305, gk_306, gk_307, gk_308, gk_309, gk_310, gk_311, gk_312, gk_313, gk_314, gk_315, gk_316, gk_317, gk_318, gk_319, gn_286, gn_287, gn_288, gn_289, gn_290, gn_291, gn_292, gn_293, gn_294, gn_295, gn_296, gn_297, gn_298, gn_299, gn_300, gn_301, gn_302, gn_303, gn_304, gn_305, gn_306, gn_307, gn_308, gn_309, gn_310, gn_311, gn_312, gn_313, gn_314, gn_315, gn_316, gn_317, gn_318, gn_319, gr_1, gr_5, gr_6, gr_7, gr_8, gr_9, gr_10, gr_11, gr_12, gr_13, gr_14, gr_15, gr_16, gr_17, gr_18, gr_19, gr_20, gr_21, gr_23, gr_24, gr_25, gr_26, gr_27, gr_28, gr_29, gr_30, gr_32, gr_34, gr_35, gr_41, gr_42, gr_43, gr_44, gr_45, gz_1, gz_5, gz_6, gz_7, gz_8, gz_9, gz_10, gz_11, gz_12, gz_13, gz_14, gz_15, gz_16, gz_17, gz_18, gz_19, gz_20, gz_21, gz_23, gz_24, gz_25, gz_26, gz_27, gz_28, gz_29, gz_30, gz_32, gz_34, gz_35, gz_41, gz_42, gz_43, gz_44, gz_45, hl_v_none, hl_v_ite, hl_d_none, hl_d_ite, hl_3_none, hl_3_ite, hl_4_none, hl_4_ite, hl_5_none, hl_5_ite, hl_v_some, hl_d_some, hl_3_some, hl_4_some, hl_5_some, hl_v_bv, hl_d_bv, hl_3_bv, hl_4_bv, hl_5_bv, hl_bv, hl_v_bd, hl_d_bd, hl_3_bd, hl_4_bd, hl_5_bd, hl_bd, hl_v_b3, hl_d_b3, hl_3_b3, hl_4_b3, hl_5_b3, hl_b3, hl_v_b4, hl_d_b4, hl_3_b4, hl_4_b4, hl_5_b4, hl_b4, hl_v_b5, hl_d_b5, hl_3_b5, hl_4_b5, hl_5_b5, hl_b5, hs_bv_i, hm_bv_i, hR, tX12_codeAt R hR, tX12_pop R hR, tX12_push R hR, tX12_size R hR, tX12_top R hR, tjX12_ofArrays_241 R hR]
  all_goals first | rfl | (split <;> simp_all)
set_option maxHeartbeats 4000000 in
theorem tjX12_ofArrays_75 (R : Nat → Nat → Nat) (hR : R 285 = hm_R) (v4 : Int32) (g : hm) : jX12_ofArrays_75 285 v4 (gm g R) = hl_v R (njX12_ofArrays_75 v4 g) := by
  unfold jX12_ofArrays_75 njX12_ofArrays_75
  simp only [gm_I, gm_R, gm_w, gm_kd, gm_ln, not_false_eq_true, if_true, ite_true, gk_285, gk_286, gk_287, gk_288, gk_289, gk_290, gk_291, gk_292, gk_293, gk_294, gk_295, gk_296, gk_297, gk_298, gk_299, gk_300, gk_301, gk_302, gk_303, gk_304, gk_305, gk_306, gk_307, gk_308, gk_309, gk_310, gk_311, gk_312, gk_313, gk_314, gk_315, gk_316, gk_317, gk_318, gk_319, gn_286, gn_287, gn_288, gn_289, gn_290, gn_291, gn_292, gn_293, gn_294, gn_295, gn_296, gn_297, gn_298, gn_299, gn_300, gn_301, gn_302, gn_303, gn_304, gn_305, gn_306, gn_307, gn_308, gn_309, gn_310, gn_311, gn_312, gn_313, gn_314, gn_315, gn_316, gn_317, gn_318, gn_319, gr_1, gr_5, gr_6, gr_7, gr_8, gr_9, gr_10, gr_11, gr_12, gr_13, gr_14, gr_15, gr_16, gr_17, gr_18, gr_19, gr_20, gr_21, gr_23, gr_24, gr_25, gr_26, gr_27, gr_28, gr_29, gr_30, gr_32, gr_34, gr_35, gr_41, gr_42, gr_43, gr_44, gr_45, gz_1, gz_5, gz_6, gz_7, gz_8, gz_9, gz_10, gz_11, gz_12, gz_13, gz_14, gz_15, gz_16, gz_17, gz_18, gz_19, gz_20, gz_21, gz_23, gz_24, gz_25, gz_26, gz_27, gz_28, gz_29, gz_30, gz_32, gz_34, gz_35, gz_41, gz_42, gz_43, gz_44, gz_45, hl_v_none, hl_v_ite, hl_d_none, hl_d_ite, hl_3_none, hl_3_ite, hl_4_none, hl_4_ite, hl_5_none, hl_5_ite, hl_v_some, hl_d_some, hl_3_some, hl_4_some, hl_5_some, hl_v_bv, hl_d_bv, hl_3_bv, hl_4_bv, hl_5_bv, hl_bv, hl_v_bd, hl_d_bd, hl_3_bd, hl_4_bd, hl_5_bd, hl_bd, hl_v_b3, hl_d_b3, hl_3_b3, hl_4_b3, hl_5_b3, hl_b3, hl_v_b4, hl_d_b4, hl_3_b4, hl_4_b4, hl_5_b4, hl_b4, hl_v_b5, hl_d_b5, hl_3_b5, hl_4_b5, hl_5_b5, hl_b5, hs_bv_i, hm_bv_i, hR, tX12_codeAt R hR, tX12_pop R hR, tX12_push R hR, tX12_size R hR, tX12_top R hR, tjX12_ofArrays_241 R hR, tjX12_ofArrays_170 R hR]
  all_goals first | rfl | (split <;> simp_all)
set_option maxHeartbeats 4000000 in
theorem tlX12_ofArrays_106 (R : Nat → Nat → Nat) (hR : R 285 = hm_R) : ∀ (n : Nat) (v2 : Int32) (v3 : Int32) (v4 : Int32) (v5 : Int32) (g : hm), lX12_ofArrays_106 n 285 v2 v3 v4 v5 (gm g R) = hl_v R (nlX12_ofArrays_106 n v2 v3 v4 v5 g) := by
  intro n
  induction n with
  | zero => intros; rfl
  | succ n ih =>
    intro v2 v3 v4 v5 g
    rw [lX12_ofArrays_106_s, nlX12_ofArrays_106_s]
    simp only [gm_I, gm_R, gm_w, gm_kd, gm_ln, not_false_eq_true, if_true, ite_true, gk_285, gk_286, gk_287, gk_288, gk_289, gk_290, gk_291, gk_292, gk_293, gk_294, gk_295, gk_296, gk_297, gk_298, gk_299, gk_300, gk_301, gk_302, gk_303, gk_304, gk_305, gk_306, gk_307, gk_308, gk_309, gk_310, gk_311, gk_312, gk_313, gk_314, gk_315, gk_316, gk_317, gk_318, gk_319, gn_286, gn_287, gn_288, gn_289, gn_290, gn_291, gn_292, gn_293, gn_294, gn_295, gn_296, gn_297, gn_298, gn_299, gn_300, gn_301, gn_302, gn_303, gn_304, gn_305, gn_306, gn_307, gn_308, gn_309, gn_310, gn_311, gn_312, gn_313, gn_314, gn_315, gn_316, gn_317, gn_318, gn_319, gr_1, gr_5, gr_6, gr_7, gr_8, gr_9, gr_10, gr_11, gr_12, gr_13, gr_14, gr_15, gr_16, gr_17, gr_18, gr_19, gr_20, gr_21, gr_23, gr_24, gr_25, gr_26, gr_27, gr_28, gr_29, gr_30, gr_32, gr_34, gr_35, gr_41, gr_42, gr_43, gr_44, gr_45, gz_1, gz_5, gz_6, gz_7, gz_8, gz_9, gz_10, gz_11, gz_12, gz_13, gz_14, gz_15, gz_16, gz_17, gz_18, gz_19, gz_20, gz_21, gz_23, gz_24, gz_25, gz_26, gz_27, gz_28, gz_29, gz_30, gz_32, gz_34, gz_35, gz_41, gz_42, gz_43, gz_44, gz_45, hl_v_none, hl_v_ite, hl_d_none, hl_d_ite, hl_3_none, hl_3_ite, hl_4_none, hl_4_ite, hl_5_none, hl_5_ite, hl_v_some, hl_d_some, hl_3_some, hl_4_some, hl_5_some, hl_v_bv, hl_d_bv, hl_3_bv, hl_4_bv, hl_5_bv, hl_bv, hl_v_bd, hl_d_bd, hl_3_bd, hl_4_bd, hl_5_bd, hl_bd, hl_v_b3, hl_d_b3, hl_3_b3, hl_4_b3, hl_5_b3, hl_b3, hl_v_b4, hl_d_b4, hl_3_b4, hl_4_b4, hl_5_b4, hl_b4, hl_v_b5, hl_d_b5, hl_3_b5, hl_4_b5, hl_5_b5, hl_b5, hs_bv_i, hm_bv_i, hR, tX12_codeAt R hR, tX12_pop R hR, tX12_push R hR, tX12_size R hR, tX12_top R hR, tjX12_ofArrays_241 R hR, tjX12_ofArrays_170 R hR, tjX12_ofArrays_75 R hR, ih]
    all_goals first | rfl | (split <;> simp_all)
set_option maxHeartbeats 4000000 in
theorem tjX12_ofArrays_16 (R : Nat → Nat → Nat) (hR : R 285 = hm_R) (v1 : Int32) (s0 : Int32) (g : hm) : jX12_ofArrays_16 285 v1 s0 (gm g R) = hl_v R (njX12_ofArrays_16 v1 s0 g) := by
  unfold jX12_ofArrays_16 njX12_ofArrays_16
  simp only [gm_I, gm_R, gm_w, gm_kd, gm_ln, not_false_eq_true, if_true, ite_true, gk_285, gk_286, gk_287, gk_288, gk_289, gk_290, gk_291, gk_292, gk_293, gk_294, gk_295, gk_296, gk_297, gk_298, gk_299, gk_300, gk_301, gk_302, gk_303, gk_304, gk_305, gk_306, gk_307, gk_308, gk_309, gk_310, gk_311, gk_312, gk_313, gk_314, gk_315, gk_316, gk_317, gk_318, gk_319, gn_286, gn_287, gn_288, gn_289, gn_290, gn_291, gn_292, gn_293, gn_294, gn_295, gn_296, gn_297, gn_298, gn_299, gn_300, gn_301, gn_302, gn_303, gn_304, gn_305, gn_306, gn_307, gn_308, gn_309, gn_310, gn_311, gn_312, gn_313, gn_314, gn_315, gn_316, gn_317, gn_318, gn_319, gr_1, gr_5, gr_6, gr_7, gr_8, gr_9, gr_10, gr_11, gr_12, gr_13, gr_14, gr_15, gr_16, gr_17, gr_18, gr_19, gr_20, gr_21, gr_23, gr_24, gr_25, gr_26, gr_27, gr_28, gr_29, gr_30, gr_32, gr_34, gr_35, gr_41, gr_42, gr_43, gr_44, gr_45, gz_1, gz_5, gz_6, gz_7, gz_8, gz_9, gz_10, gz_11, gz_12, gz_13, gz_14, gz_15, gz_16, gz_17, gz_18, gz_19, gz_20, gz_21, gz_23, gz_24, gz_25, gz_26, gz_27, gz_28, gz_29, gz_30, gz_32, gz_34, gz_35, gz_41, gz_42, gz_43, gz_44, gz_45, hl_v_none, hl_v_ite, hl_d_none, hl_d_ite, hl_3_none, hl_3_ite, hl_4_none, hl_4_ite, hl_5_none, hl_5_ite, hl_v_some, hl_d_some, hl_3_some, hl_4_some, hl_5_some, hl_v_bv, hl_d_bv, hl_3_bv, hl_4_bv, hl_5_bv, hl_bv, hl_v_bd, hl_d_bd, hl_3_bd, hl_4_bd, hl_5_bd, hl_bd, hl_v_b3, hl_d_b3, hl_3_b3, hl_4_b3, hl_5_b3, hl_b3, hl_v_b4, hl_d_b4, hl_3_b4, hl_4_b4, hl_5_b4, hl_b4, hl_v_b5, hl_d_b5, hl_3_b5, hl_4_b5, hl_5_b5, hl_b5, hs_bv_i, hm_bv_i, hR, tX12_codeAt R hR, tX12_pop R hR, tX12_push R hR, tX12_size R hR, tX12_top R hR, tjX12_ofArrays_241 R hR, tjX12_ofArrays_170 R hR, tjX12_ofArrays_75 R hR, tlX12_ofArrays_106 R hR]
  all_goals first | rfl | (split <;> simp_all)
set_option maxHeartbeats 4000000 in
theorem tX12_ofArrays (R : Nat → Nat → Nat) (hR : R 285 = hm_R) (v1 : Int32) (g : hm) : fX12_ofArrays 285 v1 (gm g R) = hl_v R (nX12_ofArrays v1 g) := by
  unfold fX12_ofArrays nX12_ofArrays
  simp only [gm_I, gm_R, gm_w, gm_kd, gm_ln, not_false_eq_true, if_true, ite_true, gk_285, gk_286, gk_287, gk_288, gk_289, gk_290, gk_291, gk_292, gk_293, gk_294, gk_295, gk_296, gk_297, gk_298, gk_299, gk_300, gk_301, gk_302, gk_303, gk_304, gk_305, gk_306, gk_307, gk_308, gk_309, gk_310, gk_311, gk_312, gk_313, gk_314, gk_315, gk_316, gk_317, gk_318, gk_319, gn_286, gn_287, gn_288, gn_289, gn_290, gn_291, gn_292, gn_293, gn_294, gn_295, gn_296, gn_297, gn_298, gn_299, gn_300, gn_301, gn_302, gn_303, gn_304, gn_305, gn_306, gn_307, gn_308, gn_309, gn_310, gn_311, gn_312, gn_313, gn_314, gn_315, gn_316, gn_317, gn_318, gn_319, gr_1, gr_5, gr_6, gr_7, gr_8, gr_9, gr_10, gr_11, gr_12, gr_13, gr_14, gr_15, gr_16, gr_17, gr_18, gr_19, gr_20, gr_21, gr_23, gr_24, gr_25, gr_26, gr_27, gr_28, gr_29, gr_30, gr_32, gr_34, gr_35, gr_41, gr_42, gr_43, gr_44, gr_45, gz_1, gz_5, gz_6, gz_7, gz_8, gz_9, gz_10, gz_11, gz_12, gz_13, gz_14, gz_15, gz_16, gz_17, gz_18, gz_19, gz_20, gz_21, gz_23, gz_24, gz_25, gz_26, gz_27, gz_28, gz_29, gz_30, gz_32, gz_34, gz_35, gz_41, gz_42, gz_43, gz_44, gz_45, hl_v_none, hl_v_ite, hl_d_none, hl_d_ite, hl_3_none, hl_3_ite, hl_4_none, hl_4_ite, hl_5_none, hl_5_ite, hl_v_some, hl_d_some, hl_3_some, hl_4_some, hl_5_some, hl_v_bv, hl_d_bv, hl_3_bv, hl_4_bv, hl_5_bv, hl_bv, hl_v_bd, hl_d_bd, hl_3_bd, hl_4_bd, hl_5_bd, hl_bd, hl_v_b3, hl_d_b3, hl_3_b3, hl_4_b3, hl_5_b3, hl_b3, hl_v_b4, hl_d_b4, hl_3_b4, hl_4_b4, hl_5_b4, hl_b4, hl_v_b5, hl_d_b5, hl_3_b5, hl_4_b5, hl_5_b5, hl_b5, hs_bv_i, hm_bv_i, hR, tX12_codeAt R hR, tX12_pop R hR, tX12_push R hR, tX12_size R hR, tX12_top R hR, tjX12_ofArrays_241 R hR, tjX12_ofArrays_170 R hR, tjX12_ofArrays_75 R hR, tlX12_ofArrays_106 R hR, tjX12_ofArrays_16 R hR]
  all_goals first | rfl | (split <;> simp_all)
