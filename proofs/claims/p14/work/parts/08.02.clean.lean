def njX12_takes_130  (g : hm) : Option (Int32 × hm) :=
  some ((2 : Int32), g)
def njX12_takes_74 (v1 : Int32) (g : hm) : Option (Int32 × hm) :=
  if v1 = (79 : Int32) then (
    njX12_takes_130 g
  ) else (
    if v1 = (96 : Int32) then (
      njX12_takes_130 g
    ) else (
      if v1 = (100 : Int32) then (
        njX12_takes_130 g
      ) else (
        if v1 = (104 : Int32) then (
          njX12_takes_130 g
        ) else (
          if v1 = (108 : Int32) then (
            njX12_takes_130 g
          ) else (
            if v1 = (112 : Int32) then (
              njX12_takes_130 g
            ) else (
              if v1 = (126 : Int32) then (
                njX12_takes_130 g
              ) else (
                if v1 = (128 : Int32) then (
                  njX12_takes_130 g
                ) else (
                  if v1 = (130 : Int32) then (
                    njX12_takes_130 g
                  ) else (
                    some ((0 : Int32), g)
                  )
                )
              )
            )
          )
        )
      )
    )
  )
def nX12_takes (v1 : Int32) (v2 : Int32) (g : hm) : Option (Int32 × hm) :=
  if v1 = (184 : Int32) then (
    if hs_in v2 8 = true then
    some ((g 297 v2.toNatClampNeg), g)
    else none
  ) else (
    if v1 = (54 : Int32) then (
      some ((1 : Int32), g)
    ) else (
      if v1 = (87 : Int32) then (
        some ((1 : Int32), g)
      ) else (
        if v1 = (89 : Int32) then (
          some ((1 : Int32), g)
        ) else (
          if v1 = (116 : Int32) then (
            some ((1 : Int32), g)
          ) else (
            if v1 = (172 : Int32) then (
              some ((1 : Int32), g)
            ) else (
              if v1 = (188 : Int32) then (
                some ((1 : Int32), g)
              ) else (
                if v1 = (46 : Int32) then (
                  some ((1 : Int32), g)
                ) else (
                  if v1 < (153 : Int32) then (
                    njX12_takes_74 v1 g
                  ) else (
                    if (158 : Int32) < v1 then (
                      njX12_takes_74 v1 g
                    ) else (
                      some ((1 : Int32), g)
                    )
                  )
                )
              )
            )
          )
        )
      )
    )
  )
set_option maxHeartbeats 4000000 in
theorem tjX12_takes_130 (R : Nat → Nat → Nat) (hR : R 285 = hm_R)  (g : hm) : jX12_takes_130  (gm g R) = hl_d R (njX12_takes_130  g) := by
  unfold jX12_takes_130 njX12_takes_130
  simp only [gm_I, gm_R, gm_w, gm_kd, gm_ln, not_false_eq_true, if_true, ite_true, gk_285, gk_286, gk_287, gk_288, gk_289, gk_290, gk_291, gk_292, gk_293, gk_294, gk_295, gk_296, gk_297, gk_298, gk_299, gk_300, gk_301, gk_302, gk_303, gk_304, gk_305, gk_306, gk_307, gk_308, gk_309, gk_310, gk_311, gk_312, gk_313, gk_314, gk_315, gk_316, gk_317, gk_318, gk_319, gn_286, gn_287, gn_288, gn_289, gn_290, gn_291, gn_292, gn_293, gn_294, gn_295, gn_296, gn_297, gn_298, gn_299, gn_300, gn_301, gn_302, gn_303, gn_304, gn_305, gn_306, gn_307, gn_308, gn_309, gn_310, gn_311, gn_312, gn_313, gn_314, gn_315, gn_316, gn_317, gn_318, gn_319, gr_1, gr_5, gr_6, gr_7, gr_8, gr_9, gr_10, gr_11, gr_12, gr_13, gr_14, gr_15, gr_16, gr_17, gr_18, gr_19, gr_20, gr_21, gr_23, gr_24, gr_25, gr_26, gr_27, gr_28, gr_29, gr_30, gr_32, gr_34, gr_35, gr_41, gr_42, gr_43, gr_44, gr_45, gz_1, gz_5, gz_6, gz_7, gz_8, gz_9, gz_10, gz_11, gz_12, gz_13, gz_14, gz_15, gz_16, gz_17, gz_18, gz_19, gz_20, gz_21, gz_23, gz_24, gz_25, gz_26, gz_27, gz_28, gz_29, gz_30, gz_32, gz_34, gz_35, gz_41, gz_42, gz_43, gz_44, gz_45, hl_v_none, hl_v_ite, hl_d_none, hl_d_ite, hl_3_none, hl_3_ite, hl_4_none, hl_4_ite, hl_5_none, hl_5_ite, hl_v_some, hl_d_some, hl_3_some, hl_4_some, hl_5_some, hl_v_bv, hl_d_bv, hl_3_bv, hl_4_bv, hl_5_bv, hl_bv, hl_v_bd, hl_d_bd, hl_3_bd, hl_4_bd, hl_5_bd, hl_bd, hl_v_b3, hl_d_b3, hl_3_b3, hl_4_b3, hl_5_b3, hl_b3, hl_v_b4, hl_d_b4, hl_3_b4, hl_4_b4, hl_5_b4, hl_b4, hl_v_b5, hl_d_b5, hl_3_b5, hl_4_b5, hl_5_b5, hl_b5, hs_bv_i, hm_bv_i, hR]
  all_goals rfl
set_option maxHeartbeats 4000000 in
theorem tjX12_takes_74 (R : Nat → Nat → Nat) (hR : R 285 = hm_R) (v1 : Int32) (g : hm) : jX12_takes_74 v1 (gm g R) = hl_d R (njX12_takes_74 v1 g) := by
  unfold jX12_takes_74 njX12_takes_74
  simp only [gm_I, gm_R, gm_w, gm_kd, gm_ln, not_false_eq_true, if_true, ite_true, gk_285, gk_286, gk_287, gk_288, gk_289, gk_290, gk_291, gk_292, gk_293, gk_294, gk_295, gk_296, gk_297, gk_298, gk_299, gk_300, gk_301, gk_302, gk_303, gk_304, gk_305, gk_306, gk_307, gk_308, gk_309, gk_310, gk_311, gk_312, gk_313, gk_314, gk_315, gk_316, gk_317, gk_318, gk_319, gn_286, gn_287, gn_288, gn_289, gn_290, gn_291, gn_292, gn_293, gn_294, gn_295, gn_296, gn_297, gn_298, gn_299, gn_300, gn_301, gn_302, gn_303, gn_304, gn_305, gn_306, gn_307, gn_308, gn_309, gn_310, gn_311, gn_312, gn_313, gn_314, gn_315, gn_316, gn_317, gn_318, gn_319, gr_1, gr_5, gr_6, gr_7, gr_8, gr_9, gr_10, gr_11, gr_12, gr_13, gr_14, gr_15, gr_16, gr_17, gr_18, gr_19, gr_20, gr_21, gr_23, gr_24, gr_25, gr_26, gr_27, gr_28, gr_29, gr_30, gr_32, gr_34, gr_35, gr_41, gr_42, gr_43, gr_44, gr_45, gz_1, gz_5, gz_6, gz_7, gz_8, gz_9, gz_10, gz_11, gz_12, gz_13, gz_14, gz_15, gz_16, gz_17, gz_18, gz_19, gz_20, gz_21, gz_23, gz_24, gz_25, gz_26, gz_27, gz_28, gz_29, gz_30, gz_32, gz_34, gz_35, gz_41, gz_42, gz_43, gz_44, gz_45, hl_v_none, hl_v_ite, hl_d_none, hl_d_ite, hl_3_none, hl_3_ite, hl_4_none, hl_4_ite, hl_5_none, hl_5_ite, hl_v_some, hl_d_some, hl_3_some, hl_4_some, hl_5_some, hl_v_bv, hl_d_bv, hl_3_bv, hl_4_bv, hl_5_bv, hl_bv, hl_v_bd, hl_d_bd, hl_3_bd, hl_4_bd, hl_5_bd, hl_bd, hl_v_b3, hl_d_b3, hl_3_b3, hl_4_b3, hl_5_b3, hl_b3, hl_v_b4, hl_d_b4, hl_3_b4, hl_4_b4, hl_5_b4, hl_b4, hl_v_b5, hl_d_b5, hl_3_b5, hl_4_b5, hl_5_b5, hl_b5, hs_bv_i, hm_bv_i, hR, tjX12_takes_130 R hR]
  all_goals rfl
set_option maxHeartbeats 4000000 in
theorem tX12_takes (R : Nat → Nat → Nat) (hR : R 285 = hm_R) (v1 : Int32) (v2 : Int32) (g : hm) : fX12_takes 285 v1 v2 (gm g R) = hl_d R (nX12_takes v1 v2 g) := by
  unfold fX12_takes nX12_takes
  simp only [gm_I, gm_R, gm_w, gm_kd, gm_ln, not_false_eq_true, if_true, ite_true, gk_285, gk_286, gk_287, gk_288, gk_289, gk_290, gk_291, gk_292, gk_293, gk_294, gk_295, gk_296, gk_297, gk_298, gk_299, gk_300, gk_301, gk_302, gk_303, gk_304, gk_305, gk_306, gk_307, gk_308, gk_309, gk_310, gk_311, gk_312, gk_313, gk_314, gk_315, gk_316, gk_317, gk_318, gk_319, gn_286, gn_287, gn_288, gn_289, gn_290, gn_291, gn_292, gn_293, gn_294, gn_295, gn_296, gn_297, gn_298, gn_299, gn_300, gn_301, gn_302, gn_303, gn_304, gn_305, gn_306, gn_307, gn_308, gn_309, gn_310, gn_311, gn_312, gn_313, gn_314, gn_315, gn_316, gn_317, gn_318, gn_319, gr_1, gr_5, gr_6, gr_7, gr_8, gr_9, gr_10, gr_11, gr_12, gr_13, gr_14, gr_15, gr_16, gr_17, gr_18, gr_19, gr_20, gr_21, gr_23, gr_24, gr_25, gr_26, gr_27, gr_28, gr_29, gr_30, gr_32, gr_34, gr_35, gr_41, gr_42, gr_43, gr_44, gr_45, gz_1, gz_5, gz_6, gz_7, gz_8, gz_9, gz_10, gz_11, gz_12, gz_13, gz_14, gz_15, gz_16, gz_17, gz_18, gz_19, gz_20, gz_21, gz_23, gz_24, gz_25, gz_26, gz_27, gz_28, gz_29, gz_30, gz_32, gz_34, gz_35, gz_41, gz_42, gz_43, gz_44, gz_45, hl_v_none, hl_v_ite, hl_d_none, hl_d_ite, hl_3_none, hl_3_ite, hl_4_none, hl_4_ite, hl_5_none, hl_5_ite, hl_v_some, hl_d_some, hl_3_some, hl_4_some, hl_5_some, hl_v_bv, hl_d_bv, hl_3_bv, hl_4_bv, hl_5_bv, hl_bv, hl_v_bd, hl_d_bd, hl_3_bd, hl_4_bd, hl_5_bd, hl_bd, hl_v_b3, hl_d_b3, hl_3_b3, hl_4_b3, hl_5_b3, hl_b3, hl_v_b4, hl_d_b4, hl_3_b4, hl_4_b4, hl_5_b4, hl_b4, hl_v_b5, hl_d_b5, hl_3_b5, hl_4_b5, hl_5_b5, hl_b5, hs_bv_i, hm_bv_i, hR, tjX12_takes_130 R hR, tjX12_takes_74 R hR]
  all_goals rfl
def njX12_gives_58  (g : hm) : Option (Int32 × hm) :=
  some ((0 : Int32), g)
def nX12_gives (v0 : Int32) (g : hm) : Option (Int32 × hm) :=
  if v0 = (89 : Int32) then (
    some ((2 : Int32), g)
  ) else (
    if v0 = 0 then (
      njX12_gives_58 g
    ) else (
      if v0 = (54 : Int32) then (
        njX12_gives_58 g
      ) else (
        if v0 = (87 : Int32) then (
          njX12_gives_58 g
        ) else (
          if v0 = (172 : Int32) then (
            njX12_gives_58 g
          ) else (
            if v0 = (188 : Int32) then (
              njX12_gives_58 g
            ) else (
              if v0 = (79 : Int32) then (
                njX12_gives_58 g
              ) else (
                if v0 = (191 : Int32) then (
                  njX12_gives_58 g
                ) else (
                  hm_bd (nX12_isJump v0 g) fun r2 g1 =>
                  if r2 = 0 then (
                    some ((1 : Int32), g1)
                  ) else (
                    njX12_gives_58 g1
                  )
                )
              )
            )
          )
        )
      )
    )
  )
set_option maxHeartbeats 4000000 in
theorem tjX12_gives_58 (R : Nat → Nat → Nat) (hR : R 285 = hm_R)  (g : hm) : jX12_gives_58  (gm g R) = hl_d R (njX12_gives_58  g) := by
  unfold jX12_gives_58 njX12_gives_58
  simp only [gm_I, gm_R, gm_w, gm_kd, gm_ln, not_false_eq_true, if_true, ite_true, gk_285, gk_286, gk_287, gk_288, gk_289, gk_290, gk_291, gk_292, gk_293, gk_294, gk_295, gk_296, gk_297, gk_298, gk_299, gk_300, gk_301, gk_302, gk_303, gk_304, gk_305, gk_306, gk_307, gk_308, gk_309, gk_310, gk_311, gk_312, gk_313, gk_314, gk_315, gk_316, gk_317, gk_318, gk_319, gn_286, gn_287, gn_288, gn_289, gn_290, gn_291, gn_292, gn_293, gn_294, gn_295, gn_296, gn_297, gn_298, gn_299, gn_300, gn_301, gn_302, gn_303, gn_304, gn_305, gn_306, gn_307, gn_308, gn_309, gn_310, gn_311, gn_312, gn_313, gn_314, gn_315, gn_316, gn_317, gn_318, gn_319, gr_1, gr_5, gr_6, gr_7, gr_8, gr_9, gr_10, gr_11, gr_12, gr_13, gr_14, gr_15, gr_16, gr_17, gr_18, gr_19, gr_20, gr_21, gr_23, gr_24, gr_25, gr_26, gr_27, gr_28, gr_29, gr_30, gr_32, gr_34, gr_35, gr_41, gr_42, gr_43, gr_44, gr_45, gz_1, gz_5, gz_6, gz_7, gz_8, gz_9, gz_10, gz_11, gz_12, gz_13, gz_14, gz_15, gz_16, gz_17, gz_18, gz_19, gz_20, gz_21, gz_23, gz_24, gz_25, gz_26, gz_27, gz_28, gz_29, gz_30, gz_32, gz_34, gz_35, gz_41, gz_42, gz_43, gz_44, gz_45, hl_v_none, hl_v_ite, hl_d_none, hl_d_ite, hl_3_none, hl_3_ite, hl_4_none, hl_4_ite, hl_5_none, hl_5_ite, hl_v_some, hl_d_some, hl_3_some, hl_4_some, hl_5_some, hl_v_bv, hl_d_bv, hl_3_bv, hl_4_bv, hl_5_bv, hl_bv, hl_v_bd, hl_d_bd, hl_3_bd, hl_4_bd, hl_5_bd, hl_bd, hl_v_b3, hl_d_b3, hl_3_b3, hl_4_b3, hl_5_b3, hl_b3, hl_v_b4, hl_d_b4, hl_3_b4, hl_4_b4, hl_5_b4, hl_b4, hl_v_b5, hl_d_b5, hl_3_b5, hl_4_b5, hl_5_b5, hl_b5, hs_bv_i, hm_bv_i, hR, tX12_isJump R hR]
  all_goals rfl
set_option maxHeartbeats 4000000 in
theorem tX12_gives (R : Nat → Nat → Nat) (hR : R 285 = hm_R) (v0 : Int32) (g : hm) : fX12_gives v0 (gm g R) = hl_d R (nX12_gives v0 g) := by
  unfold fX12_gives nX12_gives
  simp only [gm_I, gm_R, gm_w, gm_kd, gm_ln, not_false_eq_true, if_true, ite_true, gk_285, gk_286, gk_287, gk_288, gk_289, gk_290, gk_291, gk_292, gk_293, gk_294, gk_295, gk_296, gk_297, gk_298, gk_299, gk_300, gk_301, gk_302, gk_303, gk_304, gk_305, gk_306, gk_307, gk_308, gk_309, gk_310, gk_311, gk_312, gk_313, gk_314, gk_315, gk_316, gk_317, gk_318, gk_319, gn_286, gn_287, gn_288, gn_289, gn_290, gn_291, gn_292, gn_293, gn_294, gn_295, gn_296, gn_297, gn_298, gn_299, gn_300, gn_301, gn_302, gn_303, gn_304, gn_305, gn_306, gn_307, gn_308, gn_309, gn_310, gn_311, gn_312, gn_313, gn_314, gn_315, gn_316, gn_317, gn_318, gn_319, gr_1, gr_5, gr_6, gr_7, gr_8, gr_9, gr_10, gr_11, gr_12, gr_13, gr_14, gr_15, gr_16, gr_17, gr_18, gr_19, gr_20, gr_21, gr_23, gr_24, gr_25, gr_26, gr_27, gr_28, gr_29, gr_30, gr_32, gr_34, gr_35, gr_41, gr_42, gr_43, gr_44, gr_45, gz_1, gz_5, gz_6, gz_7, gz_8, gz_9, gz_10, gz_11, gz_12, gz_13, gz_14, gz_15, gz_16, gz_17, gz_18, gz_19, gz_20, gz_21, gz_23, gz_24, gz_25, gz_26, gz_27, gz_28, gz_29, gz_30, gz_32, gz_34, gz_35, gz_41, gz_42, gz_43, gz_44, gz_45, hl_v_none, hl_v_ite, hl_d_none, hl_d_ite, hl_3_none, hl_3_ite, hl_4_none, hl_4_ite, hl_5_none, hl_5_ite, hl_v_some, hl_d_some, hl_3_some, hl_4_some, hl_5_some, hl_v_bv, hl_d_bv, hl_3_bv, hl_4_bv, hl_5_bv, hl_bv, hl_v_bd, hl_d_bd, hl_3_bd, hl_4_bd, hl_5_bd, hl_bd, hl_v_b3, hl_d_b3, hl_3_b3, hl_4_b3, hl_5_b3, hl_b3, hl_v_b4, hl_d_b4, hl_3_b4, hl_4_b4, hl_5_b4, hl_b4, hl_v_b5, hl_d_b5, hl_3_b5, hl_4_b5, hl_5_b5, hl_b5, hs_bv_i, hm_bv_i, hR, tX12_isJump R hR, tjX12_gives_58 R hR]
  all_goals rfl
def njX12_comes_32 (v3 : Int32) (v4 : Int32) (g : hm) : Option (Int32 × hm) :=
  if hs_in v4 16008 = true then
  some ((1 : Int32), (hm_w g 295 v4.toNatClampNeg v3))
  else none
def nX12_comes (v1 : Int32) (v2 : Int32) (v3 : Int32) (g : hm) : Option (Int32 × hm) :=
  if hs_in (((2001 : Int32) * v1) + v2) 16008 = true then
  if (g 295 (((2001 : Int32) * v1) + v2).toNatClampNeg) < 0 then (
    njX12_comes_32 v3 (((2001 : Int32) * v1) + v2) g
  ) else (
    if (g 295 (((2001 : Int32) * v1) + v2).toNatClampNeg) = v3 then (
      njX12_comes_32 v3 (((2001 : Int32) * v1) + v2) g
    ) else (
      some ((0 : Int32), g)
    )
  )
  else none
set_option maxHeartbeats 4000000 in
theorem tjX12_comes_32 (R : Nat → Nat → Nat) (hR : R 285 = hm_R) (v3 : Int32) (v4 : Int32) (g : hm) : jX12_comes_32 285 v3 v4 (gm g R) = hl_d R (njX12_comes_32 v3 v4 g) := by
  unfold jX12_comes_32 njX12_comes_32
  simp only [gm_I, gm_R, gm_w, gm_kd, gm_ln, not_false_eq_true, if_true, ite_true, gk_285, gk_286, gk_287, gk_288, gk_289, gk_290, gk_291, gk_292, gk_293, gk_294, gk_295, gk_296, gk_297, gk_298, gk_299, gk_300, gk_301, gk_302, gk_303, gk_304, gk_305, gk_306, gk_307, gk_308, gk_309, gk_310, gk_311, gk_312, gk_313, gk_314, gk_315, gk_316, gk_317, gk_318, gk_319, gn_286, gn_287, gn_288, gn_289, gn_290, gn_291, gn_292, gn_293, gn_294, gn_295, gn_296, gn_297, gn_298, gn_299, gn_300, gn_301, gn_302, gn_303, gn_304, gn_305, gn_306, gn_307, gn_308, gn_309, gn_310, gn_311, gn_312, gn_313, gn_314, gn_315, gn_316, gn_317, gn_318, gn_319, gr_1, gr_5, gr_6, gr_7, gr_8, gr_9, gr_10, gr_11, gr_12, gr_13, gr_14, gr_15, gr_16, gr_17, gr_18, gr_19, gr_20, gr_21, gr_23, gr_24, gr_25, gr_26, gr_27, gr_28, gr_29, gr_30, gr_32, gr_34, gr_35, gr_41, gr_42, gr_43, gr_44, gr_45, gz_1, gz_5, gz_6, gz_7, gz_8, gz_9, gz_10, gz_11, gz_12, gz_13, gz_14, gz_15, gz_16, gz_17, gz_18, gz_19, gz_20, gz_21, gz_23, gz_24, gz_25, gz_26, gz_27, gz_28, gz_29, gz_30, gz_32, gz_34, gz_35, gz_41, gz_42, gz_43, gz_44, gz_45, hl_v_none, hl_v_ite, hl_d_none, hl_d_ite, hl_3_none, hl_3_ite, hl_4_none, hl_4_ite, hl_5_none, hl_5_ite, hl_v_some, hl_d_some, hl_3_some, hl_4_some, hl_5_some, hl_v_bv, hl_d_bv, hl_3_bv, hl_4_bv, hl_5_bv, hl_bv, hl_v_bd, hl_d_bd, hl_3_bd, hl_4_bd, hl_5_bd, hl_bd, hl_v_b3, hl_d_b3, hl_3_b3, hl_4_b3, hl_5_b3, hl_b3, hl_v_b4, hl_d_b4, hl_3_b4, hl_4_b4, hl_5_b4, hl_b4, hl_v_b5, hl_d_b5, hl_3_b5, hl_4_b5, hl_5_b5, hl_b5, hs_bv_i, hm_bv_i, hR]
  all_goals rfl
set_option maxHeartbeats 4000000 in
theorem tX12_comes (R : Nat → Nat → Nat) (hR : R 285 = hm_R) (v1 : Int32) (v2 : Int32) (v3 : Int32) (g : hm) : fX12_comes 285 v1 v2 v3 (gm g R) = hl_d R (nX12_comes v1 v2 v3 g) := by
  unfold fX12_comes nX12_comes
  simp only [gm_I, gm_R, gm_w, gm_kd, gm_ln, not_false_eq_true, if_true, ite_true, gk_285, gk_286, gk_287, gk_288, gk_289, gk_290, gk_291, gk_292, gk_293, gk_294, gk_295, gk_296, gk_297, gk_298, gk_299, gk_300, gk_301, gk_302, gk_303, gk_304, gk_305, gk_306, gk_307, gk_308, gk_309, gk_310, gk_311, gk_312, gk_313, gk_314, gk_315, gk_316, gk_317, gk_318, gk_319, gn_286, gn_287, gn_288, gn_289, gn_290, gn_291, gn_292, gn_293, gn_294, gn_295, gn_296, gn_297, gn_298, gn_299, gn_300, gn_301, gn_302, gn_303, gn_304, gn_305, gn_306, gn_307, gn_308, gn_309, gn_310, gn_311, gn_312, gn_313, gn_314, gn_315, gn_316, gn_317, gn_318, gn_319, gr_1, gr_5, gr_6, gr_7, gr_8, gr_9, gr_10, gr_11, gr_12, gr_13, gr_14, gr_15, gr_16, gr_17, gr_18, gr_19, gr_20, gr_21, gr_23, gr_24, gr_25, gr_26, gr_27, gr_28, gr_29, gr_30, gr_32, gr_34, gr_35, gr_41, gr_42, gr_43, gr_44, gr_45, gz_1, gz_5, gz_6, gz_7, gz_8, gz_9, gz_10, gz_11, gz_12, gz_13, gz_14, gz_15, gz_16, gz_17, gz_18, gz_19, gz_20, gz_21, gz_23, gz_24, gz_25, gz_26, gz_27, gz_28, gz_29, gz_30, gz_32, gz_34, gz_35, gz_41, gz_42, gz_43, gz_44, gz_45, hl_v_none, hl_v_ite, hl_d_none, hl_d_ite, hl_3_none, hl_3_ite, hl_4_none, hl_4_ite, hl_5_none, hl_5_ite, hl_v_some, hl_d_some, hl_3_some, hl_4_some, hl_5_some, hl_v_bv, hl_d_bv, hl_3_bv, hl_4_bv, hl_5_bv, hl_bv, hl_v_bd, hl_d_bd, hl_3_bd, hl_4_bd, hl_5_bd, hl_bd, hl_v_b3, hl_d_b3, hl_3_b3, hl_4_b3, hl_5_b3, hl_b3, hl_v_b4, hl_d_b4, hl_3_b4, hl_4_b4, hl_5_b4, hl_b4, hl_v_b5, hl_d_b5, hl_3_b5, hl_4_b5, hl_5_b5, hl_b5, hs_bv_i, hm_bv_i, hR, tjX12_comes_32 R hR]
  all_goals rfl
def njX12_goesOn_125 (v1 : Int32) (v2 : Int32) (g : hm) : Option (Int32 × hm) :=
  if hs_in v1 8 = true then
  hm_bd (nX12_wrong ((g 300 v1.toNatClampNeg) + v2) g) fun r8 g7 =>
  some (r8, g7)
  else none
def njX12_goesOn_169 (v1 : Int32) (v2 : Int32) (v3 : Int32) (v4 : Int32) (v6 : Int32) (g : hm) : Option (Int32 × hm) :=
  hm_bd (nX12_isJump v4 g) fun r10 g9 =>
  if r10 = 0 then (
    some ((0 : Int32), g9)
  ) else (
    if hs_in (v3 + (1 : Int32)) 16008 = true then
    if hs_in (v3 + (2 : Int32)) 16008 = true then
    hm_bd (nX12_target v4 v2 (g9 303 (v3 + (1 : Int32)).toNatClampNeg) (g9 303 (v3 + (2 : Int32)).toNatClampNeg) g9) fun r12 g11 =>
    hm_bd (nX12_comes v1 r12 v6 g11) fun r14 g13 =>
    if r14 = 0 then (
      if hs_in v1 8 = true then
      hm_bd (nX12_wrong ((g13 300 v1.toNatClampNeg) + r12) g13) fun r16 g15 =>
      some (r16, g15)
      else none
    ) else (
      some ((0 : Int32), g13)
    )
    else none else none
  )
def njX12_goesOn_138 (v1 : Int32) (v2 : Int32) (v3 : Int32) (v4 : Int32) (v6 : Int32) (v7 : Int32) (v8 : Int32) (g : hm) : Option (Int32 × hm) :=
  if v8 = 0 then (
    njX12_goesOn_169 v1 v2 v3 v4 v6 g
  ) else (
    hm_bd (nX12_comes v1 v7 v6 g) fun r18 g17 =>
    if r18 = 0 then (
      if hs_in v1 8 = true then
      hm_bd (nX12_wrong ((g17 300 v1.toNatClampNeg) + v7) g17) fun r20 g19 =>
      some (r20, g19)
      else none
    ) else (
      njX12_goesOn_169 v1 v2 v3 v4 v6 g17
    )
  )
def njX12_goesOn_95 (v1 : Int32) (v2 : Int32) (v3 : Int32) (v4 : Int32) (v5 : Int32) (v6 : Int32) (v7 : Int32) (s0 : Int32) (g : hm) : Option (Int32 × hm) :=
  if v5 < 0 then (
    njX12_goesOn_125 v1 v2 g
  ) else (
    if (20 : Int32) < v6 then (
      njX12_goesOn_125 v1 v2 g
    ) else (
      if s0 = 0 then (
        njX12_goesOn_138 v1 v2 v3 v4 v6 v7 s0 g
      ) else (
        if hs_in v1 8 = true then
        if v7 = (g 299 v1.toNatClampNeg) then (
          njX12_goesOn_125 v1 v2 g
        ) else (
          njX12_goesOn_138 v1 v2 v3 v4 v6 v7 s0 g
        )
        else none
      )
    )
  )
def njX12_goesOn_94 (v1 : Int32) (v2 : Int32) (v3 : Int32) (v4 : Int32) (v5 : Int32) (v6 : Int32) (v7 : Int32) (g : hm) : Option (Int32 × hm) :=
  njX12_goesOn_95 v1 v2 v3 v4 v5 v6 v7 (0 : Int32) g
def nX12_goesOn (v1 : Int32) (v2 : Int32) (g : hm) : Option (Int32 × hm) :=
  if hs_in (((2001 : Int32) * v1) + v2) 16008 = true then
  if hs_in (((2001 : Int32) * v1) + v2) 16008 = true then
  if hs_in ((((2001 : Int32) * v1) + v2) + (1 : Int32)) 16008 = true then
  hm_bd (nX12_takes (g 303 (((2001 : Int32) * v1) + v2).toNatClampNeg) (g 303 ((((2001 : Int32) * v1) + v2) + (1 : Int32)).toNatClampNeg) g) fun r2 g1 =>
  hm_bd (nX12_gives (g 303 (((2001 : Int32) * v1) + v2).toNatClampNeg) g1) fun r4 g3 =>
  hm_bd (nX12_size (g 303 (((2001 : Int32) * v1) + v2).toNatClampNeg) g3) fun r6 g5 =>
  if (g 303 (((2001 : Int32) * v1) + v2).toNatClampNeg) = (172 : Int32) then (
    njX12_goesOn_94 v1 v2 (((2001 : Int32) * v1) + v2) (g 303 (((2001 : Int32) * v1) + v2).toNatClampNeg) ((g 295 (((2001 : Int32) * v1) + v2).toNatClampNeg) - r2) (((g 295 (((2001 : Int32) * v1) + v2).toNatClampNeg) - r2) + r4) (v2 + r6) g5
  ) else (
    if (g 303 (((2001 : Int32) * v1) + v2).toNatClampNeg) = (191 : Int32) then (
      njX12_goesOn_94 v1 v2 (((2001 : Int32) * v1) + v2) (g 303 (((2001 : Int32) * v1) + v2).toNatClampNeg) ((g 295 (((2001 : Int32) * v1) + v2).toNatClampNeg) - r2) (((g 295 (((2001 : Int32) * v1) + v2).toNatClampNeg) - r2) + r4) (v2 + r6) g5
    ) else (
      if (g 303 (((2001 : Int32) * v1) + v2).toNatClampNeg) = (167 : Int32) then (
        njX12_goesOn_94 v1 v2 (((2001 : Int32) * v1) + v2) (g 303 (((2001 : Int32) * v1) + v2).toNatClampNeg) ((g 295 (((2001 : Int32) * v1) + v2).toNatClampNeg) - r2) (((g 295 (((2001 : Int32) * v1) + v2).toNatClampNeg) - r2) + r4) (v2 + r6) g5
      ) else (
        if (g 303 (((2001 : Int32) * v1) + v2).toNatClampNeg) = (168 : Int32) then (
          njX12_goesOn_94 v1 v2 (((2001 : Int32) * v1) + v2) (g 303 (((2001 : Int32) * v1) + v2).toNatClampNeg) ((g 295 (((2001 : Int32) * v1) + v2).toNatClampNeg) - r2) (((g 295 (((2001 : Int32) * v1) + v2).toNatClampNeg) - r2) + r4) (v2 + r6) g5
        ) else (
          njX12_goesOn_95 v1 v2 (((2001 : Int32) * v1) + v2) (g 303 (((2001 : Int32) * v1) + v2).toNatClampNeg) ((g 295 (((2001 : Int32) * v1) + v2).toNatClampNeg) - r2) (((g 295 (((2001 : Int32) * v1) + v2).toNatClampNeg) - r2) + r4) (v2 + r6) (1 : Int32) g5
        )
      )
    )
  )
  else none else none else none
set_option maxHeartbeats 4000000 in
theorem tjX12_goesOn_125 (R : Nat → Nat → Nat) (hR : R 285 = hm_R) (v1 : Int32) (v2 : Int32) (g : hm) : jX12_goesOn_125 285 v1 v2 (gm g R) = hl_d R (njX12_goesOn_125 v1 v2 g) := by
  unfold jX12_goesOn_125 njX12_goesOn_125
  simp only [gm_I, gm_R, gm_w, gm_kd, gm_ln, not_false_eq_true, if_true, ite_true, gk_285, gk_286, gk_287, gk_288, gk_289, gk_290, gk_291, gk_292, gk_293, gk_294, gk_295, gk_296, gk_297, gk_298, gk_299, gk_300, gk_301, gk_302, gk_303, gk_304, gk_305, gk_306, gk_307, gk_308, gk_309, gk_310, gk_311, gk_312, gk_313, gk_314, gk_315, gk_316, gk_317, gk_318, gk_319, gn_286, gn_287, gn_288, gn_289, gn_290, gn_291, gn_292, gn_293, gn_294, gn_295, gn_296, gn_297, gn_298, gn_299, gn_300, gn_301, gn_302, gn_303, gn_304, gn_305, gn_306, gn_307, gn_308, gn_309, gn_310, gn_311, gn_312, gn_313, gn_314, gn_315, gn_316, gn_317, gn_318, gn_319, gr_1, gr_5, gr_6, gr_7, gr_8, gr_9, gr_10, gr_11, gr_12, gr_13, gr_14, gr_15, gr_16, gr_17, gr_18, gr_19, gr_20, gr_21, gr_23, gr_24, gr_25, gr_26, gr_27, gr_28, gr_29, gr_30, gr_32, gr_34, gr_35, gr_41, gr_42, gr_43, gr_44, gr_45, gz_1, gz_5, gz_6, gz_7, gz_8, gz_9, gz_10, gz_11, gz_12, gz_13, gz_14, gz_15, gz_16, gz_17, gz_18, gz_19, gz_20, gz_21, gz_23, gz_24, gz_25, gz_26, gz_27, gz_28, gz_29, gz_30, gz_32, gz_34, gz_35, gz_41, gz_42, gz_43, gz_44, gz_45, hl_v_none, hl_v_ite, hl_d_none, hl_d_ite, hl_3_none, hl_3_ite, hl_4_none, hl_4_ite, hl_5_none, hl_5_ite, hl_v_some, hl_d_some, hl_3_some, hl_4_some, hl_5_some, hl_v_bv, hl_d_bv, hl_3_bv, hl_4_bv, hl_5_bv, hl_bv, hl_v_bd, hl_d_bd, hl_3_bd, hl_4_bd, hl_5_bd, hl_bd, hl_v_b3, hl_d_b3, hl_3_b3, hl_4_b3, hl_5_b3, hl_b3, hl_v_b4, hl_d_b4, hl_3_b4, hl_4_b4, hl_5_b4, hl_b4, hl_v_b5, hl_d_b5, hl_3_b5, hl_4_b5, hl_5_b5, hl_b5, hs_bv_i, hm_bv_i, hR, tX12_comes R hR, tX12_gives R hR, tX12_isJump R hR, tX12_size R hR, tX12_takes R hR, tX12_target R hR, tX12_wrong R hR]
  all_goals rfl
set_option maxHeartbeats 4000000 in
theorem tjX12_goesOn_169 (R : Nat → Nat → Nat) (hR : R 285 = hm_R) (v1 : Int32) (v2 : Int32) (v3 : Int32) (v4 : Int32) (v6 : Int32) (g : hm) : jX12_goesOn_169 285 v1 v2 v3 v4 v6 (gm g R) = hl_d R (njX12_goesOn_169 v1 v2 v3 v4 v6 g) := by
  unfold jX12_goesOn_169 njX12_goesOn_169
  simp only [gm_I, gm_R, gm_w, gm_kd, gm_ln, not_false_eq_true, if_true, ite_true, gk_285, gk_286, gk_287, gk_288, gk_289, gk_290, gk_291, gk_292, gk_293, gk_294, gk_295, gk_296, gk_297, gk_298, gk_299, gk_300, gk_301, gk_302, gk_303, gk_304, gk_305, gk_306, gk_307, gk_308, gk_309, gk_310, gk_311, gk_312, gk_313, gk_314, gk_315, gk_316, gk_317, gk_318, gk_319, gn_286, gn_287, gn_288, gn_289, gn_290, gn_291, gn_292, gn_293, gn_294, gn_295, gn_296, gn_297, gn_298, gn_299, gn_300, gn_301, gn_302, gn_303, gn_304, gn_305, gn_306, gn_307, gn_308, gn_309, gn_310, gn_311, gn_312, gn_313, gn_314, gn_315, gn_316, gn_317, gn_318, gn_319, gr_1, gr_5, gr_6, gr_7, gr_8, gr_9, gr_10, gr_11, gr_12, gr_13, gr_14, gr_15, gr_16, gr_17, gr_18, gr_19, gr_20, gr_21, gr_23, gr_24, gr_25, gr_26, gr_27, gr_28, gr_29, gr_30, gr_32, gr_34, gr_35, gr_41, gr_42, gr_43, gr_44, gr_45, gz_1, gz_5, gz_6, gz_7, gz_8, gz_9, gz_10, gz_11, gz_12, gz_13, gz_14, gz_15, gz_16, gz_17, gz_18, gz_19, gz_20, gz_21, gz_23, gz_24, gz_25, gz_26, gz_27, gz_28, gz_29, gz_30, gz_32, gz_34, gz_35, gz_41, gz_42, gz_43, gz_44, gz_45, hl_v_none, hl_v_ite, hl_d_none, hl_d_ite, hl_3_none, hl_3_ite, hl_4_none, hl_4_ite, hl_5_none, hl_5_ite, hl_v_some, hl_d_some, hl_3_some, hl_4_some, hl_5_some, hl_v_bv, hl_d_bv, hl_3_bv, hl_4_bv, hl_5_bv, hl_bv, hl_v_bd, hl_d_bd, hl_3_bd, hl_4_bd, hl_5_bd, hl_bd, hl_v_b3, hl_d_b3, hl_3_b3, hl_4_b3, hl_5_b3, hl_b3, hl_v_b4, hl_d_b4, hl_3_b4, hl_4_b4, hl_5_b4, hl_b4, hl_v_b5, hl_d_b5, hl_3_b5, hl_4_b5, hl_5_b5, hl_b5, hs_bv_i, hm_bv_i, hR, tX12_comes R hR, tX12_gives R hR, tX12_isJump R hR, tX12_size R hR, tX12_takes R hR, tX12_target R hR, tX12_wrong R hR, tjX12_goesOn_125 R hR]
  all_goals rfl
set_option maxHeartbeats 4000000 in
theorem tjX12_goesOn_138 (R : Nat → Nat → Nat) (hR : R 285 = hm_R) (v1 : Int32) (v2 : Int32) (v3 : Int32) (v4 : Int32) (v6 : Int32) (v7 : Int32) (v8 : Int32) (g : hm) : jX12_goesOn_138 285 v1 v2 v3 v4 v6 v7 v8 (gm g R) = hl_d R (njX12_goesOn_138 v1 v2 v3 v4 v6 v7 v8 g) := by
  unfold jX12_goesOn_138 njX12_goesOn_138
  simp only [gm_I, gm_R, gm_w, gm_kd, gm_ln, not_false_eq_true, if_true, ite_true, gk_285, gk_286, gk_287, gk_288, gk_289, gk_290, gk_291, gk_292, gk_293, gk_294, gk_295, gk_296, gk_297, gk_298, gk_299, gk_300, gk_301, gk_302, gk_303, gk_304, gk_305, gk_306, gk_307, gk_308, gk_309, gk_310, gk_311, gk_312, gk_313, gk_314, gk_315, gk_316, gk_317, gk_318, gk_319, gn_286, gn_287, gn_288, gn_289, gn_290, gn_291, gn_292, gn_293, gn_294, gn_295, gn_296, gn_297, gn_298, gn_299, gn_300, gn_301, gn_302, gn_303, gn_304, gn_305, gn_306, gn_307, gn_308, gn_309, gn_310, gn_311, gn_312, gn_313, gn_314, gn_315, gn_316, gn_317, gn_318, gn_319, gr_1, gr_5, gr_6, gr_7, gr_8, gr_9, gr_10, gr_11, gr_12, gr_13, gr_14, gr_15, gr_16, gr_17, gr_18, gr_19, gr_20, gr_21, gr_23, gr_24, gr_25, gr_26, gr_27, gr_28, gr_29, gr_30, gr_32, gr_34, gr_35, gr_41, gr_42, gr_43, gr_44, gr_45, gz_1, gz_5, gz_6, gz_7, gz_8, gz_9, gz_10, gz_11, gz_12, gz_13, gz_14, gz_15, gz_16, gz_17, gz_18, gz_19, gz_20, gz_21, gz_23, gz_24, gz_25, gz_26, gz_27, gz_28, gz_29, gz_30, gz_32, gz_34, gz_35, gz_41, gz_42, gz_43, gz_44, gz_45, hl_v_none, hl_v_ite, hl_d_none, hl_d_ite, hl_3_none, hl_3_ite, hl_4_none, hl_4_ite, hl_5_none, hl_5_ite, hl_v_some, hl_d_some, hl_3_some, hl_4_some, hl_5_some, hl_v_bv, hl_d_bv, hl_3_bv, hl_4_bv, hl_5_bv, hl_bv, hl_v_bd, hl_d_bd, hl_3_bd, hl_4_bd, hl_5_bd, hl_bd, hl_v_b3, hl_d_b3, hl_3_b3, hl_4_b3, hl_5_b3, hl_b3, hl_v_b4, hl_d_b4, hl_3_b4, hl_4_b4, hl_5_b4, hl_b4, hl_v_b5, hl_d_b5, hl_3_b5, hl_4_b5, hl_5_b5, hl_b5, hs_bv_i, hm_bv_i, hR, tX12_comes R hR, tX12_gives R hR, tX12_isJump R hR, tX12_size R hR, tX12_takes R hR, tX12_target R hR, tX12_wrong R hR, tjX12_goesOn_125 R hR, tjX12_goesOn_169 R hR]
  all_goals rfl
set_option maxHeartbeats 4000000 in
theorem tjX12_goesOn_95 (R : Nat → Nat → Nat) (hR : R 285 = hm_R) (v1 : Int32) (v2 : Int32) (v3 : Int32) (v4 : Int32) (v5 : Int32) (v6 : Int32) (v7 : Int32) (s0 : Int32) (g : hm) : jX12_goesOn_95 285 v1 v2 v3 v4 v5 v6 v7 s0 (gm g R) = hl_d R (njX12_goesOn_95 v1 v2 v3 v4 v5 v6 v7 s0 g) := by
  unfold jX12_goesOn_95 njX12_goesOn_95
  simp only [gm_I, gm_R, gm_w, gm_kd, gm_ln, not_false_eq_true, if_true, ite_true, gk_285, gk_286, gk_287, gk_288, gk_289, gk_290, gk_291, gk_292, gk_293, gk_294, gk_295, gk_296, gk_297, gk_298, gk_299, gk_300, gk_301, gk_302, gk_303, gk_304, gk_305, gk_306, gk_307, gk_308, gk_309, gk_310, gk_311, gk_312, gk_313, gk_314, gk_315, gk_316, gk_317, gk_318, gk_319, gn_286, gn_287, gn_288, gn_289, gn_290, gn_291, gn_292, gn_293, gn_294, gn_295, gn_296, gn_297, gn_298, gn_299, gn_300, gn_301, gn_302, gn_303, gn_304, gn_305, gn_306, gn_307, gn_308, gn_309, gn_310, gn_311, gn_312, gn_313, gn_314, gn_315, gn_316, gn_317, gn_318, gn_319, gr_1, gr_5, gr_6, gr_7, gr_8, gr_9, gr_10, gr_11, gr_12, gr_13, gr_14, gr_15, gr_16, gr_17, gr_18, gr_19, gr_20, gr_21, gr_23, gr_24, gr_25, gr_26, gr_27, gr_28, gr_29, gr_30, gr_32, gr_34, gr_35, gr_41, gr_42, gr_43, gr_44, gr_45, gz_1, gz_5, gz_6, gz_7, gz_8, gz_9, gz_10, gz_11, gz_12, gz_13, gz_14, gz_15, gz_16, gz_17, gz_18, gz_19, gz_20, gz_21, gz_23, gz_24, gz_25, gz_26, gz_27, gz_28, gz_29, gz_30, gz_32, gz_34, gz_35, gz_41, gz_42, gz_43, gz_44, gz_45, hl_v_none, hl_v_ite, hl_d_none, hl_d_ite, hl_3_none, hl_3_ite, hl_4_none, hl_4_ite, hl_5_none, hl_5_ite, hl_v_some, hl_d_some, hl_3_some, hl_4_some, hl_5_some, hl_v_bv, hl_d_bv, hl_3_bv, hl_4_bv, hl_5_bv, hl_bv, hl_v_bd, hl_d_bd, hl_3_bd, hl_4_bd, hl_5_bd, hl_bd, hl_v_b3, hl_d_b3, hl_3_b3, hl_4_b3, hl_5_b3, hl_b3, hl_v_b4, hl_d_b4, hl_3_b4, hl_4_b4, hl_5_b4, hl_b4, hl_v_b5, hl_d_b5, hl_3_b5, hl_4_b5, hl_5_b5, hl_b5, hs_bv_i, hm_bv_i, hR, tX12_comes R hR, tX12_gives R hR, tX12_isJump R hR, tX12_size R hR, tX12_takes R hR, tX12_target R hR, tX12_wrong R hR, tjX12_goesOn_125 R hR, tjX12_goesOn_169 R hR, tjX12_goesOn_138 R hR]
  all_goals rfl
set_option maxHeartbeats 4000000 in
theorem tjX12_goesOn_94 (R : Nat → Nat → Nat) (hR : R 285 = hm_R) (v1 : Int32) (v2 : Int32) (v3 : Int32) (v4 : Int32) (v5 : Int32) (v6 : Int32) (v7 : Int32) (g : hm) : jX12_goesOn_94 285 v1 v2 v3 v4 v5 v6 v7 (gm g R) = hl_d R (njX12_goesOn_94 v1 v2 v3 v4 v5 v6 v7 g) := by
  unfold jX12_goesOn_94 njX12_goesOn_94
  simp only [gm_I, gm_R, gm_w, gm_kd, gm_ln, not_false_eq_true, if_true, ite_true, gk_285, gk_286, gk_287, gk_288, gk_289, gk_290, gk_291, gk_292, gk_293, gk_294, gk_295, gk_296, gk_297, gk_298, gk_299, gk_300, gk_301, gk_302, gk_303, gk_304, gk_305, gk_306, gk_307, gk_308, gk_309, gk_310, gk_311, gk_312, gk_313, gk_314, gk_315, gk_316, gk_317, gk_318, gk_319, gn_286, gn_287, gn_288, gn_289, gn_290, gn_291, gn_292, gn_293, gn_294, gn_295, gn_296, gn_297, gn_298, gn_299, gn_300, gn_301, gn_302, gn_303, gn_304, gn_305, gn_306, gn_307, gn_308, gn_309, gn_310, gn_311, gn_312, gn_313, gn_314, gn_315, gn_316, gn_317, gn_318, gn_319, gr_1, gr_5, gr_6, gr_7, gr_8, gr_9, gr_10, gr_11, gr_12, gr_13, gr_14, gr_15, gr_16, gr_17, gr_18, gr_19, gr_20, gr_21, gr_23, gr_24, gr_25, gr_26, gr_27, gr_28, gr_29, gr_30, gr_32, gr_34, gr_35, gr_41, gr_42, gr_43, gr_44, gr_45, gz_1, gz_5, gz_6, gz_7, gz_8, gz_9, gz_10, gz_11, gz_12, gz_13, gz_14, gz_15, gz_16, gz_17, gz_18, gz_19, gz_20, gz_21, gz_23, gz_24, gz_25, gz_26, gz_27, gz_28, gz_29, gz_30, gz_32, gz_34, gz_35, gz_41, gz_42, gz_43, gz_44, gz_45, hl_v_none, hl_v_ite, hl_d_none, hl_d_ite, hl_3_none, hl_3_ite, hl_4_none, hl_4_ite, hl_5_none, hl_5_ite, hl_v_some, hl_d_some, hl_3_some, hl_4_some, hl_5_some, hl_v_bv, hl_d_bv, hl_3_bv, hl_4_bv, hl_5_bv, hl_bv, hl_v_bd, hl_d_bd, hl_3_bd, hl_4_bd, hl_5_bd, hl_bd, hl_v_b3, hl_d_b3, hl_3_b3, hl_4_b3, hl_5_b3, hl_b3, hl_v_b4, hl_d_b4, hl_3_b4, hl_4_b4, hl_5_b4, hl_b4, hl_v_b5, hl_d_b5, hl_3_b5, hl_4_b5, hl_5_b5, hl_b5, hs_bv_i, hm_bv_i, hR, tX12_comes R hR, tX12_gives R hR, tX12_isJump R hR, tX12_size R hR, tX12_takes R hR, tX12_target R hR, tX12_wrong R hR, tjX12_goesOn_125 R hR, tjX12_goesOn_169 R hR, tjX12_goesOn_138 R hR, tjX12_goesOn_95 R hR]
  all_goals rfl
set_option maxHeartbeats 4000000 in
theorem tX12_goesOn (R : Nat → Nat → Nat) (hR : R 285 = hm_R) (v1 : Int32) (v2 : Int32) (g : hm) : fX12_goesOn 285 v1 v2 (gm g R) = hl_d R (nX12_goesOn v1 v2 g) := by
  unfold fX12_goesOn nX12_goesOn
  simp only [gm_I, gm_R, gm_w, gm_kd, gm_ln, not_false_eq_true, if_true, ite_true, gk_285, gk_286, gk_287, gk_288, gk_289, gk_290, gk_291, gk_292, gk_293, gk_294, gk_295, gk_296, gk_297, gk_298, gk_299, gk_300, gk_301, gk_302, gk_303, gk_304, gk_305, gk_306, gk_307, gk_308, gk_309, gk_310, gk_311, gk_312, gk_313, gk_314, gk_315, gk_316, gk_317, gk_318, gk_319, gn_286, gn_287, gn_288, gn_289, gn_290, gn_291, gn_292, gn_293, gn_294, gn_295, gn_296, gn_297, gn_298, gn_299, gn_300, gn_301, gn_302, gn_303, gn_304, gn_305, gn_306, gn_307, gn_308, gn_309, gn_310, gn_311, gn_312, gn_313, gn_314, gn_315, gn_316, gn_317, gn_318, gn_319, gr_1, gr_5, gr_6, gr_7, gr_8, gr_9, gr_10, gr_11, gr_12, gr_13, gr_14, gr_15, gr_16, gr_17, gr_18, gr_19, gr_20, gr_21, gr_23, gr_24, gr_25, gr_26, gr_27, gr_28, gr_29, gr_30, gr_32, gr_34, gr_35, gr_41, gr_42, gr_43, gr_44, gr_45, gz_1, gz_5, gz_6, gz_7, gz_8, gz_9, gz_10, gz_11, gz_12, gz_13, gz_14, gz_15, gz_16, gz_17, gz_18, gz_19, gz_20, gz_21, gz_23, gz_24, gz_25, gz_26, gz_27, gz_28, gz_29, gz_30, gz_32, gz_34, gz_35, gz_41, gz_42, gz_43, gz_44, gz_45, hl_v_none, hl_v_ite, hl_d_none, hl_d_ite, hl_3_none, hl_3_ite, hl_4_none, hl_4_ite, hl_5_none, hl_5_ite, hl_v_some, hl_d_some, hl_3_some, hl_4_some, hl_5_some, hl_v_bv, hl_d_bv, hl_3_bv, hl_4_bv, hl_5_bv, hl_bv, hl_v_bd, hl_d_bd, hl_3_bd, hl_4_bd, hl_5_bd, hl_bd, hl_v_b3, hl_d_b3, hl_3_b3, hl_4_b3, hl_5_b3, hl_b3, hl_v_b4, hl_d_b4, hl_3_b4, hl_4_b4, hl_5_b4, hl_b4, hl_v_b5, hl_d_b5, hl_3_b5, hl_4_b5, hl_5_b5, hl_b5, hs_bv_i, hm_bv_i, hR, tX12_comes R hR, tX12_gives R hR, tX12_isJump R hR, tX12_size R hR, tX12_takes R hR, tX12_target R hR, tX12_wrong R hR, tjX12_goesOn_125 R hR, tjX12_goesOn_169 R hR, tjX12_goesOn_138 R hR, tjX12_goesOn_95 R hR, tjX12_goesOn_94 R hR]
  all_goals rfl
def nlX12_stacks_16 : Nat → Int32 → Int32 → Int32 → Int32 → hm → Option (hm)
  | 0, _, _, _, _, _ => none
  | n + 1, v1, v2, v3, v4, g =>
    if v2 ≤ v4 then (
      some g
    ) else (
      if hs_in (v3 + v4) 16008 = true then
      if hs_in (v3 + v4) 16008 = true then
      hm_bv (some (hm_w (hm_w g 295 (v3 + v4).toNatClampNeg (-1 : Int32)) 296 (v3 + v4).toNatClampNeg (0 : Int32))) fun g1 =>
      nlX12_stacks_16 n v1 v2 v3 (v4 + (1 : Int32)) g1
      else none else none
    )
theorem nlX12_stacks_16_s (n : Nat) (v1 : Int32) (v2 : Int32) (v3 : Int32) (v4 : Int32) (g : hm) : nlX12_stacks_16 (n + 1) v1 v2 v3 v4 g =
    if v2 ≤ v4 then (
      some g
    ) else (
      if hs_in (v3 + v4) 16008 = true then
      if hs_in (v3 + v4) 16008 = true then
      hm_bv (some (hm_w (hm_w g 295 (v3 + v4).toNatClampNeg (-1 : Int32)) 296 (v3 + v4).toNatClampNeg (0 : Int32))) fun g1 =>
      nlX12_stacks_16 n v1 v2 v3 (v4 + (1 : Int32)) g1
      else none else none
    ) := rfl
def nlX12_stacks_58 : Nat → Int32 → Int32 → Int32 → Int32 → hm → Option (Nat × hm)
  | 0, _, _, _, _, _ => none
  | n + 1, v1, v2, v3, v4, g =>
    if hs_in v1 8 = true then
    if (g 301 v1.toNatClampNeg) ≤ v4 then (
      some (0, g)
    ) else (
      if hs_in ((((32 : Int32) * v1) + ((4 : Int32) * v4)) + (2 : Int32)) 256 = true then
      if (g 302 ((((32 : Int32) * v1) + ((4 : Int32) * v4)) + (2 : Int32)).toNatClampNeg) = 0 then (
        some (1, g)
      ) else (
        if hs_in (v3 + (g 302 ((((32 : Int32) * v1) + ((4 : Int32) * v4)) + (2 : Int32)).toNatClampNeg)) 16008 = true then
        hm_bv (some (hm_w g 295 (v3 + (g 302 ((((32 : Int32) * v1) + ((4 : Int32) * v4)) + (2 : Int32)).toNatClampNeg)).toNatClampNeg (1 : Int32))) fun g5 =>
        nlX12_stacks_58 n v1 v2 v3 (v4 + (1 : Int32)) g5
        else none
      )
      else none
    )
    else none
theorem nlX12_stacks_58_s (n : Nat) (v1 : Int32) (v2 : Int32) (v3 : Int32) (v4 : Int32) (g : hm) : nlX12_stacks_58 (n + 1) v1 v2 v3 v4 g =
    if hs_in v1 8 = true then
    if (g 301 v1.toNatClampNeg) ≤ v4 then (
      some (0, g)
    ) else (
      if hs_in ((((32 : Int32) * v1) + ((4 : Int32) * v4)) + (2 : Int32)) 256 = true then
      if (g 302 ((((32 : Int32) * v1) + ((4 : Int32) * v4)) + (2 : Int32)).toNatClampNeg) = 0 then (
        some (1, g)
      ) else (
        if hs_in (v3 + (g 302 ((((32 : Int32) * v1) + ((4 : Int32) * v4)) + (2 : Int32)).toNatClampNeg)) 16008 = true then
        hm_bv (some (hm_w g 295 (v3 + (g 302 ((((32 : Int32) * v1) + ((4 : Int32) * v4)) + (2 : Int32)).toNatClampNeg)).toNatClampNeg (1 : Int32))) fun g5 =>
        nlX12_stacks_58 n v1 v2 v3 (v4 + (1 : Int32)) g5
        else none
      )
      else none
    )
    else none := rfl
def njX12_stacks_152 (rec : Int32 → hm → Option (Nat × Int32 × hm)) (v1 : Int32) (v2 : Int32) (v3 : Int32) (v4 : Int32) (g : hm) : Option (Nat × Int32 × hm) :=
  rec (v4 + (1 : Int32)) g
def nlX12_stacks_122 : Nat → Int32 → Int32 → Int32 → Int32 → hm → Option (Nat × Int32 × hm)
  | 0, _, _, _, _, _ => none
  | n + 1, v1, v2, v3, v4, g =>
    if v2 ≤ v4 then (
      some (0, 0, g)
    ) else (
      if hs_in (v3 + v4) 16008 = true then
      if (g 295 (v3 + v4).toNatClampNeg) < 0 then (
        njX12_stacks_152 (fun y0 g => nlX12_stacks_122 n v1 v2 v3 y0 g) v1 v2 v3 v4 g
      ) else (
        if hs_in (v3 + v4) 16008 = true then
        if (g 296 (v3 + v4).toNatClampNeg) = 0 then (
          hm_bd (nX12_goesOn v1 v4 (hm_w g 296 (v3 + v4).toNatClampNeg (1 : Int32))) fun r10 g9 =>
          if 0 ≤ r10 then (
            nlX12_stacks_122 n v1 v2 v3 (0 : Int32) g9
          ) else (
            some (1, r10, g9)
          )
        ) else (
          njX12_stacks_152 (fun y0 g => nlX12_stacks_122 n v1 v2 v3 y0 g) v1 v2 v3 v4 g
        )
        else none
      )
      else none
    )
theorem nlX12_stacks_122_s (n : Nat) (v1 : Int32) (v2 : Int32) (v3 : Int32) (v4 : Int32) (g : hm) : nlX12_stacks_122 (n + 1) v1 v2 v3 v4 g =
    if v2 ≤ v4 then (
      some (0, 0, g)
    ) else (
      if hs_in (v3 + v4) 16008 = true then
      if (g 295 (v3 + v4).toNatClampNeg) < 0 then (
        njX12_stacks_152 (fun y0 g => nlX12_stacks_122 n v1 v2 v3 y0 g) v1 v2 v3 v4 g
      ) else (
        if hs_in (v3 + v4) 16008 = true then
        if (g 296 (v3 + v4).toNatClampNeg) = 0 then (
          hm_bd (nX12_goesOn v1 v4 (hm_w g 296 (v3 + v4).toNatClampNeg (1 : Int32))) fun r10 g9 =>
          if 0 ≤ r10 then (
            nlX12_stacks_122 n v1 v2 v3 (0 : Int32) g9
          ) else (
            some (1, r10, g9)
          )
        ) else (
          njX12_stacks_152 (fun y0 g => nlX12_stacks_122 n v1 v2 v3 y0 g) v1 v2 v3 v4 g
        )
        else none
      )
      else none
    ) := rfl
def nX12_stacks (v1 : Int32) (g : hm) : Option (Int32 × hm) :=
  if hs_in v1 8 = true then
  hm_bv (nlX12_stacks_16 hs_N v1 (g 299 v1.toNatClampNeg) ((2001 : Int32) * v1) (0 : Int32) g) fun g3 =>
  if hs_in ((2001 : Int32) * v1) 16008 = true then
  hm_bd (nlX12_stacks_58 hs_N v1 (g 299 v1.toNatClampNeg) ((2001 : Int32) * v1) (0 : Int32) (hm_w g3 295 ((2001 : Int32) * v1).toNatClampNeg (0 : Int32))) fun k6 g7 =>
  if k6 = 0 then (
    hm_b3 (nlX12_stacks_122 hs_N v1 (g 299 v1.toNatClampNeg) ((2001 : Int32) * v1) (0 : Int32) g7) fun k12 x11 g13 =>
    if k12 = 0 then (
      some ((0 : Int32), g13)
    ) else (
      some (x11, g13)
    )
  ) else (
    if hs_in v1 8 = true then
    hm_bd (nX12_wrong (g7 300 v1.toNatClampNeg) g7) fun r16 g15 =>
    some (r16, g15)
    else none
  )
  else none else none
set_option maxHeartbeats 4000000 in
theorem tlX12_stacks_16 (R : Nat → Nat → Nat) (hR : R 285 = hm_R) : ∀ (n : Nat) (v1 : Int32) (v2 : Int32) (v3 : Int32) (v4 : Int32) (g : hm), lX12_stacks_16 n 285 v1 v2 v3 v4 (gm g R) = hl_v R (nlX12_stacks_16 n v1 v2 v3 v4 g) := by
  intro n
  induction n with
  | zero => intros; rfl
  | succ n ih =>
    intro v1 v2 v3 v4 g
    rw [lX12_stacks_16_s, nlX12_stacks_16_s]
    simp only [gm_I, gm_R, gm_w, gm_kd, gm_ln, not_false_eq_true, if_true, ite_true, gk_285, gk_286, gk_287, gk_288, gk_289, gk_290, gk_291, gk_292, gk_293, gk_294, gk_295, gk_296, gk_297, gk_298, gk_299, gk_300, gk_301, gk_302, gk_303, gk_304, gk_305, gk_306, gk_307, gk_308, gk_309, gk_310, gk_311, gk_312, gk_313, gk_314, gk_315, gk_316, gk_317, gk_318, gk_319, gn_286, gn_287, gn_288, gn_289, gn_290, gn_291, gn_292, gn_293, gn_294, gn_295, gn_296, gn_297, gn_298, gn_299, gn_300, gn_301, gn_302, gn_303, gn_304, gn_305, gn_306, gn_307, gn_308, gn_309, gn_310, gn_311, gn_312, gn_313, gn_314, gn_315, gn_316, gn_317, gn_318, gn_319, gr_1, gr_5, gr_6, gr_7, gr_8, gr_9, gr_10, gr_11, gr_12, gr_13, gr_14, gr_15, gr_16, gr_17, gr_18, gr_19, gr_20, gr_21, gr_23, gr_24, gr_25, gr_26, gr_27, gr_28, gr_29, gr_30, gr_32, gr_34, gr_35, gr_41, gr_42, gr_43, gr_44, gr_45, gz_1, gz_5, gz_6, gz_7, gz_8, gz_9, gz_10, gz_11, gz_12, gz_13, gz_14, gz_15, gz_16, gz_17, gz_18, gz_19, gz_20, gz_21, gz_23, gz_24, gz_25, gz_26, gz_27, gz_28, gz_29, gz_30, gz_32, gz_34, gz_35, gz_41, gz_42, gz_43, gz_44, gz_45, hl_v_none, hl_v_ite, hl_d_none, hl_d_ite, hl_3_none, hl_3_ite, hl_4_none, hl_4_ite, hl_5_none, hl_5_ite, hl_v_some, hl_d_some, hl_3_some, hl_4_some, hl_5_some, hl_v_bv, hl_d_bv, hl_3_bv, hl_4_bv, hl_5_bv, hl_bv, hl_v_bd, hl_d_bd, hl_3_bd, hl_4_bd, hl_5_bd, hl_bd, hl_v_b3, hl_d_b3, hl_3_b3, hl_4_b3, hl_5_b3, hl_b3, hl_v_b4, hl_d_b4, hl_3_b4, hl_4_b4, hl_5_b4, hl_b4, hl_v_b5, hl_d_b5, hl_3_b5, hl_4_b5, hl_5_b5, hl_b5, hs_bv_i, hm_bv_i, hR, tX12_goesOn R hR, tX12_wrong R hR, ih]
    all_goals rfl
set_option maxHeartbeats 4000000 in
theorem tlX12_stacks_58 (R : Nat → Nat → Nat) (hR : R 285 = hm_R) : ∀ (n : Nat) (v1 : Int32) (v2 : Int32) (v3 : Int32) (v4 : Int32) (g : hm), lX12_stacks_58 n 285 v1 v2 v3 v4 (gm g R) = hl_d R (nlX12_stacks_58 n v1 v2 v3 v4 g) := by
  intro n
  induction n with
  | zero => intros; rfl
  | succ n ih =>
    intro v1 v2 v3 v4 g
    rw [lX12_stacks_58_s, nlX12_stacks_58_s]
    simp only [gm_I, gm_R, gm_w, gm_kd, gm_ln, not_false_eq_true, if_true, ite_true, gk_285, gk_286, gk_287, gk_288, gk_289, gk_290, gk_291, gk_292, gk_293, gk_294, gk_295, gk_296, gk_297, gk_298, gk_299, gk_300, gk_301, gk_302, gk_303, gk_304, gk_305, gk_306, gk_307, gk_308, gk_309, gk_310, gk_311, gk_312, gk_313, gk_314, gk_315, gk_316, gk_317, gk_318, gk_319, gn_286, gn_287, gn_288, gn_289, gn_290, gn_291, gn_292, gn_293, gn_294, gn_295, gn_296, gn_297, gn_298, gn_299, gn_300, gn_301, gn_302, gn_303, gn_304, gn_305, gn_306, gn_307, gn_308, gn_309, gn_310, gn_311, gn_312, gn_313, gn_314, gn_315, gn_316, gn_317, gn_318, gn_319, gr_1, gr_5, gr_6, gr_7, gr_8, gr_9, gr_10, gr_11, gr_12, gr_13, gr_14, gr_15, gr_16, gr_17, gr_18, gr_19, gr_20, gr_21, gr_23, gr_24, gr_25, gr_26, gr_27, gr_28, gr_29, gr_30, gr_32, gr_34, gr_35, gr_41, gr_42, gr_43, gr_44, gr_45, gz_1, gz_5, gz_6, gz_7, gz_8, gz_9, gz_10, gz_11, gz_12, gz_13, gz_14, gz_15, gz_16, gz_17, gz_18, gz_19, gz_20, gz_21, gz_23, gz_24, gz_25, gz_26, gz_27, gz_28, gz_29, gz_30, gz_32, gz_34, gz_35, gz_41, gz_42, gz_43, gz_44, gz_45, hl_v_none, hl_v_ite, hl_d_none, hl_d_ite, hl_3_none, hl_3_ite, hl_4_none, hl_4_ite, hl_5_none, hl_5_ite, hl_v_some, hl_d_some, hl_3_some, hl_4_some, hl_5_some, hl_v_bv, hl_d_bv, hl_3_bv, hl_4_bv, hl_5_bv, hl_bv, hl_v_bd, hl_d_bd, hl_3_bd, hl_4_bd, hl_5_bd, hl_bd, hl_v_b3, hl_d_b3, hl_3_b3, hl_4_b3, hl_5_b3, hl_b3, hl_v_b4, hl_d_b4, hl_3_b4, hl_4_b4, hl_5_b4, hl_b4, hl_v_b5, hl_d_b5, hl_3_b5, hl_4_b5, hl_5_b5, hl_b5, hs_bv_i, hm_bv_i, hR, tX12_goesOn R hR, tX12_wrong R hR, tlX12_stacks_16 R hR, ih]
    all_goals rfl
set_option maxHeartbeats 4000000 in
theorem tjX12_stacks_152 (R : Nat → Nat → Nat) (hR : R 285 = hm_R) (rec : Int32 → hs_S → Option (Nat × Int32 × hs_S)) (rec2 : Int32 → hm → Option (Nat × Int32 × hm)) (hrec : ∀ (y0 : Int32) (g : hm), rec y0 (gm g R) = hl_3 R (rec2 y0 g)) (v1 : Int32) (v2 : Int32) (v3 : Int32) (v4 : Int32) (g : hm) : jX12_stacks_152 rec 285 v1 v2 v3 v4 (gm g R) = hl_3 R (njX12_stacks_152 rec2 v1 v2 v3 v4 g) := by
  unfold jX12_stacks_152 njX12_stacks_152
  simp only [gm_I, gm_R, gm_w, gm_kd, gm_ln, not_false_eq_true, if_true, ite_true, gk_285, gk_286, gk_287, gk_288, gk_289, gk_290, gk_291, gk_292, gk_293, gk_294, gk_295, gk_296, gk_297, gk_298, gk_299, gk_300, gk_301, gk_302, gk_303, gk_304, gk_305, gk_306, gk_307, gk_308, gk_309, gk_310, gk_311, gk_312, gk_313, gk_314, gk_315, gk_316, gk_317, gk_318, gk_319, gn_286, gn_287, gn_288, gn_289, gn_290, gn_291, gn_292, gn_293, gn_294, gn_295, gn_296, gn_297, gn_298, gn_299, gn_300, gn_301, gn_302, gn_303, gn_304, gn_305, gn_306, gn_307, gn_308, gn_309, gn_310, gn_311, gn_312, gn_313, gn_314, gn_315, gn_316, gn_317, gn_318, gn_319, gr_1, gr_5, gr_6, gr_7, gr_8, gr_9, gr_10, gr_11, gr_12, gr_13, gr_14, gr_15, gr_16, gr_17, gr_18, gr_19, gr_20, gr_21, gr_23, gr_24, gr_25, gr_26, gr_27, gr_28, gr_29, gr_30, gr_32, gr_34, gr_35, gr_41, gr_42, gr_43, gr_44, gr_45, gz_1, gz_5, gz_6, gz_7, gz_8, gz_9, gz_10, gz_11, gz_12, gz_13, gz_14, gz_15, gz_16, gz_17, gz_18, gz_19, gz_20, gz_21, gz_23, gz_24, gz_25, gz_26, gz_27, gz_28, gz_29, gz_30, gz_32, gz_34, gz_35, gz_41, gz_42, gz_43, gz_44, gz_45, hl_v_none, hl_v_ite, hl_d_none, hl_d_ite, hl_3_none, hl_3_ite, hl_4_none, hl_4_ite, hl_5_none, hl_5_ite, hl_v_some, hl_d_some, hl_3_some, hl_4_some, hl_5_some, hl_v_bv, hl_d_bv, hl_3_bv, hl_4_bv, hl_5_bv, hl_bv, hl_v_bd, hl_d_bd, hl_3_bd, hl_4_bd, hl_5_bd, hl_bd, hl_v_b3, hl_d_b3, hl_3_b3, hl_4_b3, hl_5_b3, hl_b3, hl_v_b4, hl_d_b4, hl_3_b4, hl_4_b4, hl_5_b4, hl_b4, hl_v_b5, hl_d_b5, hl_3_b5, hl_4_b5, hl_5_b5, hl_b5, hs_bv_i, hm_bv_i, hR, tX12_goesOn R hR, tX12_wrong R hR, tlX12_stacks_16 R hR, tlX12_stacks_58 R hR, hrec]
  all_goals rfl
set_option maxHeartbeats 4000000 in
theorem tlX12_stacks_122 (R : Nat → Nat → Nat) (hR : R 285 = hm_R) : ∀ (n : Nat) (v1 : Int32) (v2 : Int32) (v3 : Int32) (v4 : Int32) (g : hm), lX12_stacks_122 n 285 v1 v2 v3 v4 (gm g R) = hl_3 R (nlX12_stacks_122 n v1 v2 v3 v4 g) := by
  intro n
  induction n with
  | zero => intros; rfl
  | succ n ih =>
    intro v1 v2 v3 v4 g
    rw [lX12_stacks_122_s, nlX12_stacks_122_s]
    simp only [gm_I, gm_R, gm_w, gm_kd, gm_ln, not_false_eq_true, if_true, ite_true, gk_285, gk_286, gk_287, gk_288, gk_289, gk_290, gk_291, gk_292, gk_293, gk_294, gk_295, gk_296, gk_297, gk_298, gk_299, gk_300, gk_301, gk_302, gk_303, gk_304, gk_305, gk_306, gk_307, gk_308, gk_309, gk_310, gk_311, gk_312, gk_313, gk_314, gk_315, gk_316, gk_317, gk_318, gk_319, gn_286, gn_287, gn_288, gn_289, gn_290, gn_291, gn_292, gn_293, gn_294, gn_295, gn_296, gn_297, gn_298, gn_299, gn_300, gn_301, gn_302, gn_303, gn_304, gn_305, gn_306, gn_307, gn_308, gn_309, gn_310, gn_311, gn_312, gn_313, gn_314, gn_315, gn_316, gn_317, gn_318, gn_319, gr_1, gr_5, gr_6, gr_7, gr_8, gr_9, gr_10, gr_11, gr_12, gr_13, gr_14, gr_15, gr_16, gr_17, gr_18, gr_19, gr_20, gr_21, gr_23, gr_24, gr_25, gr_26, gr_27, gr_28, gr_29, gr_30, gr_32, gr_34, gr_35, gr_41, gr_42, gr_43, gr_44, gr_45, gz_1, gz_5, gz_6, gz_7, gz_8, gz_9, gz_10, gz_11, gz_12, gz_13, gz_14, gz_15, gz_16, gz_17, gz_18, gz_19, gz_20, gz_21, gz_23, gz_24, gz_25, gz_26, gz_27, gz_28, gz_29, gz_30, gz_32, gz_34, gz_35, gz_41, gz_42, gz_43, gz_44, gz_45, hl_v_none, hl_v_ite, hl_d_none, hl_d_ite, hl_3_none, hl_3_ite, hl_4_none, hl_4_ite, hl_5_none, hl_5_ite, hl_v_some, hl_d_some, hl_3_some, hl_4_some, hl_5_some, hl_v_bv, hl_d_bv, hl_3_bv, hl_4_bv, hl_5_bv, hl_bv, hl_v_bd, hl_d_bd, hl_3_bd, hl_4_bd, hl_5_bd, hl_bd, hl_v_b3, hl_d_b3, hl_3_b3, hl_4_b3, hl_5_b3, hl_b3, hl_v_b4, hl_d_b4, hl_3_b4, hl_4_b4, hl_5_b4, hl_b4, hl_v_b5, hl_d_b5, hl_3_b5, hl_4_b5, hl_5_b5, hl_b5, hs_bv_i, hm_bv_i, hR, tX12_goesOn R hR, tX12_wrong R hR, tlX12_stacks_16 R hR, tlX12_stacks_58 R hR, ih, tjX12_stacks_152 R hR _ _ (fun y0 g => ih v1 v2 v3 y0 g)]
    all_goals rfl
set_option maxHeartbeats 4000000 in
theorem tX12_stacks (R : Nat → Nat → Nat) (hR : R 285 = hm_R) (v1 : Int32) (g : hm) : fX12_stacks 285 v1 (gm g R) = hl_d R (nX12_stacks v1 g) := by
  unfold fX12_stacks nX12_stacks
  simp only [gm_I, gm_R, gm_w, gm_kd, gm_ln, not_false_eq_true, if_true, ite_true, gk_285, gk_286, gk_287, gk_288, gk_289, gk_290, gk_291, gk_292, gk_293, gk_294, gk_295, gk_296, gk_297, gk_298, gk_299, gk_300, gk_301, gk_302, gk_303, gk_304, gk_305, gk_306, gk_307, gk_308, gk_309, gk_310, gk_311, gk_312, gk_313, gk_314, gk_315, gk_316, gk_317, gk_318, gk_319, gn_286, gn_287, gn_288, gn_289, gn_290, gn_291, gn_292, gn_293, gn_294, gn_295, gn_296, gn_297, gn_298, gn_299, gn_300, gn_301, gn_302, gn_303, gn_304, gn_305, gn_306, gn_307, gn_308, gn_309, gn_310, gn_311, gn_312, gn_313, gn_314, gn_315, gn_316, gn_317, gn_318, gn_319, gr_1, gr_5, gr_6, gr_7, gr_8, gr_9, gr_10, gr_11, gr_12, gr_13, gr_14, gr_15, gr_16, gr_17, gr_18, gr_19, gr_20, gr_21, gr_23, gr_24, gr_25, gr_26, gr_27, gr_28, gr_29, gr_30, gr_32, gr_34, gr_35, gr_41, gr_42, gr_43, gr_44, gr_45, gz_1, gz_5, gz_6, gz_7, gz_8, gz_9, gz_10, gz_11, gz_12, gz_13, gz_14, gz_15, gz_16, gz_17, gz_18, gz_19, gz_20, gz_21, gz_23, gz_24, gz_25, gz_26, gz_27, gz_28, gz_29, gz_30, gz_32, gz_34, gz_35, gz_41, gz_42, gz_43, gz_44, gz_45, hl_v_none, hl_v_ite, hl_d_none, hl_d_ite, hl_3_none, hl_3_ite, hl_4_none, hl_4_ite, hl_5_none, hl_5_ite, hl_v_some, hl_d_some, hl_3_some, hl_4_some, hl_5_some, hl_v_bv, hl_d_bv, hl_3_bv, hl_4_bv, hl_5_bv, hl_bv, hl_v_bd, hl_d_bd, hl_3_bd, hl_4_bd, hl_5_bd, hl_bd, hl_v_b3, hl_d_b3, hl_3_b3, hl_4_b3, hl_5_b3, hl_b3, hl_v_b4, hl_d_b4, hl_3_b4, hl_4_b4, hl_5_b4, hl_b4, hl_v_b5, hl_d_b5, hl_3_b5, hl_4_b5, hl_5_b5, hl_b5, hs_bv_i, hm_bv_i, hR, tX12_goesOn R hR, tX12_wrong R hR, tlX12_stacks_16 R hR, tlX12_stacks_58 R hR, tlX12_stacks_122 R hR]
  all_goals rfl
def njX12_read_21  (g : hm) : Option (Int32 × hm) :=
  hm_bd (nX12_wrong (0 : Int32) g) fun r4 g3 =>
  some (r4, g3)
def nlX12_read_29 : Nat → Int32 → Int32 → hm → Option (Nat × Int32 × hm)
  | 0, _, _, _ => none
  | n + 1, v1, v2, g =>
    if v1 ≤ v2 then (
      some (0, 0, g)
    ) else (
      hm_bd (nX12_readMethod v2 v1 g) fun r6 g5 =>
      if 0 ≤ r6 then (
        nlX12_read_29 n v1 (v2 + (1 : Int32)) g5
      ) else (
        some (1, r6, g5)
      )
    )
theorem nlX12_read_29_s (n : Nat) (v1 : Int32) (v2 : Int32) (g : hm) : nlX12_read_29 (n + 1) v1 v2 g =
    if v1 ≤ v2 then (
      some (0, 0, g)
    ) else (
      hm_bd (nX12_readMethod v2 v1 g) fun r6 g5 =>
      if 0 ≤ r6 then (
        nlX12_read_29 n v1 (v2 + (1 : Int32)) g5
      ) else (
        some (1, r6, g5)
      )
    ) := rfl
def nlX12_read_75 : Nat → Int32 → Int32 → hm → Option (Nat × Int32 × hm)
  | 0, _, _, _ => none
  | n + 1, v1, v2, g =>
    if v1 ≤ v2 then (
      some (0, 0, g)
    ) else (
      hm_bd (nX12_stacks v2 g) fun r12 g11 =>
      if 0 ≤ r12 then (
        nlX12_read_75 n v1 (v2 + (1 : Int32)) g11
      ) else (
        some (1, r12, g11)
      )
    )
theorem nlX12_read_75_s (n : Nat) (v1 : Int32) (v2 : Int32) (g : hm) : nlX12_read_75 (n + 1) v1 v2 g =
    if v1 ≤ v2 then (
      some (0, 0, g)
    ) else (
      hm_bd (nX12_stacks v2 g) fun r12 g11 =>
      if 0 ≤ r12 then (
        nlX12_read_75 n v1 (v2 + (1 : Int32)) g11
      ) else (
        some (1, r12, g11)
      )
    ) := rfl
def nX12_read  (g : hm) : Option (Int32 × hm) :=
  hm_bd (nX12_one (hm_w g 285 33 (0 : Int32))) fun r2 g1 =>
  if r2 < (1 : Int32) then (
    njX12_read_21 g1
  ) else (
    if r2 ≤ (8 : Int32) then (
      hm_b3 (nlX12_read_29 hs_N r2 (0 : Int32) g1) fun k8 x7 g9 =>
      if k8 = 0 then (
        if (g9 285 2) ≤ (g9 285 33) then (
          hm_b3 (nlX12_read_75 hs_N r2 (0 : Int32) g9) fun k14 x13 g15 =>
          if k14 = 0 then (
            some (r2, g15)
          ) else (
            some (x13, g15)
          )
        ) else (
          hm_bd (nX12_wrong (g9 285 33) g9) fun r18 g17 =>
          some (r18, g17)
        )
      ) else (
        some (x7, g9)
      )
    ) else (
      njX12_read_21 g1
    )
  )
set_option maxHeartbeats 4000000 in
theorem tjX12_read_21 (R : Nat → Nat → Nat) (hR : R 285 = hm_R)  (g : hm) : jX12_read_21 285  (gm g R) = hl_d R (njX12_read_21  g) := by
  unfold jX12_read_21 njX12_read_21
  simp only [gm_I, gm_R, gm_w, gm_kd, gm_ln, not_false_eq_true, if_true, ite_true, gk_285, gk_286, gk_287, gk_288, gk_289, gk_290, gk_291, gk_292, gk_293, gk_294, gk_295, gk_296, gk_297, gk_298, gk_299, gk_300, gk_301, gk_302, gk_303, gk_304, gk_305, gk_306, gk_307, gk_308, gk_309, gk_310, gk_311, gk_312, gk_313, gk_314, gk_315, gk_316, gk_317, gk_318, gk_319, gn_286, gn_287, gn_288, gn_289, gn_290, gn_291, gn_292, gn_293, gn_294, gn_295, gn_296, gn_297, gn_298, gn_299, gn_300, gn_301, gn_302, gn_303, gn_304, gn_305, gn_306, gn_307, gn_308, gn_309, gn_310, gn_311, gn_312, gn_313, gn_314, gn_315, gn_316, gn_317, gn_318, gn_319, gr_1, gr_5, gr_6, gr_7, gr_8, gr_9, gr_10, gr_11, gr_12, gr_13, gr_14, gr_15, gr_16, gr_17, gr_18, gr_19, gr_20, gr_21, gr_23, gr_24, gr_25, gr_26, gr_27, gr_28, gr_29, gr_30, gr_32, gr_34, gr_35, gr_41, gr_42, gr_43, gr_44, gr_45, gz_1, gz_5, gz_6, gz_7, gz_8, gz_9, gz_10, gz_11, gz_12, gz_13, gz_14, gz_15, gz_16, gz_17, gz_18, gz_19, gz_20, gz_21, gz_23, gz_24, gz_25, gz_26, gz_27, gz_28, gz_29, gz_30, gz_32, gz_34, gz_35, gz_41, gz_42, gz_43, gz_44, gz_45, hl_v_none, hl_v_ite, hl_d_none, hl_d_ite, hl_3_none, hl_3_ite, hl_4_none, hl_4_ite, hl_5_none, hl_5_ite, hl_v_some, hl_d_some, hl_3_some, hl_4_some, hl_5_some, hl_v_bv, hl_d_bv, hl_3_bv, hl_4_bv, hl_5_bv, hl_bv, hl_v_bd, hl_d_bd, hl_3_bd, hl_4_bd, hl_5_bd, hl_bd, hl_v_b3, hl_d_b3, hl_3_b3, hl_4_b3, hl_5_b3, hl_b3, hl_v_b4, hl_d_b4, hl_3_b4, hl_4_b4, hl_5_b4, hl_b4, hl_v_b5, hl_d_b5, hl_3_b5, hl_4_b5, hl_5_b5, hl_b5, hs_bv_i, hm_bv_i, hR, tX12_one R hR, tX12_readMethod R hR, tX12_stacks R hR, tX12_wrong R hR]
  all_goals rfl
set_option maxHeartbeats 4000000 in
theorem tlX12_read_29 (R : Nat → Nat → Nat) (hR : R 285 = hm_R) : ∀ (n : Nat) (v1 : Int32) (v2 : Int32) (g : hm), lX12_read_29 n 285 v1 v2 (gm g R) = hl_3 R (nlX12_read_29 n v1 v2 g) := by
  intro n
  induction n with
  | zero => intros; rfl
  | succ n ih =>
    intro v1 v2 g
    rw [lX12_read_29_s, nlX12_read_29_s]
    simp only [gm_I, gm_R, gm_w, gm_kd, gm_ln, not_false_eq_true, if_true, ite_true, gk_285, gk_286, gk_287, gk_288, gk_289, gk_290, gk_291, gk_292, gk_293, gk_294, gk_295, gk_296, gk_297, gk_298, gk_299, gk_300, gk_301, gk_302, gk_303, gk_304, gk_305, gk_306, gk_307, gk_308, gk_309, gk_310, gk_311, gk_312, gk_313, gk_314, gk_315, gk_316, gk_317, gk_318, gk_319, gn_286, gn_287, gn_288, gn_289, gn_290, gn_291, gn_292, gn_293, gn_294, gn_295, gn_296, gn_297, gn_298, gn_299, gn_300, gn_301, gn_302, gn_303, gn_304, gn_305, gn_306, gn_307, gn_308, gn_309, gn_310, gn_311, gn_312, gn_313, gn_314, gn_315, gn_316, gn_317, gn_318, gn_319, gr_1, gr_5, gr_6, gr_7, gr_8, gr_9, gr_10, gr_11, gr_12, gr_13, gr_14, gr_15, gr_16, gr_17, gr_18, gr_19, gr_20, gr_21, gr_23, gr_24, gr_25, gr_26, gr_27, gr_28, gr_29, gr_30, gr_32, gr_34, gr_35, gr_41, gr_42, gr_43, gr_44, gr_45, gz_1, gz_5, gz_6, gz_7, gz_8, gz_9, gz_10, gz_11, gz_12, gz_13, gz_14, gz_15, gz_16, gz_17, gz_18, gz_19, gz_20, gz_21, gz_23, gz_24, gz_25, gz_26, gz_27, gz_28, gz_29, gz_30, gz_32, gz_34, gz_35, gz_41, gz_42, gz_43, gz_44, gz_45, hl_v_none, hl_v_ite, hl_d_none, hl_d_ite, hl_3_none, hl_3_ite, hl_4_none, hl_4_ite, hl_5_none, hl_5_ite, hl_v_some, hl_d_some, hl_3_some, hl_4_some, hl_5_some, hl_v_bv, hl_d_bv, hl_3_bv, hl_4_bv, hl_5_bv, hl_bv, hl_v_bd, hl_d_bd, hl_3_bd, hl_4_bd, hl_5_bd, hl_bd, hl_v_b3, hl_d_b3, hl_3_b3, hl_4_b3, hl_5_b3, hl_b3, hl_v_b4, hl_d_b4, hl_3_b4, hl_4_b4, hl_5_b4, hl_b4, hl_v_b5, hl_d_b5, hl_3_b5, hl_4_b5, hl_5_b5, hl_b5, hs_bv_i, hm_bv_i, hR, tX12_one R hR, tX12_readMethod R hR, tX12_stacks R hR, tX12_wrong R hR, tjX12_read_21 R hR, ih]
    all_goals rfl
set_option maxHeartbeats 4000000 in
theorem tlX12_read_75 (R : Nat → Nat → Nat) (hR : R 285 = hm_R) : ∀ (n : Nat) (v1 : Int32) (v2 : Int32) (g : hm), lX12_read_75 n 285 v1 v2 (gm g R) = hl_3 R (nlX12_read_75 n v1 v2 g) := by
  intro n
  induction n with
  | zero => intros; rfl
  | succ n ih =>
    intro v1 v2 g
    rw [lX12_read_75_s, nlX12_read_75_s]
    simp only [gm_I, gm_R, gm_w, gm_kd, gm_ln, not_false_eq_true, if_true, ite_true, gk_285, gk_286, gk_287, gk_288, gk_289, gk_290, gk_291, gk_292, gk_293, gk_294, gk_295, gk_296, gk_297, gk_298, gk_299, gk_300, gk_301, gk_302, gk_303, gk_304, gk_305, gk_306, gk_307, gk_308, gk_309, gk_310, gk_311, gk_312, gk_313, gk_314, gk_315, gk_316, gk_317, gk_318, gk_319, gn_286, gn_287, gn_288, gn_289, gn_290, gn_291, gn_292, gn_293, gn_294, gn_295, gn_296, gn_297, gn_298, gn_299, gn_300, gn_301, gn_302, gn_303, gn_304, gn_305, gn_306, gn_307, gn_308, gn_309, gn_310, gn_311, gn_312, gn_313, gn_314, gn_315, gn_316, gn_317, gn_318, gn_319, gr_1, gr_5, gr_6, gr_7, gr_8, gr_9, gr_10, gr_11, gr_12, gr_13, gr_14, gr_15, gr_16, gr_17, gr_18, gr_19, gr_20, gr_21, gr_23, gr_24, gr_25, gr_26, gr_27, gr_28, gr_29, gr_30, gr_32, gr_34, gr_35, gr_41, gr_42, gr_43, gr_44, gr_45, gz_1, gz_5, gz_6, gz_7, gz_8, gz_9, gz_10, gz_11, gz_12, gz_13, gz_14, gz_15, gz_16, gz_17, gz_18, gz_19, gz_20, gz_21, gz_23, gz_24, gz_25, gz_26, gz_27, gz_28, gz_29, gz_30, gz_32, gz_34, gz_35, gz_41, gz_42, gz_43, gz_44, gz_45, hl_v_none, hl_v_ite, hl_d_none, hl_d_ite, hl_3_none, hl_3_ite, hl_4_none, hl_4_ite, hl_5_none, hl_5_ite, hl_v_some, hl_d_some, hl_3_some, hl_4_some, hl_5_some, hl_v_bv, hl_d_bv, hl_3_bv, hl_4_bv, hl_5_bv, hl_bv, hl_v_bd, hl_d_bd, hl_3_bd, hl_4_bd, hl_5_bd, hl_bd, hl_v_b3, hl_d_b3, hl_3_b3, hl_4_b3, hl_5_b3, hl_b3, hl_v_b4, hl_d_b4, hl_3_b4, hl_4_b4, hl_5_b4, hl_b4, hl_v_b5, hl_d_b5, hl_3_b5, hl_4_b5, hl_5_b5, hl_b5, hs_bv_i, hm_bv_i, hR, tX12_one R hR, tX12_readMethod R hR, tX12_stacks R hR, tX12_wrong R hR, tjX12_read_21 R hR, tlX12_read_29 R hR, ih]
    all_goals rfl
set_option maxHeartbeats 4000000 in
theorem tX12_read (R : Nat → Nat → Nat) (hR : R 285 = hm_R)  (g : hm) : fX12_read 285  (gm g R) = hl_d R (nX12_read  g) := by
  unfold fX12_read nX12_read
  simp only [gm_I, gm_R, gm_w, gm_kd, gm_ln, not_false_eq_true, if_true, ite_true, gk_285, gk_286, gk_287, gk_288, gk_289, gk_290, gk_291, gk_292, gk_293, gk_294, gk_295, gk_296, gk_297, gk_298, gk_299, gk_300, gk_301, gk_302, gk_303, gk_304, gk_305, gk_306, gk_307, gk_308, gk_309, gk_310, gk_311, gk_312, gk_313, gk_314, gk_315, gk_316, gk_317, gk_318, gk_319, gn_286, gn_287, gn_288, gn_289, gn_290, gn_291, gn_292, gn_293, gn_294, gn_295, gn_296, gn_297, gn_298, gn_299, gn_300, gn_301, gn_302, gn_303, gn_304, gn_305, gn_306, gn_307, gn_308, gn_309, gn_310, gn_311, gn_312, gn_313, gn_314, gn_315, gn_316, gn_317, gn_318, gn_319, gr_1, gr_5, gr_6, gr_7, gr_8, gr_9, gr_10, gr_11, gr_12, gr_13, gr_14, gr_15, gr_16, gr_17, gr_18, gr_19, gr_20, gr_21, gr_23, gr_24, gr_25, gr_26, gr_27, gr_28, gr_29, gr_30, gr_32, gr_34, gr_35, gr_41, gr_42, gr_43, gr_44, gr_45, gz_1, gz_5, gz_6, gz_7, gz_8, gz_9, gz_10, gz_11, gz_12, gz_13, gz_14, gz_15, gz_16, gz_17, gz_18, gz_19, gz_20, gz_21, gz_23, gz_24, gz_25, gz_26, gz_27, gz_28, gz_29, gz_30, gz_32, gz_34, gz_35, gz_41, gz_42, gz_43, gz_44, gz_45, hl_v_none, hl_v_ite, hl_d_none, hl_d_ite, hl_3_none, hl_3_ite, hl_4_none, hl_4_ite, hl_5_none, hl_5_ite, hl_v_some, hl_d_some, hl_3_some, hl_4_some, hl_5_some, hl_v_bv, hl_d_bv, hl_3_bv, hl_4_bv, hl_5_bv, hl_bv, hl_v_bd, hl_d_bd, hl_3_bd, hl_4_bd, hl_5_bd, hl_bd, hl_v_b3, hl_d_b3, hl_3_b3, hl_4_b3, hl_5_b3, hl_b3, hl_v_b4, hl_d_b4, hl_3_b4, hl_4_b4, hl_5_b4, hl_b4, hl_v_b5, hl_d_b5, hl_3_b5, hl_4_b5, hl_5_b5, hl_b5, hs_bv_i, hm_bv_i, hR, tX12_one R hR, tX12_readMethod R hR, tX12_stacks R hR, tX12_wrong R hR, tjX12_read_21 R hR, tlX12_read_29 R hR, tlX12_read_75 R hR]
  all_goals rfl
def nlX12_keep_2 : Nat → Int32 → hm → Option (hm)
  | 0, _, _ => none
  | n + 1, v1, g =>
    if (8 : Int32) ≤ v1 then (
      some g
    ) else (
      if hs_in v1 8 = true then
      if hs_in v1 8 = true then
      if hs_in v1 8 = true then
      if hs_in v1 8 = true then
      hm_bv (some (hm_w (hm_w g 287 v1.toNatClampNeg (g 297 v1.toNatClampNeg)) 288 v1.toNatClampNeg ((hm_w g 287 v1.toNatClampNeg (g 297 v1.toNatClampNeg)) 298 v1.toNatClampNeg))) fun g1 =>
      if hs_in v1 8 = true then
      if hs_in v1 8 = true then
      if hs_in v1 8 = true then
      if hs_in v1 8 = true then
      hm_bv (some (hm_w (hm_w g1 289 v1.toNatClampNeg (g1 299 v1.toNatClampNeg)) 290 v1.toNatClampNeg ((hm_w g1 289 v1.toNatClampNeg (g1 299 v1.toNatClampNeg)) 301 v1.toNatClampNeg))) fun g2 =>
      nlX12_keep_2 n (v1 + (1 : Int32)) g2
      else none else none else none else none else none else none else none else none
    )
theorem nlX12_keep_2_s (n : Nat) (v1 : Int32) (g : hm) : nlX12_keep_2 (n + 1) v1 g =
    if (8 : Int32) ≤ v1 then (
      some g
    ) else (
      if hs_in v1 8 = true then
      if hs_in v1 8 = true then
      if hs_in v1 8 = true then
      if hs_in v1 8 = true then
      hm_bv (some (hm_w (hm_w g 287 v1.toNatClampNeg (g 297 v1.toNatClampNeg)) 288 v1.toNatClampNeg ((hm_w g 287 v1.toNatClampNeg (g 297 v1.toNatClampNeg)) 298 v1.toNatClampNeg))) fun g1 =>
      if hs_in v1 8 = true then
      if hs_in v1 8 = true then
      if hs_in v1 8 = true then
      if hs_in v1 8 = true then
      hm_bv (some (hm_w (hm_w g1 289 v1.toNatClampNeg (g1 299 v1.toNatClampNeg)) 290 v1.toNatClampNeg ((hm_w g1 289 v1.toNatClampNeg (g1 299 v1.toNatClampNeg)) 301 v1.toNatClampNeg))) fun g2 =>
      nlX12_keep_2 n (v1 + (1 : Int32)) g2
      else none else none else none else none else none else none else none else none
    ) := rfl
def nlX12_keep_64 : Nat → Int32 → hm → Option (hm)
  | 0, _, _ => none
  | n + 1, v1, g =>
    if (256 : Int32) ≤ v1 then (
      some g
    ) else (
      if hs_in v1 256 = true then
      if hs_in v1 256 = true then
      nlX12_keep_64 n (v1 + (1 : Int32)) (hm_w g 291 v1.toNatClampNeg (g 302 v1.toNatClampNeg))
      else none else none
    )
theorem nlX12_keep_64_s (n : Nat) (v1 : Int32) (g : hm) : nlX12_keep_64 (n + 1) v1 g =
    if (256 : Int32) ≤ v1 then (
      some g
    ) else (
      if hs_in v1 256 = true then
      if hs_in v1 256 = true then
      nlX12_keep_64 n (v1 + (1 : Int32)) (hm_w g 291 v1.toNatClampNeg (g 302 v1.toNatClampNeg))
      else none else none
    ) := rfl
def nlX12_keep_91 : Nat → Int32 → hm → Option (hm)
  | 0, _, _ => none
  | n + 1, v1, g =>
    if (16008 : Int32) ≤ v1 then (
      some g
    ) else (
      if hs_in v1 16008 = true then
      if hs_in v1 16008 = true then
      nlX12_keep_91 n (v1 + (1 : Int32)) (hm_w g 292 v1.toNatClampNeg (g 303 v1.toNatClampNeg))
      else none else none
    )
theorem nlX12_keep_91_s (n : Nat) (v1 : Int32) (g : hm) : nlX12_keep_91 (n + 1) v1 g =
    if (16008 : Int32) ≤ v1 then (
      some g
    ) else (
      if hs_in v1 16008 = true then
      if hs_in v1 16008 = true then
      nlX12_keep_91 n (v1 + (1 : Int32)) (hm_w g 292 v1.toNatClampNeg (g 303 v1.toNatClampNeg))
      else none else none
    ) := rfl
def nX12_keep  (g : hm) : Option (hm) :=
  hm_bv (nlX12_keep_2 hs_N (0 : Int32) g) fun g4 =>
  hm_bv (nlX12_keep_64 hs_N (0 : Int32) g4) fun g7 =>
  hm_bv (nlX12_keep_91 hs_N (0 : Int32) g7) fun g10 =>
  some g10
set_option maxHeartbeats 4000000 in
theorem tlX12_keep_2 (R : Nat → Nat → Nat) (hR : R 285 = hm_R) : ∀ (n : Nat) (v1 : Int32) (g : hm), lX12_keep_2 n 285 v1 (gm g R) = hl_v R (nlX12_keep_2 n v1 g) := by
  intro n
  induction n with
  | zero => intros; rfl
  | succ n ih =>
    intro v1 g
    rw [lX12_keep_2_s, nlX12_keep_2_s]
    simp only [gm_I, gm_R, gm_w, gm_kd, gm_ln, not_false_eq_true, if_true, ite_true, gk_285, gk_286, gk_287, gk_288, gk_289, gk_290, gk_291, gk_292, gk_293, gk_294, gk_295, gk_296, gk_297, gk_298, gk_299, gk_300, gk_301, gk_302, gk_303, gk_304, gk_305, gk_306, gk_307, gk_308, gk_309, gk_310, gk_311, gk_312, gk_313, gk_314, gk_315, gk_316, gk_317, gk_318, gk_319, gn_286, gn_287, gn_288, gn_289, gn_290, gn_291, gn_292, gn_293, gn_294, gn_295, gn_296, gn_297, gn_298, gn_299, gn_300, gn_301, gn_302, gn_303, gn_304, gn_305, gn_306, gn_307, gn_308, gn_309, gn_310, gn_311, gn_312, gn_313, gn_314, gn_315, gn_316, gn_317, gn_318, gn_319, gr_1, gr_5, gr_6, gr_7, gr_8, gr_9, gr_10, gr_11, gr_12, gr_13, gr_14, gr_15, gr_16, gr_17, gr_18, gr_19, gr_20, gr_21, gr_23, gr_24, gr_25, gr_26, gr_27, gr_28, gr_29, gr_30, gr_32, gr_34, gr_35, gr_41, gr_42, gr_43, gr_44, gr_45, gz_1, gz_5, gz_6, gz_7, gz_8, gz_9, gz_10, gz_11, gz_12, gz_13, gz_14, gz_15, gz_16, gz_17, gz_18, gz_19, gz_20, gz_21, gz_23, gz_24, gz_25, gz_26, gz_27, gz_28, gz_29, gz_30, gz_32, gz_34, gz_35, gz_41, gz_42, gz_43, gz_44, gz_45, hl_v_none, hl_v_ite, hl_d_none, hl_d_ite, hl_3_none, hl_3_ite, hl_4_none, hl_4_ite, hl_5_none, hl_5_ite, hl_v_some, hl_d_some, hl_3_some, hl_4_some, hl_5_some, hl_v_bv, hl_d_bv, hl_3_bv, hl_4_bv, hl_5_bv, hl_bv, hl_v_bd, hl_d_bd, hl_3_bd, hl_4_bd, hl_5_bd, hl_bd, hl_v_b3, hl_d_b3, hl_3_b3, hl_4_b3, hl_5_b3, hl_b3, hl_v_b4, hl_d_b4, hl_3_b4, hl_4_b4, hl_5_b4, hl_b4, hl_v_b5, hl_d_b5, hl_3_b5, hl_4_b5, hl_5_b5, hl_b5, hs_bv_i, hm_bv_i, hR, ih]
    all_goals rfl
set_option maxHeartbeats 4000000 in
theorem tlX12_keep_64 (R : Nat → Nat → Nat) (hR : R 285 = hm_R) : ∀ (n : Nat) (v1 : Int32) (g : hm), lX12_keep_64 n 285 v1 (gm g R) = hl_v R (nlX12_keep_64 n v1 g) := by
  intro n
  induction n with
  | zero => intros; rfl
  | succ n ih =>
    intro v1 g
    rw [lX12_keep_64_s, nlX12_keep_64_s]
    simp only [gm_I, gm_R, gm_w, gm_kd, gm_ln, not_false_eq_true, if_true, ite_true, gk_285, gk_286, gk_287, gk_288, gk_289, gk_290, gk_291, gk_292, gk_293, gk_294, gk_295, gk_296, gk_297, gk_298, gk_299, gk_300, gk_301, gk_302, gk_303, gk_304, gk_305, gk_306, gk_307, gk_308, gk_309, gk_310, gk_311, gk_312, gk_313, gk_314, gk_315, gk_316, gk_317, gk_318, gk_319, gn_286, gn_287, gn_288, gn_289, gn_290, gn_291, gn_292, gn_293, gn_294, gn_295, gn_296, gn_297, gn_298, gn_299, gn_300, gn_301, gn_302, gn_303, gn_304, gn_305, gn_306, gn_307, gn_308, gn_309, gn_310, gn_311, gn_312, gn_313, gn_314, gn_315, gn_316, gn_317, gn_318, gn_319, gr_1, gr_5, gr_6, gr_7, gr_8, gr_9, gr_10, gr_11, gr_12, gr_13, gr_14, gr_15, gr_16, gr_17, gr_18, gr_19, gr_20, gr_21, gr_23, gr_24, gr_25, gr_26, gr_27, gr_28, gr_29, gr_30, gr_32, gr_34, gr_35, gr_41, gr_42, gr_43, gr_44, gr_45, gz_1, gz_5, gz_6, gz_7, gz_8, gz_9, gz_10, gz_11, gz_12, gz_13, gz_14, gz_15, gz_16, gz_17, gz_18, gz_19, gz_20, gz_21, gz_23, gz_24, gz_25, gz_26, gz_27, gz_28, gz_29, gz_30, gz_32, gz_34, gz_35, gz_41, gz_42, gz_43, gz_44, gz_45, hl_v_none, hl_v_ite, hl_d_none, hl_d_ite, hl_3_none, hl_3_ite, hl_4_none, hl_4_ite, hl_5_none, hl_5_ite, hl_v_some, hl_d_some, hl_3_some, hl_4_some, hl_5_some, hl_v_bv, hl_d_bv, hl_3_bv, hl_4_bv, hl_5_bv, hl_bv, hl_v_bd, hl_d_bd, hl_3_bd, hl_4_bd, hl_5_bd, hl_bd, hl_v_b3, hl_d_b3, hl_3_b3, hl_4_b3, hl_5_b3, hl_b3, hl_v_b4, hl_d_b4, hl_3_b4, hl_4_b4, hl_5_b4, hl_b4, hl_v_b5, hl_d_b5, hl_3_b5, hl_4_b5, hl_5_b5, hl_b5, hs_bv_i, hm_bv_i, hR, tlX12_keep_2 R hR, ih]
    all_goals rfl
set_option maxHeartbeats 4000000 in
theorem tlX12_keep_91 (R : Nat → Nat → Nat) (hR : R 285 = hm_R) : ∀ (n : Nat) (v1 : Int32) (g : hm), lX12_keep_91 n 285 v1 (gm g R) = hl_v R (nlX12_keep_91 n v1 g) := by
  intro n
  induction n with
  | zero => intros; rfl
  | succ n ih =>
    intro v1 g
    rw [lX12_keep_91_s, nlX12_keep_91_s]
    simp only [gm_I, gm_R, gm_w, gm_kd, gm_ln, not_false_eq_true, if_true, ite_true, gk_285, gk_286, gk_287, gk_288, gk_289, gk_290, gk_291, gk_292, gk_293, gk_294, gk_295, gk_296, gk_297, gk_298, gk_299, gk_300, gk_301, gk_302, gk_303, gk_304, gk_305, gk_306, gk_307, gk_308, gk_309, gk_310, gk_311, gk_312, gk_313, gk_314, gk_315, gk_316, gk_317, gk_318, gk_319, gn_286, gn_287, gn_288, gn_289, gn_290, gn_291, gn_292, gn_293, gn_294, gn_295, gn_296, gn_297, gn_298, gn_299, gn_300, gn_301, gn_302, gn_303, gn_304, gn_305, gn_306, gn_307, gn_308, gn_309, gn_310, gn_311, gn_312, gn_313, gn_314, gn_315, gn_316, gn_317, gn_318, gn_319, gr_1, gr_5, gr_6, gr_7, gr_8, gr_9, gr_10, gr_11, gr_12, gr_13, gr_14, gr_15, gr_16, gr_17, gr_18, gr_19, gr_20, gr_21, gr_23, gr_24, gr_25, gr_26, gr_27, gr_28, gr_29, gr_30, gr_32, gr_34, gr_35, gr_41, gr_42, gr_43, gr_44, gr_45, gz_1, gz_5, gz_6, gz_7, gz_8, gz_9, gz_10, gz_11, gz_12, gz_13, gz_14, gz_15, gz_16, gz_17, gz_18, gz_19, gz_20, gz_21, gz_23, gz_24, gz_25, gz_26, gz_27, gz_28, gz_29, gz_30, gz_32, gz_34, gz_35, gz_41, gz_42, gz_43, gz_44, gz_45, hl_v_none, hl_v_ite, hl_d_none, hl_d_ite, hl_3_none, hl_3_ite, hl_4_none, hl_4_ite, hl_5_none, hl_5_ite, hl_v_some, hl_d_some, hl_3_some, hl_4_some, hl_5_some, hl_v_bv, hl_d_bv, hl_3_bv, hl_4_bv, hl_5_bv, hl_bv, hl_v_bd, hl_d_bd, hl_3_bd, hl_4_bd, hl_5_bd, hl_bd, hl_v_b3, hl_d_b3, hl_3_b3, hl_4_b3, hl_5_b3, hl_b3, hl_v_b4, hl_d_b4, hl_3_b4, hl_4_b4, hl_5_b4, hl_b4, hl_v_b5, hl_d_b5, hl_3_b5, hl_4_b5, hl_5_b5, hl_b5, hs_bv_i, hm_bv_i, hR, tlX12_keep_2 R hR, tlX12_keep_64 R hR, ih]
    all_goals rfl
set_option maxHeartbeats 4000000 in
theorem tX12_keep (R : Nat → Nat → Nat) (hR : R 285 = hm_R)  (g : hm) : fX12_keep 285  (gm g R) = hl_v R (nX12_keep  g) := by
  unfold fX12_keep nX12_keep
  simp only [gm_I, gm_R, gm_w, gm_kd, gm_ln, not_false_eq_true, if_true, ite_true, gk_285, gk_286, gk_287, gk_288, gk_289, gk_290, gk_291, gk_292, gk_293, gk_294, gk_295, gk_296, gk_297, gk_298, gk_299, gk_300, gk_301, gk_302, gk_303, gk_304, gk_305, gk_306, gk_307, gk_308, gk_309, gk_310, gk_311, gk_312, gk_313, gk_314, gk_315, gk_316, gk_317, gk_318, gk_319, gn_286, gn_287, gn_288, gn_289, gn_290, gn_291, gn_292, gn_293, gn_294, gn_295, gn_296, gn_297, gn_298, gn_299, gn_300, gn_301, gn_302, gn_303, gn_304, gn_305, gn_306, gn_307, gn_308, gn_309, gn_310, gn_311, gn_312, gn_313, gn_314, gn_315, gn_316, gn_317, gn_318, gn_319, gr_1, gr_5, gr_6, gr_7, gr_8, gr_9, gr_10, gr_11, gr_12, gr_13, gr_14, gr_15, gr_16, gr_17, gr_18, gr_19, gr_20, gr_21, gr_23, gr_24, gr_25, gr_26, gr_27, gr_28, gr_29, gr_30, gr_32, gr_34, gr_35, gr_41, gr_42, gr_43, gr_44, gr_45, gz_1, gz_5, gz_6, gz_7, gz_8, gz_9, gz_10, gz_11, gz_12, gz_13, gz_14, gz_15, gz_16, gz_17, gz_18, gz_19, gz_20, gz_21, gz_23, gz_24, gz_25, gz_26, gz_27, gz_28, gz_29, gz_30, gz_32, gz_34, gz_35, gz_41, gz_42, gz_43, gz_44, gz_45, hl_v_none, hl_v_ite, hl_d_none, hl_d_ite, hl_3_none, hl_3_ite, hl_4_none, hl_4_ite, hl_5_none, hl_5_ite, hl_v_some, hl_d_some, hl_3_some, hl_4_some, hl_5_some, hl_v_bv, hl_d_bv, hl_3_bv, hl_4_bv, hl_5_bv, hl_bv, hl_v_bd, hl_d_bd, hl_3_bd, hl_4_bd, hl_5_bd, hl_bd, hl_v_b3, hl_d_b3, hl_3_b3, hl_4_b3, hl_5_b3, hl_b3, hl_v_b4, hl_d_b4, hl_3_b4, hl_4_b4, hl_5_b4, hl_b4, hl_v_b5, hl_d_b5, hl_3_b5, hl_4_b5, hl_5_b5, hl_b5, hs_bv_i, hm_bv_i, hR, tlX12_keep_2 R hR, tlX12_keep_64 R hR, tlX12_keep_91 R hR]
  all_goals rfl
def nX12_load  (g : hm) : Option (Int32 × hm) :=
  hm_bd (nX12_read g) fun r2 g1 =>
  if 0 ≤ r2 then (
    hm_bv (some (hm_w (hm_w (hm_w (hm_w g1 285 2 (0 : Int32)) 285 4 r2) 285 3 (1 : Int32)) 285 22 (0 : Int32))) fun g3 =>
    hm_bv (nX12_keep g3) fun g4 =>
    some (r2, g4)
  ) else (
    some (((-9 : Int32) + r2), (hm_w g1 285 2 (0 : Int32)))
  )
set_option maxHeartbeats 4000000 in
theorem tX12_load (R : Nat → Nat → Nat) (hR : R 285 = hm_R)  (g : hm) : fX12_load 285  (gm g R) = hl_d R (nX12_load  g) := by
  unfold fX12_load nX12_load
  simp only [gm_I, gm_R, gm_w, gm_kd, gm_ln, not_false_eq_true, if_true, ite_true, gk_285, gk_286, gk_287, gk_288, gk_289, gk_290, gk_291, gk_292, gk_293, gk_294, gk_295, gk_296, gk_297, gk_298, gk_299, gk_300, gk_301, gk_302, gk_303, gk_304, gk_305, gk_306, gk_307, gk_308, gk_309, gk_310, gk_311, gk_312, gk_313, gk_314, gk_315, gk_316, gk_317, gk_318, gk_319, gn_286, gn_287, gn_288, gn_289, gn_290, gn_291, gn_292, gn_293, gn_294, gn_295, gn_296, gn_297, gn_298, gn_299, gn_300, gn_301, gn_302, gn_303, gn_304, gn_305, gn_306, gn_307, gn_308, gn_309, gn_310, gn_311, gn_312, gn_313, gn_314, gn_315, gn_316, gn_317, gn_318, gn_319, gr_1, gr_5, gr_6, gr_7, gr_8, gr_9, gr_10, gr_11, gr_12, gr_13, gr_14, gr_15, gr_16, gr_17, gr_18, gr_19, gr_20, gr_21, gr_23, gr_24, gr_25, gr_26, gr_27, gr_28, gr_29, gr_30, gr_32, gr_34, gr_35, gr_41, gr_42, gr_43, gr_44, gr_45, gz_1, gz_5, gz_6, gz_7, gz_8, gz_9, gz_10, gz_11, gz_12, gz_13, gz_14, gz_15, gz_16, gz_17, gz_18, gz_19, gz_20, gz_21, gz_23, gz_24, gz_25, gz_26, gz_27, gz_28, gz_29, gz_30, gz_32, gz_34, gz_35, gz_41, gz_42, gz_43, gz_44, gz_45, hl_v_none, hl_v_ite, hl_d_none, hl_d_ite, hl_3_none, hl_3_ite, hl_4_none, hl_4_ite, hl_5_none, hl_5_ite, hl_v_some, hl_d_some, hl_3_some, hl_4_some, hl_5_some, hl_v_bv, hl_d_bv, hl_3_bv, hl_4_bv, hl_5_bv, hl_bv, hl_v_bd, hl_d_bd, hl_3_bd, hl_4_bd, hl_5_bd, hl_bd, hl_v_b3, hl_d_b3, hl_3_b3, hl_4_b3, hl_5_b3, hl_b3, hl_v_b4, hl_d_b4, hl_3_b4, hl_4_b4, hl_5_b4, hl_b4, hl_v_b5, hl_d_b5, hl_3_b5, hl_4_b5, hl_5_b5, hl_b5, hs_bv_i, hm_bv_i, hR, tX12_keep R hR, tX12_read R hR]
  all_goals rfl
def nX12_price (v1 : Int32) (v2 : Int32) (g : hm) : Option (Int32 × hm) :=
  if v1 < 0 then (
    some ((-3 : Int32), g)
  ) else (
    if (255 : Int32) < v1 then (
      some ((-3 : Int32), g)
    ) else (
      hm_bd (nX12_isKind v1 g) fun r2 g1 =>
      if r2 = 0 then (
        some ((-3 : Int32), g1)
      ) else (
        if v2 < 0 then (
          some ((-3 : Int32), g1)
        ) else (
          if v2 ≤ (1000 : Int32) then (
            if hs_in v1 256 = true then
            some ((g1 312 v1.toNatClampNeg), (hm_w g1 312 v1.toNatClampNeg v2))
            else none
          ) else (
            some ((-3 : Int32), g1)
          )
        )
      )
    )
  )
set_option maxHeartbeats 4000000 in
theorem tX12_price (R : Nat → Nat → Nat) (hR : R 285 = hm_R) (v1 : Int32) (v2 : Int32) (g : hm) : fX12_price 285 v1 v2 (gm g R) = hl_d R (nX12_price v1 v2 g) := by
  unfold fX12_price nX12_price
  simp only [gm_I, gm_R, gm_w, gm_kd, gm_ln, not_false_eq_true, if_true, ite_true, gk_285, gk_286, gk_287, gk_288, gk_289, gk_290, gk_291, gk_292, gk_293, gk_294, gk_295, gk_296, gk_297, gk_298, gk_299, gk_300, gk_301, gk_302, gk_303, gk_304, gk_305, gk_306, gk_307, gk_308, gk_309, gk_310, gk_311, gk_312, gk_313, gk_314, gk_315, gk_316, gk_317, gk_318, gk_319, gn_286, gn_287, gn_288, gn_289, gn_290, gn_291, gn_292, gn_293, gn_294, gn_295, gn_296, gn_297, gn_298, gn_299, gn_300, gn_301, gn_302, gn_303, gn_304, gn_305, gn_306, gn_307, gn_308, gn_309, gn_310, gn_311, gn_312, gn_313, gn_314, gn_315, gn_316, gn_317, gn_318, gn_319, gr_1, gr_5, gr_6, gr_7, gr_8, gr_9, gr_10, gr_11, gr_12, gr_13, gr_14, gr_15, gr_16, gr_17, gr_18, gr_19, gr_20, gr_21, gr_23, gr_24, gr_25, gr_26, gr_27, gr_28, gr_29, gr_30, gr_32, gr_34, gr_35, gr_41, gr_42, gr_43, gr_44, gr_45, gz_1, gz_5, gz_6, gz_7, gz_8, gz_9, gz_10, gz_11, gz_12, gz_13, gz_14, gz_15, gz_16, gz_17, gz_18, gz_19, gz_20, gz_21, gz_23, gz_24, gz_25, gz_26, gz_27, gz_28, gz_29, gz_30, gz_32, gz_34, gz_35, gz_41, gz_42, gz_43, gz_44, gz_45, hl_v_none, hl_v_ite, hl_d_none, hl_d_ite, hl_3_none, hl_3_ite, hl_4_none, hl_4_ite, hl_5_none, hl_5_ite, hl_v_some, hl_d_some, hl_3_some, hl_4_some, hl_5_some, hl_v_bv, hl_d_bv, hl_3_bv, hl_4_bv, hl_5_bv, hl_bv, hl_v_bd, hl_d_bd, hl_3_bd, hl_4_bd, hl_5_bd, hl_bd, hl_v_b3, hl_d_b3, hl_3_b3, hl_4_b3, hl_5_b3, hl_b3, hl_v_b4, hl_d_b4, hl_3_b4, hl_4_b4, hl_5_b4, hl_b4, hl_v_b5, hl_d_b5, hl_3_b5, hl_4_b5, hl_5_b5, hl_b5, hs_bv_i, hm_bv_i, hR, tX12_isKind R hR]
  all_goals rfl
def nX12_kindAt (v1 : Int32) (v2 : Int32) (g : hm) : Option (Int32 × hm) :=
  if hs_in (((2001 : Int32) * v1) + v2) 16008 = true then
  some ((g 292 (((2001 : Int32) * v1) + v2).toNatClampNeg), g)
  else none
set_option maxHeartbeats 4000000 in
theorem tX12_kindAt (R : Nat → Nat → Nat) (hR : R 285 = hm_R) (v1 : Int32) (v2 : Int32) (g : hm) : fX12_kindAt 285 v1 v2 (gm g R) = hl_d R (nX12_kindAt v1 v2 g) := by
  unfold fX12_kindAt nX12_kindAt
  simp only [gm_I, gm_R, gm_w, gm_kd, gm_ln, not_false_eq_true, if_true, ite_true, gk_285, gk_286, gk_287, gk_288, gk_289, gk_290, gk_291, gk_292, gk_293, gk_294, gk_295, gk_296, gk_297, gk_298, gk_299, gk_300, gk_301, gk_302, gk_303, gk_304, gk_305, gk_306, gk_307, gk_308, gk_309, gk_310, gk_311, gk_312, gk_313, gk_314, gk_315, gk_316, gk_317, gk_318, gk_319, gn_286, gn_287, gn_288, gn_289, gn_290, gn_291, gn_292, gn_293, gn_294, gn_295, gn_296, gn_297, gn_298, gn_299, gn_300, gn_301, gn_302, gn_303, gn_304, gn_305, gn_306, gn_307, gn_308, gn_309, gn_310, gn_311, gn_312, gn_313, gn_314, gn_315, gn_316, gn_317, gn_318, gn_319, gr_1, gr_5, gr_6, gr_7, gr_8, gr_9, gr_10, gr_11, gr_12, gr_13, gr_14, gr_15, gr_16, gr_17, gr_18, gr_19, gr_20, gr_21, gr_23, gr_24, gr_25, gr_26, gr_27, gr_28, gr_29, gr_30, gr_32, gr_34, gr_35, gr_41, gr_42, gr_43, gr_44, gr_45, gz_1, gz_5, gz_6, gz_7, gz_8, gz_9, gz_10, gz_11, gz_12, gz_13, gz_14, gz_15, gz_16, gz_17, gz_18, gz_19, gz_20, gz_21, gz_23, gz_24, gz_25, gz_26, gz_27, gz_28, gz_29, gz_30, gz_32, gz_34, gz_35, gz_41, gz_42, gz_43, gz_44, gz_45, hl_v_none, hl_v_ite, hl_d_none, hl_d_ite, hl_3_none, hl_3_ite, hl_4_none, hl_4_ite, hl_5_none, hl_5_ite, hl_v_some, hl_d_some, hl_3_some, hl_4_some, hl_5_some, hl_v_bv, hl_d_bv, hl_3_bv, hl_4_bv, hl_5_bv, hl_bv, hl_v_bd, hl_d_bd, hl_3_bd, hl_4_bd, hl_5_bd, hl_bd, hl_v_b3, hl_d_b3, hl_3_b3, hl_4_b3, hl_5_b3, hl_b3, hl_v_b4, hl_d_b4, hl_3_b4, hl_4_b4, hl_5_b4, hl_b4, hl_v_b5, hl_d_b5, hl_3_b5, hl_4_b5, hl_5_b5, hl_b5, hs_bv_i, hm_bv_i, hR]
  all_goals rfl
def nX12_leads (v1 : Int32) (v2 : Int32) (g : hm) : Option (Int32 × hm) :=
  if hs_in (((2001 : Int32) * v1) + v2) 16008 = true then
  if hs_in ((((2001 : Int32) * v1) + v2) + (1 : Int32)) 16008 = true then
  if hs_in ((((2001 : Int32) * v1) + v2) + (2 : Int32)) 16008 = true then
  hm_bd (nX12_target (g 292 (((2001 : Int32) * v1) + v2).toNatClampNeg) v2 (g 292 ((((2001 : Int32) * v1) + v2) + (1 : Int32)).toNatClampNeg) (g 292 ((((2001 : Int32) * v1) + v2) + (2 : Int32)).toNatClampNeg) g) fun r2 g1 =>
  some (r2, g1)
  else none else none else none
set_option maxHeartbeats 4000000 in
theorem tX12_leads (R : Nat → Nat → Nat) (hR : R 285 = hm_R) (v1 : Int32) (v2 : Int32) (g : hm) : fX12_leads 285 v1 v2 (gm g R) = hl_d R (nX12_leads v1 v2 g) := by
  unfold fX12_leads nX12_leads
  simp only [gm_I, gm_R, gm_w, gm_kd, gm_ln, not_false_eq_true, if_true, ite_true, gk_285, gk_286, gk_287, gk_288, gk_289, gk_290, gk_291, gk_292, gk_293, gk_294, gk_295, gk_296, gk_297, gk_298, gk_299, gk_300, gk_301, gk_302, gk_303, gk_304, gk_305, gk_306, gk_307, gk_308, gk_309, gk_310, gk_311, gk_312, gk_313, gk_314, gk_315, gk_316, gk_317, gk_318, gk_319, gn_286, gn_287, gn_288, gn_289, gn_290, gn_291, gn_292, gn_293, gn_294, gn_295, gn_296, gn_297, gn_298, gn_299, gn_300, gn_301, gn_302, gn_303, gn_304, gn_305, gn_306, gn_307, gn_308, gn_309, gn_310, gn_311, gn_312, gn_313, gn_314, gn_315, gn_316, gn_317, gn_318, gn_319, gr_1, gr_5, gr_6, gr_7, gr_8, gr_9, gr_10, gr_11, gr_12, gr_13, gr_14, gr_15, gr_16, gr_17, gr_18, gr_19, gr_20, gr_21, gr_23, gr_24, gr_25, gr_26, gr_27, gr_28, gr_29, gr_30, gr_32, gr_34, gr_35, gr_41, gr_42, gr_43, gr_44, gr_45, gz_1, gz_5, gz_6, gz_7, gz_8, gz_9, gz_10, gz_11, gz_12, gz_13, gz_14, gz_15, gz_16, gz_17, gz_18, gz_19, gz_20, gz_21, gz_23, gz_24, gz_25, gz_26, gz_27, gz_28, gz_29, gz_30, gz_32, gz_34, gz_35, gz_41, gz_42, gz_43, gz_44, gz_45, hl_v_none, hl_v_ite, hl_d_none, hl_d_ite, hl_3_none, hl_3_ite, hl_4_none, hl_4_ite, hl_5_none, hl_5_ite, hl_v_some, hl_d_some, hl_3_some, hl_4_some, hl_5_some, hl_v_bv, hl_d_bv, hl_3_bv, hl_4_bv, hl_5_bv, hl_bv, hl_v_bd, hl_d_bd, hl_3_bd, hl_4_bd, hl_5_bd, hl_bd, hl_v_b3, hl_d_b3, hl_3_b3, hl_4_b3, hl_5_b3, hl_b3, hl_v_b4, hl_d_b4, hl_3_b4, hl_4_b4, hl_5_b4, hl_b4, hl_v_b5, hl_d_b5, hl_3_b5, hl_4_b5, hl_5_b5, hl_b5, hs_bv_i, hm_bv_i, hR, tX12_target R hR]
  all_goals rfl
def nlX12_mark_2 : Nat → Int32 → Int32 → hm → Option (hm)
  | 0, _, _, _ => none
  | n + 1, v1, v2, g =>
    if hs_in v1 8 = true then
    if (g 289 v1.toNatClampNeg) < v2 then (
      some g
    ) else (
      if hs_in v2 2008 = true then
      nlX12_mark_2 n v1 (v2 + (1 : Int32)) (hm_w g 294 v2.toNatClampNeg (0 : Int32))
      else none
    )
    else none
theorem nlX12_mark_2_s (n : Nat) (v1 : Int32) (v2 : Int32) (g : hm) : nlX12_mark_2 (n + 1) v1 v2 g =
    if hs_in v1 8 = true then
    if (g 289 v1.toNatClampNeg) < v2 then (
      some g
    ) else (
      if hs_in v2 2008 = true then
      nlX12_mark_2 n v1 (v2 + (1 : Int32)) (hm_w g 294 v2.toNatClampNeg (0 : Int32))
      else none
    )
    else none := rfl
def nlX12_mark_34 : Nat → Int32 → Int32 → hm → Option (hm)
  | 0, _, _, _ => none
  | n + 1, v1, v2, g =>
    if hs_in v1 8 = true then
    if (g 290 v1.toNatClampNeg) ≤ v2 then (
      some g
    ) else (
      if hs_in ((((32 : Int32) * v1) + ((4 : Int32) * v2)) + (2 : Int32)) 256 = true then
      if hs_in (g 291 ((((32 : Int32) * v1) + ((4 : Int32) * v2)) + (2 : Int32)).toNatClampNeg) 2008 = true then
      hm_bv (some (hm_w g 294 (g 291 ((((32 : Int32) * v1) + ((4 : Int32) * v2)) + (2 : Int32)).toNatClampNeg).toNatClampNeg (1 : Int32))) fun g4 =>
      nlX12_mark_34 n v1 (v2 + (1 : Int32)) g4
      else none else none
    )
    else none
theorem nlX12_mark_34_s (n : Nat) (v1 : Int32) (v2 : Int32) (g : hm) : nlX12_mark_34 (n + 1) v1 v2 g =
    if hs_in v1 8 = true then
    if (g 290 v1.toNatClampNeg) ≤ v2 then (
      some g
    ) else (
      if hs_in ((((32 : Int32) * v1) + ((4 : Int32) * v2)) + (2 : Int32)) 256 = true then
      if hs_in (g 291 ((((32 : Int32) * v1) + ((4 : Int32) * v2)) + (2 : Int32)).toNatClampNeg) 2008 = true then
      hm_bv (some (hm_w g 294 (g 291 ((((32 : Int32) * v1) + ((4 : Int32) * v2)) + (2 : Int32)).toNatClampNeg).toNatClampNeg (1 : Int32))) fun g4 =>
      nlX12_mark_34 n v1 (v2 + (1 : Int32)) g4
      else none else none
    )
    else none := rfl
def njX12_mark_146 (rec : Int32 → hm → Option (hm)) (v1 : Int32) (v4 : Int32) (g : hm) : Option (hm) :=
  rec v4 g
def njX12_mark_138 (rec : Int32 → hm → Option (hm)) (v1 : Int32) (v4 : Int32) (g : hm) : Option (hm) :=
  if hs_in v4 2008 = true then
  njX12_mark_146 rec v1 v4 (hm_w g 294 v4.toNatClampNeg (1 : Int32))
  else none
def njX12_mark_117 (rec : Int32 → hm → Option (hm)) (v1 : Int32) (v3 : Int32) (v4 : Int32) (g : hm) : Option (hm) :=
  hm_bd (nX12_isJump v3 g) fun r15 g14 =>
  if r15 = 0 then (
    if v3 = (172 : Int32) then (
      njX12_mark_138 rec v1 v4 g14
    ) else (
      if v3 = (191 : Int32) then (
        njX12_mark_138 rec v1 v4 g14
      ) else (
        njX12_mark_146 rec v1 v4 g14
      )
    )
  ) else (
    njX12_mark_138 rec v1 v4 g14
  )
def nlX12_mark_73 : Nat → Int32 → Int32 → hm → Option (hm)
  | 0, _, _, _ => none
  | n + 1, v1, v2, g =>
    if hs_in v1 8 = true then
    if (g 289 v1.toNatClampNeg) ≤ v2 then (
      some g
    ) else (
      hm_bd (nX12_kindAt v1 v2 g) fun r9 g8 =>
      hm_bd (nX12_size r9 g8) fun r11 g10 =>
      hm_bd (nX12_isJump r9 g10) fun r13 g12 =>
      if r13 = 0 then (
        njX12_mark_117 (fun y0 g => nlX12_mark_73 n v1 y0 g) v1 r9 (v2 + r11) g12
      ) else (
        hm_bd (nX12_leads v1 v2 g12) fun r17 g16 =>
        if hs_in r17 2008 = true then
        njX12_mark_117 (fun y0 g => nlX12_mark_73 n v1 y0 g) v1 r9 (v2 + r11) (hm_w g16 294 r17.toNatClampNeg (1 : Int32))
        else none
      )
    )
    else none
theorem nlX12_mark_73_s (n : Nat) (v1 : Int32) (v2 : Int32) (g : hm) : nlX12_mark_73 (n + 1) v1 v2 g =
    if hs_in v1 8 = true then
    if (g 289 v1.toNatClampNeg) ≤ v2 then (
      some g
    ) else (
      hm_bd (nX12_kindAt v1 v2 g) fun r9 g8 =>
      hm_bd (nX12_size r9 g8) fun r11 g10 =>
      hm_bd (nX12_isJump r9 g10) fun r13 g12 =>
      if r13 = 0 then (
        njX12_mark_117 (fun y0 g => nlX12_mark_73 n v1 y0 g) v1 r9 (v2 + r11) g12
      ) else (
        hm_bd (nX12_leads v1 v2 g12) fun r17 g16 =>
        if hs_in r17 2008 = true then
        njX12_mark_117 (fun y0 g => nlX12_mark_73 n v1 y0 g) v1 r9 (v2 + r11) (hm_w g16 294 r17.toNatClampNeg (1 : Int32))
        else none
      )
    )
    else none := rfl
def nX12_mark (v1 : Int32) (g : hm) : Option (hm) :=
  hm_bv (nlX12_mark_2 hs_N v1 (0 : Int32) g) fun g2 =>
  if hs_in (0 : Int32) 2008 = true then
  hm_bv (nlX12_mark_34 hs_N v1 (0 : Int32) (hm_w g2 294 (0 : Int32).toNatClampNeg (1 : Int32))) fun g6 =>
  hm_bv (nlX12_mark_73 hs_N v1 (0 : Int32) g6) fun g19 =>
  some g19
  else none
set_option maxHeartbeats 4000000 in
theorem tlX12_mark_2 (R : Nat → Nat → Nat) (hR : R 285 = hm_R) : ∀ (n : Nat) (v1 : Int32) (v2 : Int32) (g : hm), lX12_mark_2 n 285 v1 v2 (gm g R) = hl_v R (nlX12_mark_2 n v1 v2 g) := by
  intro n
  induction n with
  | zero => intros; rfl
  | succ n ih =>
    intro v1 v2 g
    rw [lX12_mark_2_s, nlX12_mark_2_s]
    simp only [gm_I, gm_R, gm_w, gm_kd, gm_ln, not_false_eq_true, if_true, ite_true, gk_285, gk_286, gk_287, gk_288, gk_289, gk_290, gk_291, gk_292, gk_293, gk_294, gk_295, gk_296, gk_297, gk_298, gk_299, gk_300, gk_301, gk_302, gk_303, gk_304, gk_305, gk_306, gk_307, gk_308, gk_309, gk_310, gk_311, gk_312, gk_313, gk_314, gk_315, gk_316, gk_317, gk_318, gk_319, gn_286, gn_287, gn_288, gn_289, gn_290, gn_291, gn_292, gn_293, gn_294, gn_295, gn_296, gn_297, gn_298, gn_299, gn_300, gn_301, gn_302, gn_303, gn_304, gn_305, gn_306, gn_307, gn_308, gn_309, gn_310, gn_311, gn_312, gn_313, gn_314, gn_315, gn_316, gn_317, gn_318, gn_319, gr_1, gr_5, gr_6, gr_7, gr_8, gr_9, gr_10, gr_11, gr_12, gr_13, gr_14, gr_15, gr_16, gr_17, gr_18, gr_19, gr_20, gr_21, gr_23, gr_24, gr_25, gr_26, gr_27, gr_28, gr_29, gr_30, gr_32, gr_34, gr_35, gr_41, gr_42, gr_43, gr_44, gr_45, gz_1, gz_5, gz_6, gz_7, gz_8, gz_9, gz_10, gz_11, gz_12, gz_13, gz_14, gz_15, gz_16, gz_17, gz_18, gz_19, gz_20, gz_21, gz_23, gz_24, gz_25, gz_26, gz_27, gz_28, gz_29, gz_30, gz_32, gz_34, gz_35, gz_41, gz_42, gz_43, gz_44, gz_45, hl_v_none, hl_v_ite, hl_d_none, hl_d_ite, hl_3_none, hl_3_ite, hl_4_none, hl_4_ite, hl_5_none, hl_5_ite, hl_v_some, hl_d_some, hl_3_some, hl_4_some, hl_5_some, hl_v_bv, hl_d_bv, hl_3_bv, hl_4_bv, hl_5_bv, hl_bv, hl_v_bd, hl_d_bd, hl_3_bd, hl_4_bd, hl_5_bd, hl_bd, hl_v_b3, hl_d_b3, hl_3_b3, hl_4_b3, hl_5_b3, hl_b3, hl_v_b4, hl_d_b4, hl_3_b4, hl_4_b4, hl_5_b4, hl_b4, hl_v_b5, hl_d_b5, hl_3_b5, hl_4_b5, hl_5_b5, hl_b5, hs_bv_i, hm_bv_i, hR, tX12_isJump R hR, tX12_kindAt R hR, tX12_leads R hR, tX12_size R hR, ih]
    all_goals rfl
set_option maxHeartbeats 4000000 in
theorem tlX12_mark_34 (R : Nat → Nat → Nat) (hR : R 285 = hm_R) : ∀ (n : Nat) (v1 : Int32) (v2 : Int32) (g : hm), lX12_mark_34 n 285 v1 v2 (gm g R) = hl_v R (nlX12_mark_34 n v1 v2 g) := by
  intro n
  induction n with
  | zero => intros; rfl
  | succ n ih =>
    intro v1 v2 g
    rw [lX12_mark_34_s, nlX12_mark_34_s]
    simp only [gm_I, gm_R, gm_w, gm_kd, gm_ln, not_false_eq_true, if_true, ite_true, gk_285, gk_286, gk_287, gk_288, gk_289, gk_290, gk_291, gk_292, gk_293, gk_294, gk_295, gk_296, gk_297, gk_298, gk_299, gk_300, gk_301, gk_302, gk_303, gk_304, gk_305, gk_306, gk_307, gk_308, gk_309, gk_310, gk_311, gk_312, gk_313, gk_314, gk_315, gk_316, gk_317, gk_318, gk_319, gn_286, gn_287, gn_288, gn_289, gn_290, gn_291, gn_292, gn_293, gn_294, gn_295, gn_296, gn_297, gn_298, gn_299, gn_300, gn_301, gn_302, gn_303, gn_304, gn_305, gn_306, gn_307, gn_308, gn_309, gn_310, gn_311, gn_312, gn_313, gn_314, gn_315, gn_316, gn_317, gn_318, gn_319, gr_1, gr_5, gr_6, gr_7, gr_8, gr_9, gr_10, gr_11, gr_12, gr_13, gr_14, gr_15, gr_16, gr_17, gr_18, gr_19, gr_20, gr_21, gr_23, gr_24, gr_25, gr_26, gr_27, gr_28, gr_29, gr_30, gr_32, gr_34, gr_35, gr_41, gr_42, gr_43, gr_44, gr_45, gz_1, gz_5, gz_6, gz_7, gz_8, gz_9, gz_10, gz_11, gz_12, gz_13, gz_14, gz_15, gz_16, gz_17, gz_18, gz_19, gz_20, gz_21, gz_23, gz_24, gz_25, gz_26, gz_27, gz_28, gz_29, gz_30, gz_32, gz_34, gz_35, gz_41, gz_42, gz_43, gz_44, gz_45, hl_v_none, hl_v_ite, hl_d_none, hl_d_ite, hl_3_none, hl_3_ite, hl_4_none, hl_4_ite, hl_5_none, hl_5_ite, hl_v_some, hl_d_some, hl_3_some, hl_4_some, hl_5_some, hl_v_bv, hl_d_bv, hl_3_bv, hl_4_bv, hl_5_bv, hl_bv, hl_v_bd, hl_d_bd, hl_3_bd, hl_4_bd, hl_5_bd, hl_bd, hl_v_b3, hl_d_b3, hl_3_b3, hl_4_b3, hl_5_b3, hl_b3, hl_v_b4, hl_d_b4, hl_3_b4, hl_4_b4, hl_5_b4, hl_b4, hl_v_b5, hl_d_b5, hl_3_b5, hl_4_b5, hl_5_b5, hl_b5, hs_bv_i, hm_bv_i, hR, tX12_isJump R hR, tX12_kindAt R hR, tX12_leads R hR, tX12_size R hR, tlX12_mark_2 R hR, ih]
    all_goals rfl
set_option maxHeartbeats 4000000 in
theorem tjX12_mark_146 (R : Nat → Nat → Nat) (hR : R 285 = hm_R) (rec : Int32 → hs_S → Option (hs_S)) (rec2 : Int32 → hm → Option (hm)) (hrec : ∀ (y0 : Int32) (g : hm), rec y0 (gm g R) = hl_v R (rec2 y0 g)) (v1 : Int32) (v4 : Int32) (g : hm) : jX12_mark_146 rec 285 v1 v4 (gm g R) = hl_v R (njX12_mark_146 rec2 v1 v4 g) := by
  unfold jX12_mark_146 njX12_mark_146
  simp only [gm_I, gm_R, gm_w, gm_kd, gm_ln, not_false_eq_true, if_true, ite_true, gk_285, gk_286, gk_287, gk_288, gk_289, gk_290, gk_291, gk_292, gk_293, gk_294, gk_295, gk_296, gk_297, gk_298, gk_299, gk_300, gk_301, gk_302, gk_303, gk_304, gk_305, gk_306, gk_307, gk_308, gk_309, gk_310, gk_311, gk_312, gk_313, gk_314, gk_315, gk_316, gk_317, gk_318, gk_319, gn_286, gn_287, gn_288, gn_289, gn_290, gn_291, gn_292, gn_293, gn_294, gn_295, gn_296, gn_297, gn_298, gn_299, gn_300, gn_301, gn_302, gn_303, gn_304, gn_305, gn_306, gn_307, gn_308, gn_309, gn_310, gn_311, gn_312, gn_313, gn_314, gn_315, gn_316, gn_317, gn_318, gn_319, gr_1, gr_5, gr_6, gr_7, gr_8, gr_9, gr_10, gr_11, gr_12, gr_13, gr_14, gr_15, gr_16, gr_17, gr_18, gr_19, gr_20, gr_21, gr_23, gr_24, gr_25, gr_26, gr_27, gr_28, gr_29, gr_30, gr_32, gr_34, gr_35, gr_41, gr_42, gr_43, gr_44, gr_45, gz_1, gz_5, gz_6, gz_7, gz_8, gz_9, gz_10, gz_11, gz_12, gz_13, gz_14, gz_15, gz_16, gz_17, gz_18, gz_19, gz_20, gz_21, gz_23, gz_24, gz_25, gz_26, gz_27, gz_28, gz_29, gz_30, gz_32, gz_34, gz_35, gz_41, gz_42, gz_43, gz_44, gz_45, hl_v_none, hl_v_ite, hl_d_none, hl_d_ite, hl_3_none, hl_3_ite, hl_4_none, hl_4_ite, hl_5_none, hl_5_ite, hl_v_some, hl_d_some, hl_3_some, hl_4_some, hl_5_some, hl_v_bv, hl_d_bv, hl_3_bv, hl_4_bv, hl_5_bv, hl_bv, hl_v_bd, hl_d_bd, hl_3_bd, hl_4_bd, hl_5_bd, hl_bd, hl_v_b3, hl_d_b3, hl_3_b3, hl_4_b3, hl_5_b3, hl_b3, hl_v_b4, hl_d_b4, hl_3_b4, hl_4_b4, hl_5_b4, hl_b4, hl_v_b5, hl_d_b5, hl_3_b5, hl_4_b5, hl_5_b5, hl_b5, hs_bv_i, hm_bv_i, hR, tX12_isJump R hR, tX12_kindAt R hR, tX12_leads R hR, tX12_size R hR, tlX12_mark_2 R hR, tlX12_mark_34 R hR, hrec]
  all_goals rfl
set_option maxHeartbeats 4000000 in
theorem tjX12_mark_138 (R : Nat → Nat → Nat) (hR : R 285 = hm_R) (rec : Int32 → hs_S → Option (hs_S)) (rec2 : Int32 → hm → Option (hm)) (hrec : ∀ (y0 : Int32) (g : hm), rec y0 (gm g R) = hl_v R (rec2 y0 g)) (v1 : Int32) (v4 : Int32) (g : hm) : jX12_mark_138 rec 285 v1 v4 (gm g R) = hl_v R (njX12_mark_138 rec2 v1 v4 g) := by
  unfold jX12_mark_138 njX12_mark_138
  simp only [gm_I, gm_R, gm_w, gm_kd, gm_ln, not_false_eq_true, if_true, ite_true, gk_285, gk_286, gk_287, gk_288, gk_289, gk_290, gk_291, gk_292, gk_293, gk_294, gk_295, gk_296, gk_297, gk_298, gk_299, gk_300, gk_301, gk_302, gk_303, gk_304, gk_305, gk_306, gk_307, gk_308, gk_309, gk_310, gk_311, gk_312, gk_313, gk_314, gk_315, gk_316, gk_317, gk_318, gk_319, gn_286, gn_287, gn_288, gn_289, gn_290, gn_291, gn_292, gn_293, gn_294, gn_295, gn_296, gn_297, gn_298, gn_299, gn_300, gn_301, gn_302, gn_303, gn_304, gn_305, gn_306, gn_307, gn_308, gn_309, gn_310, gn_311, gn_312, gn_313, gn_314, gn_315, gn_316, gn_317, gn_318, gn_319, gr_1, gr_5, gr_6, gr_7, gr_8, gr_9, gr_10, gr_11, gr_12, gr_13, gr_14, gr_15, gr_16, gr_17, gr_18, gr_19, gr_20, gr_21, gr_23, gr_24, gr_25, gr_26, gr_27, gr_28, gr_29, gr_30, gr_32, gr_34, gr_35, gr_41, gr_42, gr_43, gr_44, gr_45, gz_1, gz_5, gz_6, gz_7, gz_8, gz_9, gz_10, gz_11, gz_12, gz_13, gz_14, gz_15, gz_16, gz_17, gz_18, gz_19, gz_20, gz_21, gz_23, gz_24, gz_25, gz_26, gz_27, gz_28, gz_29, gz_30, gz_32, gz_34, gz_35, gz_41, gz_42, gz_43, gz_44, gz_45, hl_v_none, hl_v_ite, hl_d_none, hl_d_ite, hl_3_none, hl_3_ite, hl_4_none, hl_4_ite, hl_5_none, hl_5_ite, hl_v_some, hl_d_some, hl_3_some, hl_4_some, hl_5_some, hl_v_bv, hl_d_bv, hl_3_bv, hl_4_bv, hl_5_bv, hl_bv, hl_v_bd, hl_d_bd, hl_3_bd, hl_4_bd, hl_5_bd, hl_bd, hl_v_b3, hl_d_b3, hl_3_b3, hl_4_b3, hl_5_b3, hl_b3, hl_v_b4, hl_d_b4, hl_3_b4, hl_4_b4, hl_5_b4, hl_b4, hl_v_b5, hl_d_b5, hl_3_b5, hl_4_b5, hl_5_b5, hl_b5, hs_bv_i, hm_bv_i, hR, tX12_isJump R hR, tX12_kindAt R hR, tX12_leads R hR, tX12_size R hR, tlX12_mark_2 R hR, tlX12_mark_34 R hR, hrec, tjX12_mark_146 R hR rec rec2 hrec]
  all_goals rfl
set_option maxHeartbeats 4000000 in
theorem tjX12_mark_117 (R : Nat → Nat → Nat) (hR : R 285 = hm_R) (rec : Int32 → hs_S → Option (hs_S)) (rec2 : Int32 → hm → Option (hm)) (hrec : ∀ (y0 : Int32) (g : hm), rec y0 (gm g R) = hl_v R (rec2 y0 g)) (v1 : Int32) (v3 : Int32) (v4 : Int32) (g : hm) : jX12_mark_117 rec 285 v1 v3 v4 (gm g R) = hl_v R (njX12_mark_117 rec2 v1 v3 v4 g) := by
  unfold jX12_mark_117 njX12_mark_117
  simp only [gm_I, gm_R, gm_w, gm_kd, gm_ln, not_false_eq_true, if_true, ite_true, gk_285, gk_286, gk_287, gk_288, gk_289, gk_290, gk_291, gk_292, gk_293, gk_294, gk_295, gk_296, gk_297, gk_298, gk_299, gk_300, gk_301, gk_302, gk_303, gk_304, gk_305, gk_306, gk_307, gk_308, gk_309, gk_310, gk_311, gk_312, gk_313, gk_314, gk_315, gk_316, gk_317, gk_318, gk_319, gn_286, gn_287, gn_288, gn_289, gn_290, gn_291, gn_292, gn_293, gn_294, gn_295, gn_296, gn_297, gn_298, gn_299, gn_300, gn_301, gn_302, gn_303, gn_304, gn_305, gn_306, gn_307, gn_308, gn_309, gn_310, gn_311, gn_312, gn_313, gn_314, gn_315, gn_316, gn_317, gn_318, gn_319, gr_1, gr_5, gr_6, gr_7, gr_8, gr_9, gr_10, gr_11, gr_12, gr_13, gr_14, gr_15, gr_16, gr_17, gr_18, gr_19, gr_20, gr_21, gr_23, gr_24, gr_25, gr_26, gr_27, gr_28, gr_29, gr_30, gr_32, gr_34, gr_35, gr_41, gr_42, gr_43, gr_44, gr_45, gz_1, gz_5, gz_6, gz_7, gz_8, gz_9, gz_10, gz_11, gz_12, gz_13, gz_14, gz_15, gz_16, gz_17, gz_18, gz_19, gz_20, gz_21, gz_23, gz_24, gz_25, gz_26, gz_27, gz_28, gz_29, gz_30, gz_32, gz_34, gz_35, gz_41, gz_42, gz_43, gz_44, gz_45, hl_v_none, hl_v_ite, hl_d_none, hl_d_ite, hl_3_none, hl_3_ite, hl_4_none, hl_4_ite, hl_5_none, hl_5_ite, hl_v_some, hl_d_some, hl_3_some, hl_4_some, hl_5_some, hl_v_bv, hl_d_bv, hl_3_bv, hl_4_bv, hl_5_bv, hl_bv, hl_v_bd, hl_d_bd, hl_3_bd, hl_4_bd, hl_5_bd, hl_bd, hl_v_b3, hl_d_b3, hl_3_b3, hl_4_b3, hl_5_b3, hl_b3, hl_v_b4, hl_d_b4, hl_3_b4, hl_4_b4, hl_5_b4, hl_b4, hl_v_b5, hl_d_b5, hl_3_b5, hl_4_b5, hl_5_b5, hl_b5, hs_bv_i, hm_bv_i, hR, tX12_isJump R hR, tX12_kindAt R hR, tX12_leads R hR, tX12_size R hR, tlX12_mark_2 R hR, tlX12_mark_34 R hR, hrec, tjX12_mark_146 R hR rec rec2 hrec, tjX12_mark_138 R hR rec rec2 hrec]
  all_goals rfl
set_option maxHeartbeats 4000000 in
theorem tlX12_mark_73 (R : Nat → Nat → Nat) (hR : R 285 = hm_R) : ∀ (n : Nat) (v1 : Int32) (v2 : Int32) (g : hm), lX12_mark_73 n 285 v1 v2 (gm g R) = hl_v R (nlX12_mark_73 n v1 v2 g) := by
  intro n
  induction n with
  | zero => intros; rfl
  | succ n ih =>
    intro v1 v2 g
    rw [lX12_mark_73_s, nlX12_mark_73_s]
    simp only [gm_I, gm_R, gm_w, gm_kd, gm_ln, not_false_eq_true, if_true, ite_true, gk_285, gk_286, gk_287, gk_288, gk_289, gk_290, gk_291, gk_292, gk_293, gk_294, gk_295, gk_296, gk_297, gk_298, gk_299, gk_300, gk_301, gk_302, gk_303, gk_304, gk_305, gk_306, gk_307, gk_308, gk_309, gk_310, gk_311, gk_312, gk_313, gk_314, gk_315, gk_316, gk_317, gk_318, gk_319, gn_286, gn_287, gn_288, gn_289, gn_290, gn_291, gn_292, gn_293, gn_294, gn_295, gn_296, gn_297, gn_298, gn_299, gn_300, gn_301, gn_302, gn_303, gn_304, gn_305, gn_306, gn_307, gn_308, gn_309, gn_310, gn_311, gn_312, gn_313, gn_314, gn_315, gn_316, gn_317, gn_318, gn_319, gr_1, gr_5, gr_6, gr_7, gr_8, gr_9, gr_10, gr_11, gr_12, gr_13, gr_14, gr_15, gr_16, gr_17, gr_18, gr_19, gr_20, gr_21, gr_23, gr_24, gr_25, gr_26, gr_27, gr_28, gr_29, gr_30, gr_32, gr_34, gr_35, gr_41, gr_42, gr_43, gr_44, gr_45, gz_1, gz_5, gz_6, gz_7, gz_8, gz_9, gz_10, gz_11, gz_12, gz_13, gz_14, gz_15, gz_16, gz_17, gz_18, gz_19, gz_20, gz_21, gz_23, gz_24, gz_25, gz_26, gz_27, gz_28, gz_29, gz_30, gz_32, gz_34, gz_35, gz_41, gz_42, gz_43, gz_44, gz_45, hl_v_none, hl_v_ite, hl_d_none, hl_d_ite, hl_3_none, hl_3_ite, hl_4_none, hl_4_ite, hl_5_none, hl_5_ite, hl_v_some, hl_d_some, hl_3_some, hl_4_some, hl_5_some, hl_v_bv, hl_d_bv, hl_3_bv, hl_4_bv, hl_5_bv, hl_bv, hl_v_bd, hl_d_bd, hl_3_bd, hl_4_bd, hl_5_bd, hl_bd, hl_v_b3, hl_d_b3, hl_3_b3, hl_4_b3, hl_5_b3, hl_b3, hl_v_b4, hl_d_b4, hl_3_b4, hl_4_b4, hl_5_b4, hl_b4, hl_v_b5, hl_d_b5, hl_3_b5, hl_4_b5, hl_5_b5, hl_b5, hs_bv_i, hm_bv_i, hR, tX12_isJump R hR, tX12_kindAt R hR, tX12_leads R hR, tX12_size R hR, tlX12_mark_2 R hR, tlX12_mark_34 R hR, ih, tjX12_mark_146 R hR _ _ (fun y0 g => ih v1 y0 g), tjX12_mark_138 R hR _ _ (fun y0 g => ih v1 y0 g), tjX12_mark_117 R hR _ _ (fun y0 g => ih v1 y0 g)]
    all_goals rfl
set_option maxHeartbeats 4000000 in
theorem tX12_mark (R : Nat → Nat → Nat) (hR : R 285 = hm_R) (v1 : Int32) (g : hm) : fX12_mark 285 v1 (gm g R) = hl_v R (nX12_mark v1 g) := by
  unfold fX12_mark nX12_mark
  simp only [gm_I, gm_R, gm_w, gm_kd, gm_ln, not_false_eq_true, if_true, ite_true, gk_285, gk_286, gk_287, gk_288, gk_289, gk_290, gk_291, gk_292, gk_293, gk_294, gk_295, gk_296, gk_297, gk_298, gk_299, gk_300, gk_301, gk_302, gk_303, gk_304, gk_305, gk_306, gk_307, gk_308, gk_309, gk_310, gk_311, gk_312, gk_313, gk_314, gk_315, gk_316, gk_317, gk_318, gk_319, gn_286, gn_287, gn_288, gn_289, gn_290, gn_291, gn_292, gn_293, gn_294, gn_295, gn_296, gn_297, gn_298, gn_299, gn_300, gn_301, gn_302, gn_303, gn_304, gn_305, gn_306, gn_307, gn_308, gn_309, gn_310, gn_311, gn_312, gn_313, gn_314, gn_315, gn_316, gn_317, gn_318, gn_319, gr_1, gr_5, gr_6, gr_7, gr_8, gr_9, gr_10, gr_11, gr_12, gr_13, gr_14, gr_15, gr_16, gr_17, gr_18, gr_19, gr_20, gr_21, gr_23, gr_24, gr_25, gr_26, gr_27, gr_28, gr_29, gr_30, gr_32, gr_34, gr_35, gr_41, gr_42, gr_43, gr_44, gr_45, gz_1, gz_5, gz_6, gz_7, gz_8, gz_9, gz_10, gz_11, gz_12, gz_13, gz_14, gz_15, gz_16, gz_17, gz_18, gz_19, gz_20, gz_21, gz_23, gz_24, gz_25, gz_26, gz_27, gz_28, gz_29, gz_30, gz_32, gz_34, gz_35, gz_41, gz_42, gz_43, gz_44, gz_45, hl_v_none, hl_v_ite, hl_d_none, hl_d_ite, hl_3_none, hl_3_ite, hl_4_none, hl_4_ite, hl_5_none, hl_5_ite, hl_v_some, hl_d_some, hl_3_some, hl_4_some, hl_5_some, hl_v_bv, hl_d_bv, hl_3_bv, hl_4_bv, hl_5_bv, hl_bv, hl_v_bd, hl_d_bd, hl_3_bd, hl_4_bd, hl_5_bd, hl_bd, hl_v_b3, hl_d_b3, hl_3_b3, hl_4_b3, hl_5_b3, hl_b3, hl_v_b4, hl_d_b4, hl_3_b4, hl_4_b4, hl_5_b4, hl_b4, hl_v_b5, hl_d_b5, hl_3_b5, hl_4_b5, hl_5_b5, hl_b5, hs_bv_i, hm_bv_i, hR, tX12_isJump R hR, tX12_kindAt R hR, tX12_leads R hR, tX12_size R hR, tlX12_mark_2 R hR, tlX12_mark_34 R hR, tlX12_mark_73 R hR]
  all_goals rfl
def nlX12_sum_5 : Nat → Int32 → Int32 → Int32 → hm → Option (Int32 × hm)
  | 0, _, _, _, _ => none
  | n + 1, v1, v3, v4, g =>
    hm_bd (nX12_kindAt v1 v4 g) fun r2 g1 =>
    if hs_in r2 256 = true then
    hm_bd (nX12_kindAt v1 v4 g1) fun r4 g3 =>
    hm_bd (nX12_size r4 g3) fun r6 g5 =>
    if hs_in v1 8 = true then
    if (g5 289 v1.toNatClampNeg) ≤ (v4 + r6) then (
      some ((v3 + (g1 312 r2.toNatClampNeg)), g5)
    ) else (
      if hs_in (v4 + r6) 2008 = true then
      if (g5 294 (v4 + r6).toNatClampNeg) = 0 then (
        nlX12_sum_5 n v1 (v3 + (g1 312 r2.toNatClampNeg)) (v4 + r6) g5
      ) else (
        some ((v3 + (g1 312 r2.toNatClampNeg)), g5)
      )
      else none
    )
    else none else none
theorem nlX12_sum_5_s (n : Nat) (v1 : Int32) (v3 : Int32) (v4 : Int32) (g : hm) : nlX12_sum_5 (n + 1) v1 v3 v4 g =
    hm_bd (nX12_kindAt v1 v4 g) fun r2 g1 =>
    if hs_in r2 256 = true then
    hm_bd (nX12_kindAt v1 v4 g1) fun r4 g3 =>
    hm_bd (nX12_size r4 g3) fun r6 g5 =>
    if hs_in v1 8 = true then
    if (g5 289 v1.toNatClampNeg) ≤ (v4 + r6) then (
      some ((v3 + (g1 312 r2.toNatClampNeg)), g5)
    ) else (
      if hs_in (v4 + r6) 2008 = true then
      if (g5 294 (v4 + r6).toNatClampNeg) = 0 then (
        nlX12_sum_5 n v1 (v3 + (g1 312 r2.toNatClampNeg)) (v4 + r6) g5
      ) else (
        some ((v3 + (g1 312 r2.toNatClampNeg)), g5)
      )
      else none
    )
    else none else none := rfl
def nX12_sum (v1 : Int32) (v2 : Int32) (g : hm) : Option (Int32 × hm) :=
  hm_bd (nlX12_sum_5 hs_N v1 (0 : Int32) v2 g) fun x7 g9 =>
  some (x7, g9)
set_option maxHeartbeats 4000000 in
theorem tlX12_sum_5 (R : Nat → Nat → Nat) (hR : R 285 = hm_R) : ∀ (n : Nat) (v1 : Int32) (v3 : Int32) (v4 : Int32) (g : hm), lX12_sum_5 n 285 v1 v3 v4 (gm g R) = hl_d R (nlX12_sum_5 n v1 v3 v4 g) := by
  intro n
  induction n with
  | zero => intros; rfl
  | succ n ih =>
    intro v1 v3 v4 g
    rw [lX12_sum_5_s, nlX12_sum_5_s]
    simp only [gm_I, gm_R, gm_w, gm_kd, gm_ln, not_false_eq_true, if_true, ite_true, gk_285, gk_286, gk_287, gk_288, gk_289, gk_290, gk_291, gk_292, gk_293, gk_294, gk_295, gk_296, gk_297, gk_298, gk_299, gk_300, gk_301, gk_302, gk_303, gk_304, gk_305, gk_306, gk_307, gk_308, gk_309, gk_310, gk_311, gk_312, gk_313, gk_314, gk_315, gk_316, gk_317, gk_318, gk_319, gn_286, gn_287, gn_288, gn_289, gn_290, gn_291, gn_292, gn_293, gn_294, gn_295, gn_296, gn_297, gn_298, gn_299, gn_300, gn_301, gn_302, gn_303, gn_304, gn_305, gn_306, gn_307, gn_308, gn_309, gn_310, gn_311, gn_312, gn_313, gn_314, gn_315, gn_316, gn_317, gn_318, gn_319, gr_1, gr_5, gr_6, gr_7, gr_8, gr_9, gr_10, gr_11, gr_12, gr_13, gr_14, gr_15, gr_16, gr_17, gr_18, gr_19, gr_20, gr_21, gr_23, gr_24, gr_25, gr_26, gr_27, gr_28, gr_29, gr_30, gr_32, gr_34, gr_35, gr_41, gr_42, gr_43, gr_44, gr_45, gz_1, gz_5, gz_6, gz_7, gz_8, gz_9, gz_10, gz_11, gz_12, gz_13, gz_14, gz_15, gz_16, gz_17, gz_18, gz_19, gz_20, gz_21, gz_23, gz_24, gz_25, gz_26, gz_27, gz_28, gz_29, gz_30, gz_32, gz_34, gz_35, gz_41, gz_42, gz_43, gz_44, gz_45, hl_v_none, hl_v_ite, hl_d_none, hl_d_ite, hl_3_none, hl_3_ite, hl_4_none, hl_4_ite, hl_5_none, hl_5_ite, hl_v_some, hl_d_some, hl_3_some, hl_4_some, hl_5_some, hl_v_bv, hl_d_bv, hl_3_bv, hl_4_bv, hl_5_bv, hl_bv, hl_v_bd, hl_d_bd, hl_3_bd, hl_4_bd, hl_5_bd, hl_bd, hl_v_b3, hl_d_b3, hl_3_b3, hl_4_b3, hl_5_b3, hl_b3, hl_v_b4, hl_d_b4, hl_3_b4, hl_4_b4, hl_5_b4, hl_b4, hl_v_b5, hl_d_b5, hl_3_b5, hl_4_b5, hl_5_b5, hl_b5, hs_bv_i, hm_bv_i, hR, tX12_kindAt R hR, tX12_size R hR, ih]
    all_goals rfl
set_option maxHeartbeats 4000000 in
theorem tX12_sum (R : Nat → Nat → Nat) (hR : R 285 = hm_R) (v1 : Int32) (v2 : Int32) (g : hm) : fX12_sum 285 v1 v2 (gm g R) = hl_d R (nX12_sum v1 v2 g) := by
  unfold fX12_sum nX12_sum
  simp only [gm_I, gm_R, gm_w, gm_kd, gm_ln, not_false_eq_true, if_true, ite_true, gk_285, gk_286, gk_287, gk_288, gk_289, gk_290, gk_291, gk_292, gk_293, gk_294, gk_295, gk_296, gk_297, gk_298, gk_299, gk_300, gk_301, gk_302, gk_303, gk_304, gk_305, gk_306, gk_307, gk_308, gk_309, gk_310, gk_311, gk_312, gk_313, gk_314, gk_315, gk_316, gk_317, gk_318, gk_319, gn_286, gn_287, gn_288, gn_289, gn_290, gn_291, gn_292, gn_293, gn_294, gn_295, gn_296, gn_297, gn_298, gn_299, gn_300, gn_301, gn_302, gn_303, gn_304, gn_305, gn_306, gn_307, gn_308, gn_309, gn_310, gn_311, gn_312, gn_313, gn_314, gn_315, gn_316, gn_317, gn_318, gn_319, gr_1, gr_5, gr_6, gr_7, gr_8, gr_9, gr_10, gr_11, gr_12, gr_13, gr_14, gr_15, gr_16, gr_17, gr_18, gr_19, gr_20, gr_21, gr_23, gr_24, gr_25, gr_26, gr_27, gr_28, gr_29, gr_30, gr_32, gr_34, gr_35, gr_41, gr_42, gr_43, gr_44, gr_45, gz_1, gz_5, gz_6, gz_7, gz_8, gz_9, gz_10, gz_11, gz_12, gz_13, gz_14, gz_15, gz_16, gz_17, gz_18, gz_19, gz_20, gz_21, gz_23, gz_24, gz_25, gz_26, gz_27, gz_28, gz_29, gz_30, gz_32, gz_34, gz_35, gz_41, gz_42, gz_43, gz_44, gz_45, hl_v_none, hl_v_ite, hl_d_none, hl_d_ite, hl_3_none, hl_3_ite, hl_4_none, hl_4_ite, hl_5_none, hl_5_ite, hl_v_some, hl_d_some, hl_3_some, hl_4_some, hl_5_some, hl_v_bv, hl_d_bv, hl_3_bv, hl_4_bv, hl_5_bv, hl_bv, hl_v_bd, hl_d_bd, hl_3_bd, hl_4_bd, hl_5_bd, hl_bd, hl_v_b3, hl_d_b3, hl_3_b3, hl_4_b3, hl_5_b3, hl_b3, hl_v_b4, hl_d_b4, hl_3_b4, hl_4_b4, hl_5_b4, hl_b4, hl_v_b5, hl_d_b5, hl_3_b5, hl_4_b5, hl_5_b5, hl_b5, hs_bv_i, hm_bv_i, hR, tX12_kindAt R hR, tX12_size R hR, tlX12_sum_5 R hR]
  all_goals rfl
