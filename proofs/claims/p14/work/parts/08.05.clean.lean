def nX12_reckoned (v0 : Int32) (v1 : Int32) (v2 : Int32) (g : hm) : Option (Int32 × hm) :=
  if v0 = (96 : Int32) then (
    some ((v1 + v2), g)
  ) else (
  if v0 = (100 : Int32) then (
    some ((v1 - v2), g)
  ) else (
  if v0 = (104 : Int32) then (
    some ((v1 * v2), g)
  ) else (
  if v0 = (108 : Int32) then (
    if ¬ v2 = 0 then
    some ((v1 / v2), g)
    else none
  ) else (
  if v0 = (112 : Int32) then (
    if ¬ v2 = 0 then
    some ((v1 - v1 / v2 * v2), g)
    else none
  ) else (
  if v0 = (126 : Int32) then (
    some ((v1 &&& v2), g)
  ) else (
  if v0 = (128 : Int32) then (
    some ((v1 ||| v2), g)
  ) else (
    some ((v1 ^^^ v2), g)
  )))))))
set_option maxHeartbeats 4000000 in
theorem tX12_reckoned (R : Nat → Nat → Nat) (hR : R 285 = hm_R) (v0 : Int32) (v1 : Int32) (v2 : Int32) (g : hm) : fX12_reckoned v0 v1 v2 (gm g R) = hl_d R (nX12_reckoned v0 v1 v2 g) := by
  unfold fX12_reckoned nX12_reckoned
  simp only [gm_I, gm_R, gm_w, gm_kd, gm_ln, not_false_eq_true, if_true, ite_true, gk_285, gk_286, gk_287, gk_288, gk_289, gk_290, gk_291, gk_292, gk_293, gk_294, gk_295, gk_296, gk_297, gk_298, gk_299, gk_300, gk_301, gk_302, gk_303, gk_304, gk_305, gk_306, gk_307, gk_308, gk_309, gk_310, gk_311, gk_312, gk_313, gk_314, gk_315, gk_316, gk_317, gk_318, gk_319, gn_286, gn_287, gn_288, gn_289, gn_290, gn_291, gn_292, gn_293, gn_294, gn_295, gn_296, gn_297, gn_298, gn_299, gn_300, gn_301, gn_302, gn_303, gn_304, gn_305, gn_306, gn_307, gn_308, gn_309, gn_310, gn_311, gn_312, gn_313, gn_314, gn_315, gn_316, gn_317, gn_318, gn_319, gr_1, gr_5, gr_6, gr_7, gr_8, gr_9, gr_10, gr_11, gr_12, gr_13, gr_14, gr_15, gr_16, gr_17, gr_18, gr_19, gr_20, gr_21, gr_23, gr_24, gr_25, gr_26, gr_27, gr_28, gr_29, gr_30, gr_32, gr_34, gr_35, gr_41, gr_42, gr_43, gr_44, gr_45, gz_1, gz_5, gz_6, gz_7, gz_8, gz_9, gz_10, gz_11, gz_12, gz_13, gz_14, gz_15, gz_16, gz_17, gz_18, gz_19, gz_20, gz_21, gz_23, gz_24, gz_25, gz_26, gz_27, gz_28, gz_29, gz_30, gz_32, gz_34, gz_35, gz_41, gz_42, gz_43, gz_44, gz_45, hl_v_none, hl_v_ite, hl_d_none, hl_d_ite, hl_3_none, hl_3_ite, hl_4_none, hl_4_ite, hl_5_none, hl_5_ite, hl_v_some, hl_d_some, hl_3_some, hl_4_some, hl_5_some, hl_v_bv, hl_d_bv, hl_3_bv, hl_4_bv, hl_5_bv, hl_bv, hl_v_bd, hl_d_bd, hl_3_bd, hl_4_bd, hl_5_bd, hl_bd, hl_v_b3, hl_d_b3, hl_3_b3, hl_4_b3, hl_5_b3, hl_b3, hl_v_b4, hl_d_b4, hl_3_b4, hl_4_b4, hl_5_b4, hl_b4, hl_v_b5, hl_d_b5, hl_3_b5, hl_4_b5, hl_5_b5, hl_b5, hs_bv_i, hm_bv_i, hR]
  all_goals first | rfl | (split <;> simp_all)
def njX12_plain_230 (v2 : Int32) (v4 : Int32) (g : hm) : Option (hm) :=
  if hs_in v2 60 = true then
  some (hm_w g 316 v2.toNatClampNeg v4)
  else none
def njX12_plain_218 (v1 : Int32) (v2 : Int32) (v4 : Int32) (v5 : Int32) (v6 : Int32) (g : hm) : Option (hm) :=
  hm_bd (nX12_reckoned v1 v6 v5 g) fun r10 g9 =>
  hm_bv (nX12_push r10 g9) fun g11 =>
  njX12_plain_230 v2 v4 g11
def njX12_plain_207 (v1 : Int32) (v2 : Int32) (v4 : Int32) (v5 : Int32) (v6 : Int32) (g : hm) : Option (hm) :=
  if v5 = 0 then (
    some (hm_w g 285 47 (1 : Int32))
  ) else (
    njX12_plain_218 v1 v2 v4 v5 v6 g
  )
def njX12_plain_24 (v1 : Int32) (v2 : Int32) (s0 : Int32) (g : hm) : Option (hm) :=
  if hs_in v2 60 = true then
  hm_bd (nX12_size v1 g) fun r4 g3 =>
  if v1 = (16 : Int32) then (
    hm_bd (nX12_signed s0 g3) fun r34 g33 =>
    hm_bv (nX12_push r34 g33) fun g35 =>
    njX12_plain_230 v2 ((g 316 v2.toNatClampNeg) + r4) g35
  ) else (
    if v1 = (17 : Int32) then (
      hm_bd (nX12_codeAt (2 : Int32) g3) fun r28 g27 =>
      hm_bd (nX12_signedTwo (((256 : Int32) * s0) + r28) g27) fun r30 g29 =>
      hm_bv (nX12_push r30 g29) fun g31 =>
      njX12_plain_230 v2 ((g 316 v2.toNatClampNeg) + r4) g31
    ) else (
      if v1 = (21 : Int32) then (
        if hs_in (((20 : Int32) * v2) + s0) 1200 = true then
        hm_bv (nX12_push (g3 319 (((20 : Int32) * v2) + s0).toNatClampNeg) g3) fun g25 =>
        njX12_plain_230 v2 ((g 316 v2.toNatClampNeg) + r4) g25
        else none
      ) else (
        if v1 = (54 : Int32) then (
          hm_bd (nX12_pop g3) fun r24 g23 =>
          if hs_in (((20 : Int32) * v2) + s0) 1200 = true then
          njX12_plain_230 v2 ((g 316 v2.toNatClampNeg) + r4) (hm_w g23 319 (((20 : Int32) * v2) + s0).toNatClampNeg r24)
          else none
        ) else (
          if v1 = (87 : Int32) then (
            hm_bd (nX12_pop g3) fun r22 g21 =>
            njX12_plain_230 v2 ((g 316 v2.toNatClampNeg) + r4) g21
          ) else (
            if v1 = (89 : Int32) then (
              hm_bd (nX12_top g3) fun r18 g17 =>
              hm_bv (nX12_push r18 g17) fun g19 =>
              njX12_plain_230 v2 ((g 316 v2.toNatClampNeg) + r4) g19
            ) else (
              if v1 = (116 : Int32) then (
                hm_bd (nX12_pop g3) fun r14 g13 =>
                hm_bv (nX12_push (-r14) g13) fun g15 =>
                njX12_plain_230 v2 ((g 316 v2.toNatClampNeg) + r4) g15
              ) else (
                if v1 = 0 then (
                  njX12_plain_230 v2 ((g 316 v2.toNatClampNeg) + r4) g3
                ) else (
                  hm_bd (nX12_pop g3) fun r6 g5 =>
                  hm_bd (nX12_pop g5) fun r8 g7 =>
                  if v1 = (108 : Int32) then (
                    njX12_plain_207 v1 v2 ((g 316 v2.toNatClampNeg) + r4) r6 r8 g7
                  ) else (
                    if v1 = (112 : Int32) then (
                      njX12_plain_207 v1 v2 ((g 316 v2.toNatClampNeg) + r4) r6 r8 g7
                    ) else (
                      njX12_plain_218 v1 v2 ((g 316 v2.toNatClampNeg) + r4) r6 r8 g7
                    )
                  )
                )
              )
            )
          )
        )
      )
    )
  )
  else none
def nX12_plain (v1 : Int32) (g : hm) : Option (hm) :=
  hm_bd (nX12_size v1 g) fun r2 g1 =>
  if r2 ≤ (1 : Int32) then (
    njX12_plain_24 v1 ((g 285 40) - (1 : Int32)) (0 : Int32) g1
  ) else (
    hm_bd (nX12_codeAt (1 : Int32) g1) fun r38 g37 =>
    njX12_plain_24 v1 ((g 285 40) - (1 : Int32)) r38 g37
  )
set_option maxHeartbeats 4000000 in
theorem tjX12_plain_230 (R : Nat → Nat → Nat) (hR : R 285 = hm_R) (v2 : Int32) (v4 : Int32) (g : hm) : jX12_plain_230 285 v2 v4 (gm g R) = hl_v R (njX12_plain_230 v2 v4 g) := by
  unfold jX12_plain_230 njX12_plain_230
  simp only [gm_I, gm_R, gm_w, gm_kd, gm_ln, not_false_eq_true, if_true, ite_true, gk_285, gk_286, gk_287, gk_288, gk_289, gk_290, gk_291, gk_292, gk_293, gk_294, gk_295, gk_296, gk_297, gk_298, gk_299, gk_300, gk_301, gk_302, gk_303, gk_304, gk_305, gk_306, gk_307, gk_308, gk_309, gk_310, gk_311, gk_312, gk_313, gk_314, gk_315, gk_316, gk_317, gk_318, gk_319, gn_286, gn_287, gn_288, gn_289, gn_290, gn_291, gn_292, gn_293, gn_294, gn_295, gn_296, gn_297, gn_298, gn_299, gn_300, gn_301, gn_302, gn_303, gn_304, gn_305, gn_306, gn_307, gn_308, gn_309, gn_310, gn_311, gn_312, gn_313, gn_314, gn_315, gn_316, gn_317, gn_318, gn_319, gr_1, gr_5, gr_6, gr_7, gr_8, gr_9, gr_10, gr_11, gr_12, gr_13, gr_14, gr_15, gr_16, gr_17, gr_18, gr_19, gr_20, gr_21, gr_23, gr_24, gr_25, gr_26, gr_27, gr_28, gr_29, gr_30, gr_32, gr_34, gr_35, gr_41, gr_42, gr_43, gr_44, gr_45, gz_1, gz_5, gz_6, gz_7, gz_8, gz_9, gz_10, gz_11, gz_12, gz_13, gz_14, gz_15, gz_16, gz_17, gz_18, gz_19, gz_20, gz_21, gz_23, gz_24, gz_25, gz_26, gz_27, gz_28, gz_29, gz_30, gz_32, gz_34, gz_35, gz_41, gz_42, gz_43, gz_44, gz_45, hl_v_none, hl_v_ite, hl_d_none, hl_d_ite, hl_3_none, hl_3_ite, hl_4_none, hl_4_ite, hl_5_none, hl_5_ite, hl_v_some, hl_d_some, hl_3_some, hl_4_some, hl_5_some, hl_v_bv, hl_d_bv, hl_3_bv, hl_4_bv, hl_5_bv, hl_bv, hl_v_bd, hl_d_bd, hl_3_bd, hl_4_bd, hl_5_bd, hl_bd, hl_v_b3, hl_d_b3, hl_3_b3, hl_4_b3, hl_5_b3, hl_b3, hl_v_b4, hl_d_b4, hl_3_b4, hl_4_b4, hl_5_b4, hl_b4, hl_v_b5, hl_d_b5, hl_3_b5, hl_4_b5, hl_5_b5, hl_b5, hs_bv_i, hm_bv_i, hR, tX12_codeAt R hR, tX12_pop R hR, tX12_push R hR, tX12_reckoned R hR, tX12_signed R hR, tX12_signedTwo R hR, tX12_size R hR, tX12_top R hR]
  all_goals first | rfl | (split <;> simp_all)
set_option maxHeartbeats 4000000 in
theorem tjX12_plain_218 (R : Nat → Nat → Nat) (hR : R 285 = hm_R) (v1 : Int32) (v2 : Int32) (v4 : Int32) (v5 : Int32) (v6 : Int32) (g : hm) : jX12_plain_218 285 v1 v2 v4 v5 v6 (gm g R) = hl_v R (njX12_plain_218 v1 v2 v4 v5 v6 g) := by
  unfold jX12_plain_218 njX12_plain_218
  simp only [gm_I, gm_R, gm_w, gm_kd, gm_ln, not_false_eq_true, if_true, ite_true, gk_285, gk_286, gk_287, gk_288, gk_289, gk_290, gk_291, gk_292, gk_293, gk_294, gk_295, gk_296, gk_297, gk_298, gk_299, gk_300, gk_301, gk_302, gk_303, gk_304, gk_305, gk_306, gk_307, gk_308, gk_309, gk_310, gk_311, gk_312, gk_313, gk_314, gk_315, gk_316, gk_317, gk_318, gk_319, gn_286, gn_287, gn_288, gn_289, gn_290, gn_291, gn_292, gn_293, gn_294, gn_295, gn_296, gn_297, gn_298, gn_299, gn_300, gn_301, gn_302, gn_303, gn_304, gn_305, gn_306, gn_307, gn_308, gn_309, gn_310, gn_311, gn_312, gn_313, gn_314, gn_315, gn_316, gn_317, gn_318, gn_319, gr_1, gr_5, gr_6, gr_7, gr_8, gr_9, gr_10, gr_11, gr_12, gr_13, gr_14, gr_15, gr_16, gr_17, gr_18, gr_19, gr_20, gr_21, gr_23, gr_24, gr_25, gr_26, gr_27, gr_28, gr_29, gr_30, gr_32, gr_34, gr_35, gr_41, gr_42, gr_43, gr_44, gr_45, gz_1, gz_5, gz_6, gz_7, gz_8, gz_9, gz_10, gz_11, gz_12, gz_13, gz_14, gz_15, gz_16, gz_17, gz_18, gz_19, gz_20, gz_21, gz_23, gz_24, gz_25, gz_26, gz_27, gz_28, gz_29, gz_30, gz_32, gz_34, gz_35, gz_41, gz_42, gz_43, gz_44, gz_45, hl_v_none, hl_v_ite, hl_d_none, hl_d_ite, hl_3_none, hl_3_ite, hl_4_none, hl_4_ite, hl_5_none, hl_5_ite, hl_v_some, hl_d_some, hl_3_some, hl_4_some, hl_5_some, hl_v_bv, hl_d_bv, hl_3_bv, hl_4_bv, hl_5_bv, hl_bv, hl_v_bd, hl_d_bd, hl_3_bd, hl_4_bd, hl_5_bd, hl_bd, hl_v_b3, hl_d_b3, hl_3_b3, hl_4_b3, hl_5_b3, hl_b3, hl_v_b4, hl_d_b4, hl_3_b4, hl_4_b4, hl_5_b4, hl_b4, hl_v_b5, hl_d_b5, hl_3_b5, hl_4_b5, hl_5_b5, hl_b5, hs_bv_i, hm_bv_i, hR, tX12_codeAt R hR, tX12_pop R hR, tX12_push R hR, tX12_reckoned R hR, tX12_signed R hR, tX12_signedTwo R hR, tX12_size R hR, tX12_top R hR, tjX12_plain_230 R hR]
  all_goals first | rfl | (split <;> simp_all)
set_option maxHeartbeats 4000000 in
theorem tjX12_plain_207 (R : Nat → Nat → Nat) (hR : R 285 = hm_R) (v1 : Int32) (v2 : Int32) (v4 : Int32) (v5 : Int32) (v6 : Int32) (g : hm) : jX12_plain_207 285 v1 v2 v4 v5 v6 (gm g R) = hl_v R (njX12_plain_207 v1 v2 v4 v5 v6 g) := by
  unfold jX12_plain_207 njX12_plain_207
  simp only [gm_I, gm_R, gm_w, gm_kd, gm_ln, not_false_eq_true, if_true, ite_true, gk_285, gk_286, gk_287, gk_288, gk_289, gk_290, gk_291, gk_292, gk_293, gk_294, gk_295, gk_296, gk_297, gk_298, gk_299, gk_300, gk_301, gk_302, gk_303, gk_304, gk_305, gk_306, gk_307, gk_308, gk_309, gk_310, gk_311, gk_312, gk_313, gk_314, gk_315, gk_316, gk_317, gk_318, gk_319, gn_286, gn_287, gn_288, gn_289, gn_290, gn_291, gn_292, gn_293, gn_294, gn_295, gn_296, gn_297, gn_298, gn_299, gn_300, gn_301, gn_302, gn_303, gn_304, gn_305, gn_306, gn_307, gn_308, gn_309, gn_310, gn_311, gn_312, gn_313, gn_314, gn_315, gn_316, gn_317, gn_318, gn_319, gr_1, gr_5, gr_6, gr_7, gr_8, gr_9, gr_10, gr_11, gr_12, gr_13, gr_14, gr_15, gr_16, gr_17, gr_18, gr_19, gr_20, gr_21, gr_23, gr_24, gr_25, gr_26, gr_27, gr_28, gr_29, gr_30, gr_32, gr_34, gr_35, gr_41, gr_42, gr_43, gr_44, gr_45, gz_1, gz_5, gz_6, gz_7, gz_8, gz_9, gz_10, gz_11, gz_12, gz_13, gz_14, gz_15, gz_16, gz_17, gz_18, gz_19, gz_20, gz_21, gz_23, gz_24, gz_25, gz_26, gz_27, gz_28, gz_29, gz_30, gz_32, gz_34, gz_35, gz_41, gz_42, gz_43, gz_44, gz_45, hl_v_none, hl_v_ite, hl_d_none, hl_d_ite, hl_3_none, hl_3_ite, hl_4_none, hl_4_ite, hl_5_none, hl_5_ite, hl_v_some, hl_d_some, hl_3_some, hl_4_some, hl_5_some, hl_v_bv, hl_d_bv, hl_3_bv, hl_4_bv, hl_5_bv, hl_bv, hl_v_bd, hl_d_bd, hl_3_bd, hl_4_bd, hl_5_bd, hl_bd, hl_v_b3, hl_d_b3, hl_3_b3, hl_4_b3, hl_5_b3, hl_b3, hl_v_b4, hl_d_b4, hl_3_b4, hl_4_b4, hl_5_b4, hl_b4, hl_v_b5, hl_d_b5, hl_3_b5, hl_4_b5, hl_5_b5, hl_b5, hs_bv_i, hm_bv_i, hR, tX12_codeAt R hR, tX12_pop R hR, tX12_push R hR, tX12_reckoned R hR, tX12_signed R hR, tX12_signedTwo R hR, tX12_size R hR, tX12_top R hR, tjX12_plain_230 R hR, tjX12_plain_218 R hR]
  all_goals first | rfl | (split <;> simp_all)
set_option maxHeartbeats 4000000 in
theorem tjX12_plain_24 (R : Nat → Nat → Nat) (hR : R 285 = hm_R) (v1 : Int32) (v2 : Int32) (s0 : Int32) (g : hm) : jX12_plain_24 285 v1 v2 s0 (gm g R) = hl_v R (njX12_plain_24 v1 v2 s0 g) := by
  unfold jX12_plain_24 njX12_plain_24
  simp only [gm_I, gm_R, gm_w, gm_kd, gm_ln, not_false_eq_true, if_true, ite_true, gk_285, gk_286, gk_287, gk_288, gk_289, gk_290, gk_291, gk_292, gk_293, gk_294, gk_295, gk_296, gk_297, gk_298, gk_299, gk_300, gk_301, gk_302, gk_303, gk_304, gk_305, gk_306, gk_307, gk_308, gk_309, gk_310, gk_311, gk_312, gk_313, gk_314, gk_315, gk_316, gk_317, gk_318, gk_319, gn_286, gn_287, gn_288, gn_289, gn_290, gn_291, gn_292, gn_293, gn_294, gn_295, gn_296, gn_297, gn_298, gn_299, gn_300, gn_301, gn_302, gn_303, gn_304, gn_305, gn_306, gn_307, gn_308, gn_309, gn_310, gn_311, gn_312, gn_313, gn_314, gn_315, gn_316, gn_317, gn_318, gn_319, gr_1, gr_5, gr_6, gr_7, gr_8, gr_9, gr_10, gr_11, gr_12, gr_13, gr_14, gr_15, gr_16, gr_17, gr_18, gr_19, gr_20, gr_21, gr_23, gr_24, gr_25, gr_26, gr_27, gr_28, gr_29, gr_30, gr_32, gr_34, gr_35, gr_41, gr_42, gr_43, gr_44, gr_45, gz_1, gz_5, gz_6, gz_7, gz_8, gz_9, gz_10, gz_11, gz_12, gz_13, gz_14, gz_15, gz_16, gz_17, gz_18, gz_19, gz_20, gz_21, gz_23, gz_24, gz_25, gz_26, gz_27, gz_28, gz_29, gz_30, gz_32, gz_34, gz_35, gz_41, gz_42, gz_43, gz_44, gz_45, hl_v_none, hl_v_ite, hl_d_none, hl_d_ite, hl_3_none, hl_3_ite, hl_4_none, hl_4_ite, hl_5_none, hl_5_ite, hl_v_some, hl_d_some, hl_3_some, hl_4_some, hl_5_some, hl_v_bv, hl_d_bv, hl_3_bv, hl_4_bv, hl_5_bv, hl_bv, hl_v_bd, hl_d_bd, hl_3_bd, hl_4_bd, hl_5_bd, hl_bd, hl_v_b3, hl_d_b3, hl_3_b3, hl_4_b3, hl_5_b3, hl_b3, hl_v_b4, hl_d_b4, hl_3_b4, hl_4_b4, hl_5_b4, hl_b4, hl_v_b5, hl_d_b5, hl_3_b5, hl_4_b5, hl_5_b5, hl_b5, hs_bv_i, hm_bv_i, hR, tX12_codeAt R hR, tX12_pop R hR, tX12_push R hR, tX12_reckoned R hR, tX12_signed R hR, tX12_signedTwo R hR, tX12_size R hR, tX12_top R hR, tjX12_plain_230 R hR, tjX12_plain_218 R hR, tjX12_plain_207 R hR]
  all_goals first | rfl | (split <;> simp_all)
set_option maxHeartbeats 4000000 in
theorem tX12_plain (R : Nat → Nat → Nat) (hR : R 285 = hm_R) (v1 : Int32) (g : hm) : fX12_plain 285 v1 (gm g R) = hl_v R (nX12_plain v1 g) := by
  unfold fX12_plain nX12_plain
  simp only [gm_I, gm_R, gm_w, gm_kd, gm_ln, not_false_eq_true, if_true, ite_true, gk_285, gk_286, gk_287, gk_288, gk_289, gk_290, gk_291, gk_292, gk_293, gk_294, gk_295, gk_296, gk_297, gk_298, gk_299, gk_300, gk_301, gk_302, gk_303, gk_304, gk_305, gk_306, gk_307, gk_308, gk_309, gk_310, gk_311, gk_312, gk_313, gk_314, gk_315, gk_316, gk_317, gk_318, gk_319, gn_286, gn_287, gn_288, gn_289, gn_290, gn_291, gn_292, gn_293, gn_294, gn_295, gn_296, gn_297, gn_298, gn_299, gn_300, gn_301, gn_302, gn_303, gn_304, gn_305, gn_306, gn_307, gn_308, gn_309, gn_310, gn_311, gn_312, gn_313, gn_314, gn_315, gn_316, gn_317, gn_318, gn_319, gr_1, gr_5, gr_6, gr_7, gr_8, gr_9, gr_10, gr_11, gr_12, gr_13, gr_14, gr_15, gr_16, gr_17, gr_18, gr_19, gr_20, gr_21, gr_23, gr_24, gr_25, gr_26, gr_27, gr_28, gr_29, gr_30, gr_32, gr_34, gr_35, gr_41, gr_42, gr_43, gr_44, gr_45, gz_1, gz_5, gz_6, gz_7, gz_8, gz_9, gz_10, gz_11, gz_12, gz_13, gz_14, gz_15, gz_16, gz_17, gz_18, gz_19, gz_20, gz_21, gz_23, gz_24, gz_25, gz_26, gz_27, gz_28, gz_29, gz_30, gz_32, gz_34, gz_35, gz_41, gz_42, gz_43, gz_44, gz_45, hl_v_none, hl_v_ite, hl_d_none, hl_d_ite, hl_3_none, hl_3_ite, hl_4_none, hl_4_ite, hl_5_none, hl_5_ite, hl_v_some, hl_d_some, hl_3_some, hl_4_some, hl_5_some, hl_v_bv, hl_d_bv, hl_3_bv, hl_4_bv, hl_5_bv, hl_bv, hl_v_bd, hl_d_bd, hl_3_bd, hl_4_bd, hl_5_bd, hl_bd, hl_v_b3, hl_d_b3, hl_3_b3, hl_4_b3, hl_5_b3, hl_b3, hl_v_b4, hl_d_b4, hl_3_b4, hl_4_b4, hl_5_b4, hl_b4, hl_v_b5, hl_d_b5, hl_3_b5, hl_4_b5, hl_5_b5, hl_b5, hs_bv_i, hm_bv_i, hR, tX12_codeAt R hR, tX12_pop R hR, tX12_push R hR, tX12_reckoned R hR, tX12_signed R hR, tX12_signedTwo R hR, tX12_size R hR, tX12_top R hR, tjX12_plain_230 R hR, tjX12_plain_218 R hR, tjX12_plain_207 R hR, tjX12_plain_24 R hR]
  all_goals first | rfl | (split <;> simp_all)
def njX12_step_211 (v1 : Int32) (g : hm) : Option (hm) :=
  hm_bv (nX12_ofArrays v1 g) fun g5 =>
  some g5
def njX12_step_93  (g : hm) : Option (hm) :=
  if hs_in ((g 285 40) - (1 : Int32)) 60 = true then
  some (hm_w g 316 ((g 285 40) - (1 : Int32)).toNatClampNeg ((g 316 ((g 285 40) - (1 : Int32)).toNatClampNeg) + (1 : Int32)))
  else none
def nX12_step  (g : hm) : Option (hm) :=
  hm_bd (nX12_codeAt (0 : Int32) g) fun r2 g1 =>
  if r2 = (202 : Int32) then (
    hm_bd (nX12_codeAt (1 : Int32) g1) fun r22 g21 =>
    hm_bd (nX12_codeAt (2 : Int32) g21) fun r24 g23 =>
    hm_bd (nX12_codeAt (3 : Int32) g23) fun r26 g25 =>
    hm_bd (nX12_codeAt (4 : Int32) g25) fun r28 g27 =>
    hm_bd (nX12_pays ((((r22 <<< ((24 : Int32) &&& 31)) ||| (r24 <<< ((16 : Int32) &&& 31))) ||| (r26 <<< ((8 : Int32) &&& 31))) ||| r28) g27) fun r30 g29 =>
    if r30 = 0 then (
      some g29
    ) else (
      if hs_in ((g29 285 40) - (1 : Int32)) 60 = true then
      some (hm_w g29 316 ((g29 285 40) - (1 : Int32)).toNatClampNeg ((g29 316 ((g29 285 40) - (1 : Int32)).toNatClampNeg) + (5 : Int32)))
      else none
    )
  ) else (
    if r2 = (203 : Int32) then (
      hm_bd (nX12_top g1) fun r16 g15 =>
      if r16 ≤ 0 then (
        njX12_step_93 g15
      ) else (
        hm_bd (nX12_top g15) fun r18 g17 =>
        hm_bd (nX12_pays r18 g17) fun r20 g19 =>
        if r20 = 0 then (
          some g19
        ) else (
          njX12_step_93 g19
        )
      )
    ) else (
      if (g1 285 38) = (20000 : Int32) then (
        some (hm_w g1 285 46 (1 : Int32))
      ) else (
        if r2 = (172 : Int32) then (
          hm_bv (nX12_ends (hm_w g1 285 38 ((g1 285 38) + (1 : Int32)))) fun g13 =>
          some g13
        ) else (
          if r2 = (184 : Int32) then (
            hm_bv (nX12_calls (hm_w g1 285 38 ((g1 285 38) + (1 : Int32)))) fun g11 =>
            some g11
          ) else (
            hm_bd (nX12_isJump r2 (hm_w g1 285 38 ((g1 285 38) + (1 : Int32)))) fun r4 g3 =>
            if r4 = 0 then (
              if r2 = (188 : Int32) then (
                njX12_step_211 r2 g3
              ) else (
                if r2 = (190 : Int32) then (
                  njX12_step_211 r2 g3
                ) else (
                  if r2 = (46 : Int32) then (
                    njX12_step_211 r2 g3
                  ) else (
                    if r2 = (79 : Int32) then (
                      njX12_step_211 r2 g3
                    ) else (
                      if r2 = (191 : Int32) then (
                        njX12_step_211 r2 g3
                      ) else (
                        hm_bv (nX12_plain r2 g3) fun g7 =>
                        some g7
                      )
                    )
                  )
                )
              )
            ) else (
              hm_bv (nX12_jumps r2 g3) fun g9 =>
              some g9
            )
          )
        )
      )
    )
  )
set_option maxHeartbeats 4000000 in
theorem tjX12_step_211 (R : Nat → Nat → Nat) (hR : R 285 = hm_R) (v1 : Int32) (g : hm) : jX12_step_211 285 v1 (gm g R) = hl_v R (njX12_step_211 v1 g) := by
  unfold jX12_step_211 njX12_step_211
  simp only [gm_I, gm_R, gm_w, gm_kd, gm_ln, not_false_eq_true, if_true, ite_true, gk_285, gk_286, gk_287, gk_288, gk_289, gk_290, gk_291, gk_292, gk_293, gk_294, gk_295, gk_296, gk_297, gk_298, gk_299, gk_300, gk_301, gk_302, gk_303, gk_304, gk_305, gk_306, gk_307, gk_308, gk_309, gk_310, gk_311, gk_312, gk_313, gk_314, gk_315, gk_316, gk_317, gk_318, gk_319, gn_286, gn_287, gn_288, gn_289, gn_290, gn_291, gn_292, gn_293, gn_294, gn_295, gn_296, gn_297, gn_298, gn_299, gn_300, gn_301, gn_302, gn_303, gn_304, gn_305, gn_306, gn_307, gn_308, gn_309, gn_310, gn_311, gn_312, gn_313, gn_314, gn_315, gn_316, gn_317, gn_318, gn_319, gr_1, gr_5, gr_6, gr_7, gr_8, gr_9, gr_10, gr_11, gr_12, gr_13, gr_14, gr_15, gr_16, gr_17, gr_18, gr_19, gr_20, gr_21, gr_23, gr_24, gr_25, gr_26, gr_27, gr_28, gr_29, gr_30, gr_32, gr_34, gr_35, gr_41, gr_42, gr_43, gr_44, gr_45, gz_1, gz_5, gz_6, gz_7, gz_8, gz_9, gz_10, gz_11, gz_12, gz_13, gz_14, gz_15, gz_16, gz_17, gz_18, gz_19, gz_20, gz_21, gz_23, gz_24, gz_25, gz_26, gz_27, gz_28, gz_29, gz_30, gz_32, gz_34, gz_35, gz_41, gz_42, gz_43, gz_44, gz_45, hl_v_none, hl_v_ite, hl_d_none, hl_d_ite, hl_3_none, hl_3_ite, hl_4_none, hl_4_ite, hl_5_none, hl_5_ite, hl_v_some, hl_d_some, hl_3_some, hl_4_some, hl_5_some, hl_v_bv, hl_d_bv, hl_3_bv, hl_4_bv, hl_5_bv, hl_bv, hl_v_bd, hl_d_bd, hl_3_bd, hl_4_bd, hl_5_bd, hl_bd, hl_v_b3, hl_d_b3, hl_3_b3, hl_4_b3, hl_5_b3, hl_b3, hl_v_b4, hl_d_b4, hl_3_b4, hl_4_b4, hl_5_b4, hl_b4, hl_v_b5, hl_d_b5, hl_3_b5, hl_4_b5, hl_5_b5, hl_b5, hs_bv_i, hm_bv_i, hR, tX12_calls R hR, tX12_codeAt R hR, tX12_ends R hR, tX12_isJump R hR, tX12_jumps R hR, tX12_ofArrays R hR, tX12_pays R hR, tX12_plain R hR, tX12_top R hR]
  all_goals first | rfl | (split <;> simp_all)
set_option maxHeartbeats 4000000 in
theorem tjX12_step_93 (R : Nat → Nat → Nat) (hR : R 285 = hm_R)  (g : hm) : jX12_step_93 285  (gm g R) = hl_v R (njX12_step_93  g) := by
  unfold jX12_step_93 njX12_step_93
  simp only [gm_I, gm_R, gm_w, gm_kd, gm_ln, not_false_eq_true, if_true, ite_true, gk_285, gk_286, gk_287, gk_288, gk_289, gk_290, gk_291, gk_292, gk_293, gk_294, gk_295, gk_296, gk_297, gk_298, gk_299, gk_300, gk_301, gk_302, gk_303, gk_304, gk_305, gk_306, gk_307, gk_308, gk_309, gk_310, gk_311, gk_312, gk_313, gk_314, gk_315, gk_316, gk_317, gk_318, gk_319, gn_286, gn_287, gn_288, gn_289, gn_290, gn_291, gn_292, gn_293, gn_294, gn_295, gn_296, gn_297, gn_298, gn_299, gn_300, gn_301, gn_302, gn_303, gn_304, gn_305, gn_306, gn_307, gn_308, gn_309, gn_310, gn_311, gn_312, gn_313, gn_314, gn_315, gn_316, gn_317, gn_318, gn_319, gr_1, gr_5, gr_6, gr_7, gr_8, gr_9, gr_10, gr_11, gr_12, gr_13, gr_14, gr_15, gr_16, gr_17, gr_18, gr_19, gr_20, gr_21, gr_23, gr_24, gr_25, gr_26, gr_27, gr_28, gr_29, gr_30, gr_32, gr_34, gr_35, gr_41, gr_42, gr_43, gr_44, gr_45, gz_1, gz_5, gz_6, gz_7, gz_8, gz_9, gz_10, gz_11, gz_12, gz_13, gz_14, gz_15, gz_16, gz_17, gz_18, gz_19, gz_20, gz_21, gz_23, gz_24, gz_25, gz_26, gz_27, gz_28, gz_29, gz_30, gz_32, gz_34, gz_35, gz_41, gz_42, gz_43, gz_44, gz_45, hl_v_none, hl_v_ite, hl_d_none, hl_d_ite, hl_3_none, hl_3_ite, hl_4_none, hl_4_ite, hl_5_none, hl_5_ite, hl_v_some, hl_d_some, hl_3_some, hl_4_some, hl_5_some, hl_v_bv, hl_d_bv, hl_3_bv, hl_4_bv, hl_5_bv, hl_bv, hl_v_bd, hl_d_bd, hl_3_bd, hl_4_bd, hl_5_bd, hl_bd, hl_v_b3, hl_d_b3, hl_3_b3, hl_4_b3, hl_5_b3, hl_b3, hl_v_b4, hl_d_b4, hl_3_b4, hl_4_b4, hl_5_b4, hl_b4, hl_v_b5, hl_d_b5, hl_3_b5, hl_4_b5, hl_5_b5, hl_b5, hs_bv_i, hm_bv_i, hR, tX12_calls R hR, tX12_codeAt R hR, tX12_ends R hR, tX12_isJump R hR, tX12_jumps R hR, tX12_ofArrays R hR, tX12_pays R hR, tX12_plain R hR, tX12_top R hR, tjX12_step_211 R hR]
  all_goals first | rfl | (split <;> simp_all)
set_option maxHeartbeats 4000000 in
theorem tX12_step (R : Nat → Nat → Nat) (hR : R 285 = hm_R)  (g : hm) : fX12_step 285  (gm g R) = hl_v R (nX12_step  g) := by
  unfold fX12_step nX12_step
  simp only [gm_I, gm_R, gm_w, gm_kd, gm_ln, not_false_eq_true, if_true, ite_true, gk_285, gk_286, gk_287, gk_288, gk_289, gk_290, gk_291, gk_292, gk_293, gk_294, gk_295, gk_296, gk_297, gk_298, gk_299, gk_300, gk_301, gk_302, gk_303, gk_304, gk_305, gk_306, gk_307, gk_308, gk_309, gk_310, gk_311, gk_312, gk_313, gk_314, gk_315, gk_316, gk_317, gk_318, gk_319, gn_286, gn_287, gn_288, gn_289, gn_290, gn_291, gn_292, gn_293, gn_294, gn_295, gn_296, gn_297, gn_298, gn_299, gn_300, gn_301, gn_302, gn_303, gn_304, gn_305, gn_306, gn_307, gn_308, gn_309, gn_310, gn_311, gn_312, gn_313, gn_314, gn_315, gn_316, gn_317, gn_318, gn_319, gr_1, gr_5, gr_6, gr_7, gr_8, gr_9, gr_10, gr_11, gr_12, gr_13, gr_14, gr_15, gr_16, gr_17, gr_18, gr_19, gr_20, gr_21, gr_23, gr_24, gr_25, gr_26, gr_27, gr_28, gr_29, gr_30, gr_32, gr_34, gr_35, gr_41, gr_42, gr_43, gr_44, gr_45, gz_1, gz_5, gz_6, gz_7, gz_8, gz_9, gz_10, gz_11, gz_12, gz_13, gz_14, gz_15, gz_16, gz_17, gz_18, gz_19, gz_20, gz_21, gz_23, gz_24, gz_25, gz_26, gz_27, gz_28, gz_29, gz_30, gz_32, gz_34, gz_35, gz_41, gz_42, gz_43, gz_44, gz_45, hl_v_none, hl_v_ite, hl_d_none, hl_d_ite, hl_3_none, hl_3_ite, hl_4_none, hl_4_ite, hl_5_none, hl_5_ite, hl_v_some, hl_d_some, hl_3_some, hl_4_some, hl_5_some, hl_v_bv, hl_d_bv, hl_3_bv, hl_4_bv, hl_5_bv, hl_bv, hl_v_bd, hl_d_bd, hl_3_bd, hl_4_bd, hl_5_bd, hl_bd, hl_v_b3, hl_d_b3, hl_3_b3, hl_4_b3, hl_5_b3, hl_b3, hl_v_b4, hl_d_b4, hl_3_b4, hl_4_b4, hl_5_b4, hl_b4, hl_v_b5, hl_d_b5, hl_3_b5, hl_4_b5, hl_5_b5, hl_b5, hs_bv_i, hm_bv_i, hR, tX12_calls R hR, tX12_codeAt R hR, tX12_ends R hR, tX12_isJump R hR, tX12_jumps R hR, tX12_ofArrays R hR, tX12_pays R hR, tX12_plain R hR, tX12_top R hR, tjX12_step_211 R hR, tjX12_step_93 R hR]
  all_goals first | rfl | (split <;> simp_all)
def njX12_caught_153 (rec : Int32 → hm → Option (Nat × Int32 × hm)) (v1 : Int32) (v2 : Int32) (v3 : Int32) (g : hm) : Option (Nat × Int32 × hm) :=
  rec (v3 + (1 : Int32)) g
def njX12_caught_78 (rec : Int32 → hm → Option (Nat × Int32 × hm)) (v1 : Int32) (v2 : Int32) (v3 : Int32) (v4 : Int32) (g : hm) : Option (Nat × Int32 × hm) :=
  if hs_in v4 256 = true then
  if v2 < (g 306 v4.toNatClampNeg) then (
    njX12_caught_153 rec v1 v2 v3 g
  ) else (
    if hs_in (v4 + (1 : Int32)) 256 = true then
    if (g 306 (v4 + (1 : Int32)).toNatClampNeg) ≤ v2 then (
      njX12_caught_153 rec v1 v2 v3 g
    ) else (
      some (1, v4, g)
    )
    else none
  )
  else none
def nlX12_caught_33 : Nat → Int32 → Int32 → Int32 → hm → Option (Nat × Int32 × hm)
  | 0, _, _, _, _ => none
  | n + 1, v1, v2, v3, g =>
    if hs_in v1 8 = true then
    if (g 290 v1.toNatClampNeg) ≤ v3 then (
      some (0, 0, g)
    ) else (
      if hs_in ((((32 : Int32) * v1) + ((4 : Int32) * v3)) + (3 : Int32)) 256 = true then
      if (g 306 ((((32 : Int32) * v1) + ((4 : Int32) * v3)) + (3 : Int32)).toNatClampNeg) = 0 then (
        njX12_caught_78 (fun y0 g => nlX12_caught_33 n v1 v2 y0 g) v1 v2 v3 (((32 : Int32) * v1) + ((4 : Int32) * v3)) g
      ) else (
        if (g 306 ((((32 : Int32) * v1) + ((4 : Int32) * v3)) + (3 : Int32)).toNatClampNeg) = (g 285 47) then (
          njX12_caught_78 (fun y0 g => nlX12_caught_33 n v1 v2 y0 g) v1 v2 v3 (((32 : Int32) * v1) + ((4 : Int32) * v3)) g
        ) else (
          njX12_caught_153 (fun y0 g => nlX12_caught_33 n v1 v2 y0 g) v1 v2 v3 g
        )
      )
      else none
    )
    else none
theorem nlX12_caught_33_s (n : Nat) (v1 : Int32) (v2 : Int32) (v3 : Int32) (g : hm) : nlX12_caught_33 (n + 1) v1 v2 v3 g =
    if hs_in v1 8 = true then
    if (g 290 v1.toNatClampNeg) ≤ v3 then (
      some (0, 0, g)
    ) else (
      if hs_in ((((32 : Int32) * v1) + ((4 : Int32) * v3)) + (3 : Int32)) 256 = true then
      if (g 306 ((((32 : Int32) * v1) + ((4 : Int32) * v3)) + (3 : Int32)).toNatClampNeg) = 0 then (
        njX12_caught_78 (fun y0 g => nlX12_caught_33 n v1 v2 y0 g) v1 v2 v3 (((32 : Int32) * v1) + ((4 : Int32) * v3)) g
      ) else (
        if (g 306 ((((32 : Int32) * v1) + ((4 : Int32) * v3)) + (3 : Int32)).toNatClampNeg) = (g 285 47) then (
          njX12_caught_78 (fun y0 g => nlX12_caught_33 n v1 v2 y0 g) v1 v2 v3 (((32 : Int32) * v1) + ((4 : Int32) * v3)) g
        ) else (
          njX12_caught_153 (fun y0 g => nlX12_caught_33 n v1 v2 y0 g) v1 v2 v3 g
        )
      )
      else none
    )
    else none := rfl
def nlX12_caught_0 : Nat → hm → Option (Nat × Int32 × hm)
  | 0, _ => none
  | n + 1, g =>
    if (g 285 40) ≤ 0 then (
      some (0, 0, g)
    ) else (
      if hs_in ((g 285 40) - (1 : Int32)) 60 = true then
      if hs_in ((g 285 40) - (1 : Int32)) 60 = true then
      hm_b3 (nlX12_caught_33 hs_N (g 315 ((g 285 40) - (1 : Int32)).toNatClampNeg) (g 316 ((g 285 40) - (1 : Int32)).toNatClampNeg) (0 : Int32) g) fun k2 x1 g3 =>
      if k2 = 0 then (
        nlX12_caught_0 n (hm_w g3 285 40 ((g3 285 40) - (1 : Int32)))
      ) else (
        some (1, x1, g3)
      )
      else none else none
    )
theorem nlX12_caught_0_s (n : Nat)  (g : hm) : nlX12_caught_0 (n + 1) g =
    if (g 285 40) ≤ 0 then (
      some (0, 0, g)
    ) else (
      if hs_in ((g 285 40) - (1 : Int32)) 60 = true then
      if hs_in ((g 285 40) - (1 : Int32)) 60 = true then
      hm_b3 (nlX12_caught_33 hs_N (g 315 ((g 285 40) - (1 : Int32)).toNatClampNeg) (g 316 ((g 285 40) - (1 : Int32)).toNatClampNeg) (0 : Int32) g) fun k2 x1 g3 =>
      if k2 = 0 then (
        nlX12_caught_0 n (hm_w g3 285 40 ((g3 285 40) - (1 : Int32)))
      ) else (
        some (1, x1, g3)
      )
      else none else none
    ) := rfl
def nX12_caught  (g : hm) : Option (hm) :=
  hm_b3 (nlX12_caught_0 hs_N g) fun k6 x5 g7 =>
  if k6 = 0 then (
    some g7
  ) else (
    if hs_in ((24 : Int32) * ((g7 285 40) - (1 : Int32))) 1440 = true then
    if hs_in (((hm_w g7 318 ((24 : Int32) * ((g7 285 40) - (1 : Int32))).toNatClampNeg (g7 285 47)) 285 40) - (1 : Int32)) 60 = true then
    hm_bv (some (hm_w (hm_w g7 318 ((24 : Int32) * ((g7 285 40) - (1 : Int32))).toNatClampNeg (g7 285 47)) 317 (((hm_w g7 318 ((24 : Int32) * ((g7 285 40) - (1 : Int32))).toNatClampNeg (g7 285 47)) 285 40) - (1 : Int32)).toNatClampNeg (1 : Int32))) fun g9 =>
    if hs_in (x5 + (2 : Int32)) 256 = true then
    if hs_in ((g9 285 40) - (1 : Int32)) 60 = true then
    some (hm_w g9 316 ((g9 285 40) - (1 : Int32)).toNatClampNeg (g9 306 (x5 + (2 : Int32)).toNatClampNeg))
    else none else none else none else none
  )
set_option maxHeartbeats 4000000 in
theorem tjX12_caught_153 (R : Nat → Nat → Nat) (hR : R 285 = hm_R) (rec : Int32 → hs_S → Option (Nat × Int32 × hs_S)) (rec2 : Int32 → hm → Option (Nat × Int32 × hm)) (hrec : ∀ (y0 : Int32) (g : hm), rec y0 (gm g R) = hl_3 R (rec2 y0 g)) (v1 : Int32) (v2 : Int32) (v3 : Int32) (g : hm) : jX12_caught_153 rec 285 v1 v2 v3 (gm g R) = hl_3 R (njX12_caught_153 rec2 v1 v2 v3 g) := by
  unfold jX12_caught_153 njX12_caught_153
  simp only [gm_I, gm_R, gm_w, gm_kd, gm_ln, not_false_eq_true, if_true, ite_true, gk_285, gk_286, gk_287, gk_288, gk_289, gk_290, gk_291, gk_292, gk_293, gk_294, gk_295, gk_296, gk_297, gk_298, gk_299, gk_300, gk_301, gk_302, gk_303, gk_304, gk_305, gk_306, gk_307, gk_308, gk_309, gk_310, gk_311, gk_312, gk_313, gk_314, gk_315, gk_316, gk_317, gk_318, gk_319, gn_286, gn_287, gn_288, gn_289, gn_290, gn_291, gn_292, gn_293, gn_294, gn_295, gn_296, gn_297, gn_298, gn_299, gn_300, gn_301, gn_302, gn_303, gn_304, gn_305, gn_306, gn_307, gn_308, gn_309, gn_310, gn_311, gn_312, gn_313, gn_314, gn_315, gn_316, gn_317, gn_318, gn_319, gr_1, gr_5, gr_6, gr_7, gr_8, gr_9, gr_10, gr_11, gr_12, gr_13, gr_14, gr_15, gr_16, gr_17, gr_18, gr_19, gr_20, gr_21, gr_23, gr_24, gr_25, gr_26, gr_27, gr_28, gr_29, gr_30, gr_32, gr_34, gr_35, gr_41, gr_42, gr_43, gr_44, gr_45, gz_1, gz_5, gz_6, gz_7, gz_8, gz_9, gz_10, gz_11, gz_12, gz_13, gz_14, gz_15, gz_16, gz_17, gz_18, gz_19, gz_20, gz_21, gz_23, gz_24, gz_25, gz_26, gz_27, gz_28, gz_29, gz_30, gz_32, gz_34, gz_35, gz_41, gz_42, gz_43, gz_44, gz_45, hl_v_none, hl_v_ite, hl_d_none, hl_d_ite, hl_3_none, hl_3_ite, hl_4_none, hl_4_ite, hl_5_none, hl_5_ite, hl_v_some, hl_d_some, hl_3_some, hl_4_some, hl_5_some, hl_v_bv, hl_d_bv, hl_3_bv, hl_4_bv, hl_5_bv, hl_bv, hl_v_bd, hl_d_bd, hl_3_bd, hl_4_bd, hl_5_bd, hl_bd, hl_v_b3, hl_d_b3, hl_3_b3, hl_4_b3, hl_5_b3, hl_b3, hl_v_b4, hl_d_b4, hl_3_b4, hl_4_b4, hl_5_b4, hl_b4, hl_v_b5, hl_d_b5, hl_3_b5, hl_4_b5, hl_5_b5, hl_b5, hs_bv_i, hm_bv_i, hR, hrec]
  all_goals first | rfl | (split <;> simp_all)
set_option maxHeartbeats 4000000 in
theorem tjX12_caught_78 (R : Nat → Nat → Nat) (hR : R 285 = hm_R) (rec : Int32 → hs_S → Option (Nat × Int32 × hs_S)) (rec2 : Int32 → hm → Option (Nat × Int32 × hm)) (hrec : ∀ (y0 : Int32) (g : hm), rec y0 (gm g R) = hl_3 R (rec2 y0 g)) (v1 : Int32) (v2 : Int32) (v3 : Int32) (v4 : Int32) (g : hm) : jX12_caught_78 rec 285 v1 v2 v3 v4 (gm g R) = hl_3 R (njX12_caught_78 rec2 v1 v2 v3 v4 g) := by
  unfold jX12_caught_78 njX12_caught_78
  simp only [gm_I, gm_R, gm_w, gm_kd, gm_ln, not_false_eq_true, if_true, ite_true, gk_285, gk_286, gk_287, gk_288, gk_289, gk_290, gk_291, gk_292, gk_293, gk_294, gk_295, gk_296, gk_297, gk_298, gk_299, gk_300, gk_301, gk_302, gk_303, gk_304, gk_305, gk_306, gk_307, gk_308, gk_309, gk_310, gk_311, gk_312, gk_313, gk_314, gk_315, gk_316, gk_317, gk_318, gk_319, gn_286, gn_287, gn_288, gn_289, gn_290, gn_291, gn_292, gn_293, gn_294, gn_295, gn_296, gn_297, gn_298, gn_299, gn_300, gn_301, gn_302, gn_303, gn_304, gn_305, gn_306, gn_307, gn_308, gn_309, gn_310, gn_311, gn_312, gn_313, gn_314, gn_315, gn_316, gn_317, gn_318, gn_319, gr_1, gr_5, gr_6, gr_7, gr_8, gr_9, gr_10, gr_11, gr_12, gr_13, gr_14, gr_15, gr_16, gr_17, gr_18, gr_19, gr_20, gr_21, gr_23, gr_24, gr_25, gr_26, gr_27, gr_28, gr_29, gr_30, gr_32, gr_34, gr_35, gr_41, gr_42, gr_43, gr_44, gr_45, gz_1, gz_5, gz_6, gz_7, gz_8, gz_9, gz_10, gz_11, gz_12, gz_13, gz_14, gz_15, gz_16, gz_17, gz_18, gz_19, gz_20, gz_21, gz_23, gz_24, gz_25, gz_26, gz_27, gz_28, gz_29, gz_30, gz_32, gz_34, gz_35, gz_41, gz_42, gz_43, gz_44, gz_45, hl_v_none, hl_v_ite, hl_d_none, hl_d_ite, hl_3_none, hl_3_ite, hl_4_none, hl_4_ite, hl_5_none, hl_5_ite, hl_v_some, hl_d_some, hl_3_some, hl_4_some, hl_5_some, hl_v_bv, hl_d_bv, hl_3_bv, hl_4_bv, hl_5_bv, hl_bv, hl_v_bd, hl_d_bd, hl_3_bd, hl_4_bd, hl_5_bd, hl_bd, hl_v_b3, hl_d_b3, hl_3_b3, hl_4_b3, hl_5_b3, hl_b3, hl_v_b4, hl_d_b4, hl_3_b4, hl_4_b4, hl_5_b4, hl_b4, hl_v_b5, hl_d_b5, hl_3_b5, hl_4_b5, hl_5_b5, hl_b5, hs_bv_i, hm_bv_i, hR, hrec, tjX12_caught_153 R hR rec rec2 hrec]
  all_goals first | rfl | (split <;> simp_all)
set_option maxHeartbeats 4000000 in
theorem tlX12_caught_33 (R : Nat → Nat → Nat) (hR : R 285 = hm_R) : ∀ (n : Nat) (v1 : Int32) (v2 : Int32) (v3 : Int32) (g : hm), lX12_caught_33 n 285 v1 v2 v3 (gm g R) = hl_3 R (nlX12_caught_33 n v1 v2 v3 g) := by
  intro n
  induction n with
  | zero => intros; rfl
  | succ n ih =>
    intro v1 v2 v3 g
    rw [lX12_caught_33_s, nlX12_caught_33_s]
    simp only [gm_I, gm_R, gm_w, gm_kd, gm_ln, not_false_eq_true, if_true, ite_true, gk_285, gk_286, gk_287, gk_288, gk_289, gk_290, gk_291, gk_292, gk_293, gk_294, gk_295, gk_296, gk_297, gk_298, gk_299, gk_300, gk_301, gk_302, gk_303, gk_304, gk_305, gk_306, gk_307, gk_308, gk_309, gk_310, gk_311, gk_312, gk_313, gk_314, gk_315, gk_316, gk_317, gk_318, gk_319, gn_286, gn_287, gn_288, gn_289, gn_290, gn_291, gn_292, gn_293, gn_294, gn_295, gn_296, gn_297, gn_298, gn_299, gn_300, gn_301, gn_302, gn_303, gn_304, gn_305, gn_306, gn_307, gn_308, gn_309, gn_310, gn_311, gn_312, gn_313, gn_314, gn_315, gn_316, gn_317, gn_318, gn_319, gr_1, gr_5, gr_6, gr_7, gr_8, gr_9, gr_10, gr_11, gr_12, gr_13, gr_14, gr_15, gr_16, gr_17, gr_18, gr_19, gr_20, gr_21, gr_23, gr_24, gr_25, gr_26, gr_27, gr_28, gr_29, gr_30, gr_32, gr_34, gr_35, gr_41, gr_42, gr_43, gr_44, gr_45, gz_1, gz_5, gz_6, gz_7, gz_8, gz_9, gz_10, gz_11, gz_12, gz_13, gz_14, gz_15, gz_16, gz_17, gz_18, gz_19, gz_20, gz_21, gz_23, gz_24, gz_25, gz_26, gz_27, gz_28, gz_29, gz_30, gz_32, gz_34, gz_35, gz_41, gz_42, gz_43, gz_44, gz_45, hl_v_none, hl_v_ite, hl_d_none, hl_d_ite, hl_3_none, hl_3_ite, hl_4_none, hl_4_ite, hl_5_none, hl_5_ite, hl_v_some, hl_d_some, hl_3_some, hl_4_some, hl_5_some, hl_v_bv, hl_d_bv, hl_3_bv, hl_4_bv, hl_5_bv, hl_bv, hl_v_bd, hl_d_bd, hl_3_bd, hl_4_bd, hl_5_bd, hl_bd, hl_v_b3, hl_d_b3, hl_3_b3, hl_4_b3, hl_5_b3, hl_b3, hl_v_b4, hl_d_b4, hl_3_b4, hl_4_b4, hl_5_b4, hl_b4, hl_v_b5, hl_d_b5, hl_3_b5, hl_4_b5, hl_5_b5, hl_b5, hs_bv_i, hm_bv_i, hR, ih, tjX12_caught_153 R hR _ _ (fun y0 g => ih v1 v2 y0 g), tjX12_caught_78 R hR _ _ (fun y0 g => ih v1 v2 y0 g)]
    all_goals first | rfl | (split <;> simp_all)
set_option maxHeartbeats 4000000 in
theorem tlX12_caught_0 (R : Nat → Nat → Nat) (hR : R 285 = hm_R) : ∀ (n : Nat)  (g : hm), lX12_caught_0 n 285  (gm g R) = hl_3 R (nlX12_caught_0 n  g) := by
  intro n
  induction n with
  | zero => intros; rfl
  | succ n ih =>
    intro g
    rw [lX12_caught_0_s, nlX12_caught_0_s]
    simp only [gm_I, gm_R, gm_w, gm_kd, gm_ln, not_false_eq_true, if_true, ite_true, gk_285, gk_286, gk_287, gk_288, gk_289, gk_290, gk_291, gk_292, gk_293, gk_294, gk_295, gk_296, gk_297, gk_298, gk_299, gk_300, gk_301, gk_302, gk_303, gk_304, gk_305, gk_306, gk_307, gk_308, gk_309, gk_310, gk_311, gk_312, gk_313, gk_314, gk_315, gk_316, gk_317, gk_318, gk_319, gn_286, gn_287, gn_288, gn_289, gn_290, gn_291, gn_292, gn_293, gn_294, gn_295, gn_296, gn_297, gn_298, gn_299, gn_300, gn_301, gn_302, gn_303, gn_304, gn_305, gn_306, gn_307, gn_308, gn_309, gn_310, gn_311, gn_312, gn_313, gn_314, gn_315, gn_316, gn_317, gn_318, gn_319, gr_1, gr_5, gr_6, gr_7, gr_8, gr_9, gr_10, gr_11, gr_12, gr_13, gr_14, gr_15, gr_16, gr_17, gr_18, gr_19, gr_20, gr_21, gr_23, gr_24, gr_25, gr_26, gr_27, gr_28, gr_29, gr_30, gr_32, gr_34, gr_35, gr_41, gr_42, gr_43, gr_44, gr_45, gz_1, gz_5, gz_6, gz_7, gz_8, gz_9, gz_10, gz_11, gz_12, gz_13, gz_14, gz_15, gz_16, gz_17, gz_18, gz_19, gz_20, gz_21, gz_23, gz_24, gz_25, gz_26, gz_27, gz_28, gz_29, gz_30, gz_32, gz_34, gz_35, gz_41, gz_42, gz_43, gz_44, gz_45, hl_v_none, hl_v_ite, hl_d_none, hl_d_ite, hl_3_none, hl_3_ite, hl_4_none, hl_4_ite, hl_5_none, hl_5_ite, hl_v_some, hl_d_some, hl_3_some, hl_4_some, hl_5_some, hl_v_bv, hl_d_bv, hl_3_bv, hl_4_bv, hl_5_bv, hl_bv, hl_v_bd, hl_d_bd, hl_3_bd, hl_4_bd, hl_5_bd, hl_bd, hl_v_b3, hl_d_b3, hl_3_b3, hl_4_b3, hl_5_b3, hl_b3, hl_v_b4, hl_d_b4, hl_3_b4, hl_4_b4, hl_5_b4, hl_b4, hl_v_b5, hl_d_b5, hl_3_b5, hl_4_b5, hl_5_b5, hl_b5, hs_bv_i, hm_bv_i, hR, tlX12_caught_33 R hR, ih]
    all_goals first | rfl | (split <;> simp_all)
set_option maxHeartbeats 4000000 in
theorem tX12_caught (R : Nat → Nat → Nat) (hR : R 285 = hm_R)  (g : hm) : fX12_caught 285  (gm g R) = hl_v R (nX12_caught  g) := by
  unfold fX12_caught nX12_caught
  simp only [gm_I, gm_R, gm_w, gm_kd, gm_ln, not_false_eq_true, if_true, ite_true, gk_285, gk_286, gk_287, gk_288, gk_289, gk_290, gk_291, gk_292, gk_293, gk_294, gk_295, gk_296, gk_297, gk_298, gk_299, gk_300, gk_301, gk_302, gk_303, gk_304, gk_305, gk_306, gk_307, gk_308, gk_309, gk_310, gk_311, gk_312, gk_313, gk_314, gk_315, gk_316, gk_317, gk_318, gk_319, gn_286, gn_287, gn_288, gn_289, gn_290, gn_291, gn_292, gn_293, gn_294, gn_295, gn_296, gn_297, gn_298, gn_299, gn_300, gn_301, gn_302, gn_303, gn_304, gn_305, gn_306, gn_307, gn_308, gn_309, gn_310, gn_311, gn_312, gn_313, gn_314, gn_315, gn_316, gn_317, gn_318, gn_319, gr_1, gr_5, gr_6, gr_7, gr_8, gr_9, gr_10, gr_11, gr_12, gr_13, gr_14, gr_15, gr_16, gr_17, gr_18, gr_19, gr_20, gr_21, gr_23, gr_24, gr_25, gr_26, gr_27, gr_28, gr_29, gr_30, gr_32, gr_34, gr_35, gr_41, gr_42, gr_43, gr_44, gr_45, gz_1, gz_5, gz_6, gz_7, gz_8, gz_9, gz_10, gz_11, gz_12, gz_13, gz_14, gz_15, gz_16, gz_17, gz_18, gz_19, gz_20, gz_21, gz_23, gz_24, gz_25, gz_26, gz_27, gz_28, gz_29, gz_30, gz_32, gz_34, gz_35, gz_41, gz_42, gz_43, gz_44, gz_45, hl_v_none, hl_v_ite, hl_d_none, hl_d_ite, hl_3_none, hl_3_ite, hl_4_none, hl_4_ite, hl_5_none, hl_5_ite, hl_v_some, hl_d_some, hl_3_some, hl_4_some, hl_5_some, hl_v_bv, hl_d_bv, hl_3_bv, hl_4_bv, hl_5_bv, hl_bv, hl_v_bd, hl_d_bd, hl_3_bd, hl_4_bd, hl_5_bd, hl_bd, hl_v_b3, hl_d_b3, hl_3_b3, hl_4_b3, hl_5_b3, hl_b3, hl_v_b4, hl_d_b4, hl_3_b4, hl_4_b4, hl_5_b4, hl_b4, hl_v_b5, hl_d_b5, hl_3_b5, hl_4_b5, hl_5_b5, hl_b5, hs_bv_i, hm_bv_i, hR, tlX12_caught_33 R hR, tlX12_caught_0 R hR]
  all_goals first | rfl | (split <;> simp_all)
def nlX12_run_41 : Nat → Int32 → Int32 → Int32 → Int32 → Int32 → hm → Option (hm)
  | 0, _, _, _, _, _, _ => none
  | n + 1, v1, v2, v3, v4, v5, g =>
    if (4 : Int32) ≤ v5 then (
      some g
    ) else (
      if hs_in v5 4 = true then
      nlX12_run_41 n v1 v2 v3 v4 (v5 + (1 : Int32)) (hm_w g 313 v5.toNatClampNeg (0 : Int32))
      else none
    )
theorem nlX12_run_41_s (n : Nat) (v1 : Int32) (v2 : Int32) (v3 : Int32) (v4 : Int32) (v5 : Int32) (g : hm) : nlX12_run_41 (n + 1) v1 v2 v3 v4 v5 g =
    if (4 : Int32) ≤ v5 then (
      some g
    ) else (
      if hs_in v5 4 = true then
      nlX12_run_41 n v1 v2 v3 v4 (v5 + (1 : Int32)) (hm_w g 313 v5.toNatClampNeg (0 : Int32))
      else none
    ) := rfl
def nlX12_run_130 : Nat → hm → Option (Nat × hm)
  | 0, _ => none
  | n + 1, g =>
    if (g 285 40) ≤ 0 then (
      some (0, g)
    ) else (
      if (g 285 46) = 0 then (
        hm_bv (nX12_step (hm_w g 285 47 (0 : Int32))) fun g7 =>
        if (g7 285 47) ≤ 0 then (
          nlX12_run_130 n g7
        ) else (
          hm_bv (nX12_caught g7) fun g9 =>
          if (g9 285 40) = 0 then (
            some (1, g9)
          ) else (
            nlX12_run_130 n g9
          )
        )
      ) else (
        some (0, g)
      )
    )
theorem nlX12_run_130_s (n : Nat)  (g : hm) : nlX12_run_130 (n + 1) g =
    if (g 285 40) ≤ 0 then (
      some (0, g)
    ) else (
      if (g 285 46) = 0 then (
        hm_bv (nX12_step (hm_w g 285 47 (0 : Int32))) fun g7 =>
        if (g7 285 47) ≤ 0 then (
          nlX12_run_130 n g7
        ) else (
          hm_bv (nX12_caught g7) fun g9 =>
          if (g9 285 40) = 0 then (
            some (1, g9)
          ) else (
            nlX12_run_130 n g9
          )
        )
      ) else (
        some (0, g)
      )
    ) := rfl
def njX12_run_181  (g : hm) : Option (Int32 × hm) :=
  if (g 285 46) = 0 then (
    some ((0 : Int32), g)
  ) else (
    some ((1 : Int32), (hm_w g 285 36 (0 : Int32)))
  )
def njX12_run_113 (v1 : Int32) (v3 : Int32) (g : hm) : Option (Int32 × hm) :=
  if hs_in v1 8 = true then
  if (g 287 v1.toNatClampNeg) ≤ (1 : Int32) then (
    hm_bd (nlX12_run_130 hs_N g) fun k11 g12 =>
    if k11 = 0 then (
      njX12_run_181 g12
    ) else (
      some ((2 : Int32), (hm_w g12 285 36 (g12 285 47)))
    )
  ) else (
    if hs_in (1 : Int32) 1200 = true then
    hm_bd (nlX12_run_130 hs_N (hm_w g 319 (1 : Int32).toNatClampNeg v3)) fun k14 g15 =>
    if k14 = 0 then (
      njX12_run_181 g15
    ) else (
      some ((2 : Int32), (hm_w g15 285 36 (g15 285 47)))
    )
    else none
  )
  else none
def nX12_run (v1 : Int32) (v2 : Int32) (v3 : Int32) (v4 : Int32) (g : hm) : Option (Int32 × hm) :=
  if (g 285 22) = 0 then (
    some ((-2 : Int32), g)
  ) else (
    if v1 < 0 then (
      some ((-3 : Int32), g)
    ) else (
      if (g 285 4) ≤ v1 then (
        some ((-3 : Int32), g)
      ) else (
        if v4 < 0 then (
          some ((-3 : Int32), g)
        ) else (
          if v4 ≤ (100000 : Int32) then (
            hm_bv (nlX12_run_41 hs_N v1 v2 v3 v4 (0 : Int32) g) fun g2 =>
            hm_bv (some (hm_w (hm_w (hm_w (hm_w g2 285 36 (0 : Int32)) 285 37 (0 : Int32)) 285 38 (0 : Int32)) 285 39 v4)) fun g4 =>
            hm_bv (nX12_enter v1 (hm_w (hm_w g4 285 40 (0 : Int32)) 285 46 (0 : Int32))) fun g5 =>
            if hs_in v1 8 = true then
            if (g5 287 v1.toNatClampNeg) ≤ 0 then (
              njX12_run_113 v1 v3 g5
            ) else (
              if hs_in (0 : Int32) 1200 = true then
              njX12_run_113 v1 v3 (hm_w g5 319 (0 : Int32).toNatClampNeg v2)
              else none
            )
            else none
          ) else (
            some ((-3 : Int32), g)
          )
        )
      )
    )
  )
set_option maxHeartbeats 4000000 in
theorem tlX12_run_41 (R : Nat → Nat → Nat) (hR : R 285 = hm_R) : ∀ (n : Nat) (v1 : Int32) (v2 : Int32) (v3 : Int32) (v4 : Int32) (v5 : Int32) (g : hm), lX12_run_41 n 285 v1 v2 v3 v4 v5 (gm g R) = hl_v R (nlX12_run_41 n v1 v2 v3 v4 v5 g) := by
  intro n
  induction n with
  | zero => intros; rfl
  | succ n ih =>
    intro v1 v2 v3 v4 v5 g
    rw [lX12_run_41_s, nlX12_run_41_s]
    simp only [gm_I, gm_R, gm_w, gm_kd, gm_ln, not_false_eq_true, if_true, ite_true, gk_285, gk_286, gk_287, gk_288, gk_289, gk_290, gk_291, gk_292, gk_293, gk_294, gk_295, gk_296, gk_297, gk_298, gk_299, gk_300, gk_301, gk_302, gk_303, gk_304, gk_305, gk_306, gk_307, gk_308, gk_309, gk_310, gk_311, gk_312, gk_313, gk_314, gk_315, gk_316, gk_317, gk_318, gk_319, gn_286, gn_287, gn_288, gn_289, gn_290, gn_291, gn_292, gn_293, gn_294, gn_295, gn_296, gn_297, gn_298, gn_299, gn_300, gn_301, gn_302, gn_303, gn_304, gn_305, gn_306, gn_307, gn_308, gn_309, gn_310, gn_311, gn_312, gn_313, gn_314, gn_315, gn_316, gn_317, gn_318, gn_319, gr_1, gr_5, gr_6, gr_7, gr_8, gr_9, gr_10, gr_11, gr_12, gr_13, gr_14, gr_15, gr_16, gr_17, gr_18, gr_19, gr_20, gr_21, gr_23, gr_24, gr_25, gr_26, gr_27, gr_28, gr_29, gr_30, gr_32, gr_34, gr_35, gr_41, gr_42, gr_43, gr_44, gr_45, gz_1, gz_5, gz_6, gz_7, gz_8, gz_9, gz_10, gz_11, gz_12, gz_13, gz_14, gz_15, gz_16, gz_17, gz_18, gz_19, gz_20, gz_21, gz_23, gz_24, gz_25, gz_26, gz_27, gz_28, gz_29, gz_30, gz_32, gz_34, gz_35, gz_41, gz_42, gz_43, gz_44, gz_45, hl_v_none, hl_v_ite, hl_d_none, hl_d_ite, hl_3_none, hl_3_ite, hl_4_none, hl_4_ite, hl_5_none, hl_5_ite, hl_v_some, hl_d_some, hl_3_some, hl_4_some, hl_5_some, hl_v_bv, hl_d_bv, hl_3_bv, hl_4_bv, hl_5_bv, hl_bv, hl_v_bd, hl_d_bd, hl_3_bd, hl_4_bd, hl_5_bd, hl_bd, hl_v_b3, hl_d_b3, hl_3_b3, hl_4_b3, hl_5_b3, hl_b3, hl_v_b4, hl_d_b4, hl_3_b4, hl_4_b4, hl_5_b4, hl_b4, hl_v_b5, hl_d_b5, hl_3_b5, hl_4_b5, hl_5_b5, hl_b5, hs_bv_i, hm_bv_i, hR, tX12_caught R hR, tX12_enter R hR, tX12_step R hR, ih]
    all_goals first | rfl | (split <;> simp_all)
set_option maxHeartbeats 4000000 in
theorem tlX12_run_130 (R : Nat → Nat → Nat) (hR : R 285 = hm_R) : ∀ (n : Nat)  (g : hm), lX12_run_130 n 285  (gm g R) = hl_d R (nlX12_run_130 n  g) := by
  intro n
  induction n with
  | zero => intros; rfl
  | succ n ih =>
    intro g
    rw [lX12_run_130_s, nlX12_run_130_s]
    simp only [gm_I, gm_R, gm_w, gm_kd, gm_ln, not_false_eq_true, if_true, ite_true, gk_285, gk_286, gk_287, gk_288, gk_289, gk_290, gk_291, gk_292, gk_293, gk_294, gk_295, gk_296, gk_297, gk_298, gk_299, gk_300, gk_301, gk_302, gk_303, gk_304, gk_305, gk_306, gk_307, gk_308, gk_309, gk_310, gk_311, gk_312, gk_313, gk_314, gk_315, gk_316, gk_317, gk_318, gk_319, gn_286, gn_287, gn_288, gn_289, gn_290, gn_291, gn_292, gn_293, gn_294, gn_295, gn_296, gn_297, gn_298, gn_299, gn_300, gn_301, gn_302, gn_303, gn_304, gn_305, gn_306, gn_307, gn_308, gn_309, gn_310, gn_311, gn_312, gn_313, gn_314, gn_315, gn_316, gn_317, gn_318, gn_319, gr_1, gr_5, gr_6, gr_7, gr_8, gr_9, gr_10, gr_11, gr_12, gr_13, gr_14, gr_15, gr_16, gr_17, gr_18, gr_19, gr_20, gr_21, gr_23, gr_24, gr_25, gr_26, gr_27, gr_28, gr_29, gr_30, gr_32, gr_34, gr_35, gr_41, gr_42, gr_43, gr_44, gr_45, gz_1, gz_5, gz_6, gz_7, gz_8, gz_9, gz_10, gz_11, gz_12, gz_13, gz_14, gz_15, gz_16, gz_17, gz_18, gz_19, gz_20, gz_21, gz_23, gz_24, gz_25, gz_26, gz_27, gz_28, gz_29, gz_30, gz_32, gz_34, gz_35, gz_41, gz_42, gz_43, gz_44, gz_45, hl_v_none, hl_v_ite, hl_d_none, hl_d_ite, hl_3_none, hl_3_ite, hl_4_none, hl_4_ite, hl_5_none, hl_5_ite, hl_v_some, hl_d_some, hl_3_some, hl_4_some, hl_5_some, hl_v_bv, hl_d_bv, hl_3_bv, hl_4_bv, hl_5_bv, hl_bv, hl_v_bd, hl_d_bd, hl_3_bd, hl_4_bd, hl_5_bd, hl_bd, hl_v_b3, hl_d_b3, hl_3_b3, hl_4_b3, hl_5_b3, hl_b3, hl_v_b4, hl_d_b4, hl_3_b4, hl_4_b4, hl_5_b4, hl_b4, hl_v_b5, hl_d_b5, hl_3_b5, hl_4_b5, hl_5_b5, hl_b5, hs_bv_i, hm_bv_i, hR, tX12_caught R hR, tX12_enter R hR, tX12_step R hR, tlX12_run_41 R hR, ih]
    all_goals first | rfl | (split <;> simp_all)
set_option maxHeartbeats 4000000 in
theorem tjX12_run_181 (R : Nat → Nat → Nat) (hR : R 285 = hm_R)  (g : hm) : jX12_run_181 285  (gm g R) = hl_d R (njX12_run_181  g) := by
  unfold jX12_run_181 njX12_run_181
  simp only [gm_I, gm_R, gm_w, gm_kd, gm_ln, not_false_eq_true, if_true, ite_true, gk_285, gk_286, gk_287, gk_288, gk_289, gk_290, gk_291, gk_292, gk_293, gk_294, gk_295, gk_296, gk_297, gk_298, gk_299, gk_300, gk_301, gk_302, gk_303, gk_304, gk_305, gk_306, gk_307, gk_308, gk_309, gk_310, gk_311, gk_312, gk_313, gk_314, gk_315, gk_316, gk_317, gk_318, gk_319, gn_286, gn_287, gn_288, gn_289, gn_290, gn_291, gn_292, gn_293, gn_294, gn_295, gn_296, gn_297, gn_298, gn_299, gn_300, gn_301, gn_302, gn_303, gn_304, gn_305, gn_306, gn_307, gn_308, gn_309, gn_310, gn_311, gn_312, gn_313, gn_314, gn_315, gn_316, gn_317, gn_318, gn_319, gr_1, gr_5, gr_6, gr_7, gr_8, gr_9, gr_10, gr_11, gr_12, gr_13, gr_14, gr_15, gr_16, gr_17, gr_18, gr_19, gr_20, gr_21, gr_23, gr_24, gr_25, gr_26, gr_27, gr_28, gr_29, gr_30, gr_32, gr_34, gr_35, gr_41, gr_42, gr_43, gr_44, gr_45, gz_1, gz_5, gz_6, gz_7, gz_8, gz_9, gz_10, gz_11, gz_12, gz_13, gz_14, gz_15, gz_16, gz_17, gz_18, gz_19, gz_20, gz_21, gz_23, gz_24, gz_25, gz_26, gz_27, gz_28, gz_29, gz_30, gz_32, gz_34, gz_35, gz_41, gz_42, gz_43, gz_44, gz_45, hl_v_none, hl_v_ite, hl_d_none, hl_d_ite, hl_3_none, hl_3_ite, hl_4_none, hl_4_ite, hl_5_none, hl_5_ite, hl_v_some, hl_d_some, hl_3_some, hl_4_some, hl_5_some, hl_v_bv, hl_d_bv, hl_3_bv, hl_4_bv, hl_5_bv, hl_bv, hl_v_bd, hl_d_bd, hl_3_bd, hl_4_bd, hl_5_bd, hl_bd, hl_v_b3, hl_d_b3, hl_3_b3, hl_4_b3, hl_5_b3, hl_b3, hl_v_b4, hl_d_b4, hl_3_b4, hl_4_b4, hl_5_b4, hl_b4, hl_v_b5, hl_d_b5, hl_3_b5, hl_4_b5, hl_5_b5, hl_b5, hs_bv_i, hm_bv_i, hR, tX12_caught R hR, tX12_enter R hR, tX12_step R hR, tlX12_run_41 R hR, tlX12_run_130 R hR]
  all_goals first | rfl | (split <;> simp_all)
set_option maxHeartbeats 4000000 in
theorem tjX12_run_113 (R : Nat → Nat → Nat) (hR : R 285 = hm_R) (v1 : Int32) (v3 : Int32) (g : hm) : jX12_run_113 285 v1 v3 (gm g R) = hl_d R (njX12_run_113 v1 v3 g) := by
  unfold jX12_run_113 njX12_run_113
  simp only [gm_I, gm_R, gm_w, gm_kd, gm_ln, not_false_eq_true, if_true, ite_true, gk_285, gk_286, gk_287, gk_288, gk_289, gk_290, gk_291, gk_292, gk_293, gk_294, gk_295, gk_296, gk_297, gk_298, gk_299, gk_300, gk_301, gk_302, gk_303, gk_304, gk_305, gk_306, gk_307, gk_308, gk_309, gk_310, gk_311, gk_312, gk_313, gk_314, gk_315, gk_316, gk_317, gk_318, gk_319, gn_286, gn_287, gn_288, gn_289, gn_290, gn_291, gn_292, gn_293, gn_294, gn_295, gn_296, gn_297, gn_298, gn_299, gn_300, gn_301, gn_302, gn_303, gn_304, gn_305, gn_306, gn_307, gn_308, gn_309, gn_310, gn_311, gn_312, gn_313, gn_314, gn_315, gn_316, gn_317, gn_318, gn_319, gr_1, gr_5, gr_6, gr_7, gr_8, gr_9, gr_10, gr_11, gr_12, gr_13, gr_14, gr_15, gr_16, gr_17, gr_18, gr_19, gr_20, gr_21, gr_23, gr_24, gr_25, gr_26, gr_27, gr_28, gr_29, gr_30, gr_32, gr_34, gr_35, gr_41, gr_42, gr_43, gr_44, gr_45, gz_1, gz_5, gz_6, gz_7, gz_8, gz_9, gz_10, gz_11, gz_12, gz_13, gz_14, gz_15, gz_16, gz_17, gz_18, gz_19, gz_20, gz_21, gz_23, gz_24, gz_25, gz_26, gz_27, gz_28, gz_29, gz_30, gz_32, gz_34, gz_35, gz_41, gz_42, gz_43, gz_44, gz_45, hl_v_none, hl_v_ite, hl_d_none, hl_d_ite, hl_3_none, hl_3_ite, hl_4_none, hl_4_ite, hl_5_none, hl_5_ite, hl_v_some, hl_d_some, hl_3_some, hl_4_some, hl_5_some, hl_v_bv, hl_d_bv, hl_3_bv, hl_4_bv, hl_5_bv, hl_bv, hl_v_bd, hl_d_bd, hl_3_bd, hl_4_bd, hl_5_bd, hl_bd, hl_v_b3, hl_d_b3, hl_3_b3, hl_4_b3, hl_5_b3, hl_b3, hl_v_b4, hl_d_b4, hl_3_b4, hl_4_b4, hl_5_b4, hl_b4, hl_v_b5, hl_d_b5, hl_3_b5, hl_4_b5, hl_5_b5, hl_b5, hs_bv_i, hm_bv_i, hR, tX12_caught R hR, tX12_enter R hR, tX12_step R hR, tlX12_run_41 R hR, tlX12_run_130 R hR, tjX12_run_181 R hR]
  all_goals first | rfl | (split <;> simp_all)
set_option maxHeartbeats 4000000 in
theorem tX12_run (R : Nat → Nat → Nat) (hR : R 285 = hm_R) (v1 : Int32) (v2 : Int32) (v3 : Int32) (v4 : Int32) (g : hm) : fX12_run 285 v1 v2 v3 v4 (gm g R) = hl_d R (nX12_run v1 v2 v3 v4 g) := by
  unfold fX12_run nX12_run
  simp only [gm_I, gm_R, gm_w, gm_kd, gm_ln, not_false_eq_true, if_true, ite_true, gk_285, gk_286, gk_287, gk_288, gk_289, gk_290, gk_291, gk_292, gk_293, gk_294, gk_295, gk_296, gk_297, gk_298, gk_299, gk_300, gk_301, gk_302, gk_303, gk_304, gk_305, gk_306, gk_307, gk_308, gk_309, gk_310, gk_311, gk_312, gk_313, gk_314, gk_315, gk_316, gk_317, gk_318, gk_319, gn_286, gn_287, gn_288, gn_289, gn_290, gn_291, gn_292, gn_293, gn_294, gn_295, gn_296, gn_297, gn_298, gn_299, gn_300, gn_301, gn_302, gn_303, gn_304, gn_305, gn_306, gn_307, gn_308, gn_309, gn_310, gn_311, gn_312, gn_313, gn_314, gn_315, gn_316, gn_317, gn_318, gn_319, gr_1, gr_5, gr_6, gr_7, gr_8, gr_9, gr_10, gr_11, gr_12, gr_13, gr_14, gr_15, gr_16, gr_17, gr_18, gr_19, gr_20, gr_21, gr_23, gr_24, gr_25, gr_26, gr_27, gr_28, gr_29, gr_30, gr_32, gr_34, gr_35, gr_41, gr_42, gr_43, gr_44, gr_45, gz_1, gz_5, gz_6, gz_7, gz_8, gz_9, gz_10, gz_11, gz_12, gz_13, gz_14, gz_15, gz_16, gz_17, gz_18, gz_19, gz_20, gz_21, gz_23, gz_24, gz_25, gz_26, gz_27, gz_28, gz_29, gz_30, gz_32, gz_34, gz_35, gz_41, gz_42, gz_43, gz_44, gz_45, hl_v_none, hl_v_ite, hl_d_none, hl_d_ite, hl_3_none, hl_3_ite, hl_4_none, hl_4_ite, hl_5_none, hl_5_ite, hl_v_some, hl_d_some, hl_3_some, hl_4_some, hl_5_some, hl_v_bv, hl_d_bv, hl_3_bv, hl_4_bv, hl_5_bv, hl_bv, hl_v_bd, hl_d_bd, hl_3_bd, hl_4_bd, hl_5_bd, hl_bd, hl_v_b3, hl_d_b3, hl_3_b3, hl_4_b3, hl_5_b3, hl_b3, hl_v_b4, hl_d_b4, hl_3_b4, hl_4_b4, hl_5_b4, hl_b4, hl_v_b5, hl_d_b5, hl_3_b5, hl_4_b5, hl_5_b5, hl_b5, hs_bv_i, hm_bv_i, hR, tX12_caught R hR, tX12_enter R hR, tX12_step R hR, tlX12_run_41 R hR, tlX12_run_130 R hR, tjX12_run_181 R hR, tjX12_run_113 R hR]
  all_goals first | rfl | (split <;> simp_all)
def nX12_answer  (g : hm) : Option (Int32 × hm) :=
  some ((g 285 36), g)
set_option maxHeartbeats 4000000 in
theorem tX12_answer (R : Nat → Nat → Nat) (hR : R 285 = hm_R)  (g : hm) : fX12_answer 285  (gm g R) = hl_d R (nX12_answer  g) := by
  unfold fX12_answer nX12_answer
  simp only [gm_I, gm_R, gm_w, gm_kd, gm_ln, not_false_eq_true, if_true, ite_true, gk_285, gk_286, gk_287, gk_288, gk_289, gk_290, gk_291, gk_292, gk_293, gk_294, gk_295, gk_296, gk_297, gk_298, gk_299, gk_300, gk_301, gk_302, gk_303, gk_304, gk_305, gk_306, gk_307, gk_308, gk_309, gk_310, gk_311, gk_312, gk_313, gk_314, gk_315, gk_316, gk_317, gk_318, gk_319, gn_286, gn_287, gn_288, gn_289, gn_290, gn_291, gn_292, gn_293, gn_294, gn_295, gn_296, gn_297, gn_298, gn_299, gn_300, gn_301, gn_302, gn_303, gn_304, gn_305, gn_306, gn_307, gn_308, gn_309, gn_310, gn_311, gn_312, gn_313, gn_314, gn_315, gn_316, gn_317, gn_318, gn_319, gr_1, gr_5, gr_6, gr_7, gr_8, gr_9, gr_10, gr_11, gr_12, gr_13, gr_14, gr_15, gr_16, gr_17, gr_18, gr_19, gr_20, gr_21, gr_23, gr_24, gr_25, gr_26, gr_27, gr_28, gr_29, gr_30, gr_32, gr_34, gr_35, gr_41, gr_42, gr_43, gr_44, gr_45, gz_1, gz_5, gz_6, gz_7, gz_8, gz_9, gz_10, gz_11, gz_12, gz_13, gz_14, gz_15, gz_16, gz_17, gz_18, gz_19, gz_20, gz_21, gz_23, gz_24, gz_25, gz_26, gz_27, gz_28, gz_29, gz_30, gz_32, gz_34, gz_35, gz_41, gz_42, gz_43, gz_44, gz_45, hl_v_none, hl_v_ite, hl_d_none, hl_d_ite, hl_3_none, hl_3_ite, hl_4_none, hl_4_ite, hl_5_none, hl_5_ite, hl_v_some, hl_d_some, hl_3_some, hl_4_some, hl_5_some, hl_v_bv, hl_d_bv, hl_3_bv, hl_4_bv, hl_5_bv, hl_bv, hl_v_bd, hl_d_bd, hl_3_bd, hl_4_bd, hl_5_bd, hl_bd, hl_v_b3, hl_d_b3, hl_3_b3, hl_4_b3, hl_5_b3, hl_b3, hl_v_b4, hl_d_b4, hl_3_b4, hl_4_b4, hl_5_b4, hl_b4, hl_v_b5, hl_d_b5, hl_3_b5, hl_4_b5, hl_5_b5, hl_b5, hs_bv_i, hm_bv_i, hR]
  all_goals first | rfl | (split <;> simp_all)
def nX12_counted  (g : hm) : Option (Int32 × hm) :=
  some ((g 285 37), g)
set_option maxHeartbeats 4000000 in
theorem tX12_counted (R : Nat → Nat → Nat) (hR : R 285 = hm_R)  (g : hm) : fX12_counted 285  (gm g R) = hl_d R (nX12_counted  g) := by
  unfold fX12_counted nX12_counted
  simp only [gm_I, gm_R, gm_w, gm_kd, gm_ln, not_false_eq_true, if_true, ite_true, gk_285, gk_286, gk_287, gk_288, gk_289, gk_290, gk_291, gk_292, gk_293, gk_294, gk_295, gk_296, gk_297, gk_298, gk_299, gk_300, gk_301, gk_302, gk_303, gk_304, gk_305, gk_306, gk_307, gk_308, gk_309, gk_310, gk_311, gk_312, gk_313, gk_314, gk_315, gk_316, gk_317, gk_318, gk_319, gn_286, gn_287, gn_288, gn_289, gn_290, gn_291, gn_292, gn_293, gn_294, gn_295, gn_296, gn_297, gn_298, gn_299, gn_300, gn_301, gn_302, gn_303, gn_304, gn_305, gn_306, gn_307, gn_308, gn_309, gn_310, gn_311, gn_312, gn_313, gn_314, gn_315, gn_316, gn_317, gn_318, gn_319, gr_1, gr_5, gr_6, gr_7, gr_8, gr_9, gr_10, gr_11, gr_12, gr_13, gr_14, gr_15, gr_16, gr_17, gr_18, gr_19, gr_20, gr_21, gr_23, gr_24, gr_25, gr_26, gr_27, gr_28, gr_29, gr_30, gr_32, gr_34, gr_35, gr_41, gr_42, gr_43, gr_44, gr_45, gz_1, gz_5, gz_6, gz_7, gz_8, gz_9, gz_10, gz_11, gz_12, gz_13, gz_14, gz_15, gz_16, gz_17, gz_18, gz_19, gz_20, gz_21, gz_23, gz_24, gz_25, gz_26, gz_27, gz_28, gz_29, gz_30, gz_32, gz_34, gz_35, gz_41, gz_42, gz_43, gz_44, gz_45, hl_v_none, hl_v_ite, hl_d_none, hl_d_ite, hl_3_none, hl_3_ite, hl_4_none, hl_4_ite, hl_5_none, hl_5_ite, hl_v_some, hl_d_some, hl_3_some, hl_4_some, hl_5_some, hl_v_bv, hl_d_bv, hl_3_bv, hl_4_bv, hl_5_bv, hl_bv, hl_v_bd, hl_d_bd, hl_3_bd, hl_4_bd, hl_5_bd, hl_bd, hl_v_b3, hl_d_b3, hl_3_b3, hl_4_b3, hl_5_b3, hl_b3, hl_v_b4, hl_d_b4, hl_3_b4, hl_4_b4, hl_5_b4, hl_b4, hl_v_b5, hl_d_b5, hl_3_b5, hl_4_b5, hl_5_b5, hl_b5, hs_bv_i, hm_bv_i, hR]
  all_goals first | rfl | (split <;> simp_all)
def nX12_steps  (g : hm) : Option (Int32 × hm) :=
  some ((g 285 38), g)
set_option maxHeartbeats 4000000 in
theorem tX12_steps (R : Nat → Nat → Nat) (hR : R 285 = hm_R)  (g : hm) : fX12_steps 285  (gm g R) = hl_d R (nX12_steps  g) := by
  unfold fX12_steps nX12_steps
  simp only [gm_I, gm_R, gm_w, gm_kd, gm_ln, not_false_eq_true, if_true, ite_true, gk_285, gk_286, gk_287, gk_288, gk_289, gk_290, gk_291, gk_292, gk_293, gk_294, gk_295, gk_296, gk_297, gk_298, gk_299, gk_300, gk_301, gk_302, gk_303, gk_304, gk_305, gk_306, gk_307, gk_308, gk_309, gk_310, gk_311, gk_312, gk_313, gk_314, gk_315, gk_316, gk_317, gk_318, gk_319, gn_286, gn_287, gn_288, gn_289, gn_290, gn_291, gn_292, gn_293, gn_294, gn_295, gn_296, gn_297, gn_298, gn_299, gn_300, gn_301, gn_302, gn_303, gn_304, gn_305, gn_306, gn_307, gn_308, gn_309, gn_310, gn_311, gn_312, gn_313, gn_314, gn_315, gn_316, gn_317, gn_318, gn_319, gr_1, gr_5, gr_6, gr_7, gr_8, gr_9, gr_10, gr_11, gr_12, gr_13, gr_14, gr_15, gr_16, gr_17, gr_18, gr_19, gr_20, gr_21, gr_23, gr_24, gr_25, gr_26, gr_27, gr_28, gr_29, gr_30, gr_32, gr_34, gr_35, gr_41, gr_42, gr_43, gr_44, gr_45, gz_1, gz_5, gz_6, gz_7, gz_8, gz_9, gz_10, gz_11, gz_12, gz_13, gz_14, gz_15, gz_16, gz_17, gz_18, gz_19, gz_20, gz_21, gz_23, gz_24, gz_25, gz_26, gz_27, gz_28, gz_29, gz_30, gz_32, gz_34, gz_35, gz_41, gz_42, gz_43, gz_44, gz_45, hl_v_none, hl_v_ite, hl_d_none, hl_d_ite, hl_3_none, hl_3_ite, hl_4_none, hl_4_ite, hl_5_none, hl_5_ite, hl_v_some, hl_d_some, hl_3_some, hl_4_some, hl_5_some, hl_v_bv, hl_d_bv, hl_3_bv, hl_4_bv, hl_5_bv, hl_bv, hl_v_bd, hl_d_bd, hl_3_bd, hl_4_bd, hl_5_bd, hl_bd, hl_v_b3, hl_d_b3, hl_3_b3, hl_4_b3, hl_5_b3, hl_b3, hl_v_b4, hl_d_b4, hl_3_b4, hl_4_b4, hl_5_b4, hl_b4, hl_v_b5, hl_d_b5, hl_3_b5, hl_4_b5, hl_5_b5, hl_b5, hs_bv_i, hm_bv_i, hR]
  all_goals first | rfl | (split <;> simp_all)
def njX12_element_38  (g : hm) : Option (Int32 × hm) :=
  some ((-1 : Int32), g)
def nX12_element (v1 : Int32) (v2 : Int32) (g : hm) : Option (Int32 × hm) :=
  if v1 < 0 then (
    some ((-3 : Int32), g)
  ) else (
    if v1 ≤ (3 : Int32) then (
      if v2 = (-1 : Int32) then (
        if hs_in v1 4 = true then
        some ((g 313 v1.toNatClampNeg), g)
        else none
      ) else (
        if v2 < 0 then (
          njX12_element_38 g
        ) else (
          if hs_in v1 4 = true then
          if v2 < (g 313 v1.toNatClampNeg) then (
            if hs_in (((1001 : Int32) * v1) + v2) 4004 = true then
            some ((g 314 (((1001 : Int32) * v1) + v2).toNatClampNeg), g)
            else none
          ) else (
            njX12_element_38 g
          )
          else none
        )
      )
    ) else (
      some ((-3 : Int32), g)
    )
  )
set_option maxHeartbeats 4000000 in
theorem tjX12_element_38 (R : Nat → Nat → Nat) (hR : R 285 = hm_R)  (g : hm) : jX12_element_38  (gm g R) = hl_d R (njX12_element_38  g) := by
  unfold jX12_element_38 njX12_element_38
  simp only [gm_I, gm_R, gm_w, gm_kd, gm_ln, not_false_eq_true, if_true, ite_true, gk_285, gk_286, gk_287, gk_288, gk_289, gk_290, gk_291, gk_292, gk_293, gk_294, gk_295, gk_296, gk_297, gk_298, gk_299, gk_300, gk_301, gk_302, gk_303, gk_304, gk_305, gk_306, gk_307, gk_308, gk_309, gk_310, gk_311, gk_312, gk_313, gk_314, gk_315, gk_316, gk_317, gk_318, gk_319, gn_286, gn_287, gn_288, gn_289, gn_290, gn_291, gn_292, gn_293, gn_294, gn_295, gn_296, gn_297, gn_298, gn_299, gn_300, gn_301, gn_302, gn_303, gn_304, gn_305, gn_306, gn_307, gn_308, gn_309, gn_310, gn_311, gn_312, gn_313, gn_314, gn_315, gn_316, gn_317, gn_318, gn_319, gr_1, gr_5, gr_6, gr_7, gr_8, gr_9, gr_10, gr_11, gr_12, gr_13, gr_14, gr_15, gr_16, gr_17, gr_18, gr_19, gr_20, gr_21, gr_23, gr_24, gr_25, gr_26, gr_27, gr_28, gr_29, gr_30, gr_32, gr_34, gr_35, gr_41, gr_42, gr_43, gr_44, gr_45, gz_1, gz_5, gz_6, gz_7, gz_8, gz_9, gz_10, gz_11, gz_12, gz_13, gz_14, gz_15, gz_16, gz_17, gz_18, gz_19, gz_20, gz_21, gz_23, gz_24, gz_25, gz_26, gz_27, gz_28, gz_29, gz_30, gz_32, gz_34, gz_35, gz_41, gz_42, gz_43, gz_44, gz_45, hl_v_none, hl_v_ite, hl_d_none, hl_d_ite, hl_3_none, hl_3_ite, hl_4_none, hl_4_ite, hl_5_none, hl_5_ite, hl_v_some, hl_d_some, hl_3_some, hl_4_some, hl_5_some, hl_v_bv, hl_d_bv, hl_3_bv, hl_4_bv, hl_5_bv, hl_bv, hl_v_bd, hl_d_bd, hl_3_bd, hl_4_bd, hl_5_bd, hl_bd, hl_v_b3, hl_d_b3, hl_3_b3, hl_4_b3, hl_5_b3, hl_b3, hl_v_b4, hl_d_b4, hl_3_b4, hl_4_b4, hl_5_b4, hl_b4, hl_v_b5, hl_d_b5, hl_3_b5, hl_4_b5, hl_5_b5, hl_b5, hs_bv_i, hm_bv_i, hR]
  all_goals first | rfl | (split <;> simp_all)
set_option maxHeartbeats 4000000 in
theorem tX12_element (R : Nat → Nat → Nat) (hR : R 285 = hm_R) (v1 : Int32) (v2 : Int32) (g : hm) : fX12_element 285 v1 v2 (gm g R) = hl_d R (nX12_element v1 v2 g) := by
  unfold fX12_element nX12_element
  simp only [gm_I, gm_R, gm_w, gm_kd, gm_ln, not_false_eq_true, if_true, ite_true, gk_285, gk_286, gk_287, gk_288, gk_289, gk_290, gk_291, gk_292, gk_293, gk_294, gk_295, gk_296, gk_297, gk_298, gk_299, gk_300, gk_301, gk_302, gk_303, gk_304, gk_305, gk_306, gk_307, gk_308, gk_309, gk_310, gk_311, gk_312, gk_313, gk_314, gk_315, gk_316, gk_317, gk_318, gk_319, gn_286, gn_287, gn_288, gn_289, gn_290, gn_291, gn_292, gn_293, gn_294, gn_295, gn_296, gn_297, gn_298, gn_299, gn_300, gn_301, gn_302, gn_303, gn_304, gn_305, gn_306, gn_307, gn_308, gn_309, gn_310, gn_311, gn_312, gn_313, gn_314, gn_315, gn_316, gn_317, gn_318, gn_319, gr_1, gr_5, gr_6, gr_7, gr_8, gr_9, gr_10, gr_11, gr_12, gr_13, gr_14, gr_15, gr_16, gr_17, gr_18, gr_19, gr_20, gr_21, gr_23, gr_24, gr_25, gr_26, gr_27, gr_28, gr_29, gr_30, gr_32, gr_34, gr_35, gr_41, gr_42, gr_43, gr_44, gr_45, gz_1, gz_5, gz_6, gz_7, gz_8, gz_9, gz_10, gz_11, gz_12, gz_13, gz_14, gz_15, gz_16, gz_17, gz_18, gz_19, gz_20, gz_21, gz_23, gz_24, gz_25, gz_26, gz_27, gz_28, gz_29, gz_30, gz_32, gz_34, gz_35, gz_41, gz_42, gz_43, gz_44, gz_45, hl_v_none, hl_v_ite, hl_d_none, hl_d_ite, hl_3_none, hl_3_ite, hl_4_none, hl_4_ite, hl_5_none, hl_5_ite, hl_v_some, hl_d_some, hl_3_some, hl_4_some, hl_5_some, hl_v_bv, hl_d_bv, hl_3_bv, hl_4_bv, hl_5_bv, hl_bv, hl_v_bd, hl_d_bd, hl_3_bd, hl_4_bd, hl_5_bd, hl_bd, hl_v_b3, hl_d_b3, hl_3_b3, hl_4_b3, hl_5_b3, hl_b3, hl_v_b4, hl_d_b4, hl_3_b4, hl_4_b4, hl_5_b4, hl_b4, hl_v_b5, hl_d_b5, hl_3_b5, hl_4_b5, hl_5_b5, hl_b5, hs_bv_i, hm_bv_i, hR, tjX12_element_38 R hR]
  all_goals first | rfl | (split <;> simp_all)
def nlX12_unwrite_67 : Nat → Int32 → Int32 → Int32 → Int32 → Int32 → Int32 → hm → Option (hm)
  | 0, _, _, _, _, _, _, _ => none
  | n + 1, v1, v2, v3, v4, v5, v6, g =>
    if (3 : Int32) ≤ v6 then (
      some g
    ) else (
      if hs_in (v5 + v6) 256 = true then
      if hs_in (g 291 (v5 + v6).toNatClampNeg) 2001 = true then
      nlX12_unwrite_67 n v1 v2 v3 v4 v5 (v6 + (1 : Int32)) (hm_w g 291 (v5 + v6).toNatClampNeg (g 308 (g 291 (v5 + v6).toNatClampNeg).toNatClampNeg))
      else none else none
    )
theorem nlX12_unwrite_67_s (n : Nat) (v1 : Int32) (v2 : Int32) (v3 : Int32) (v4 : Int32) (v5 : Int32) (v6 : Int32) (g : hm) : nlX12_unwrite_67 (n + 1) v1 v2 v3 v4 v5 v6 g =
    if (3 : Int32) ≤ v6 then (
      some g
    ) else (
      if hs_in (v5 + v6) 256 = true then
      if hs_in (g 291 (v5 + v6).toNatClampNeg) 2001 = true then
      nlX12_unwrite_67 n v1 v2 v3 v4 v5 (v6 + (1 : Int32)) (hm_w g 291 (v5 + v6).toNatClampNeg (g 308 (g 291 (v5 + v6).toNatClampNeg).toNatClampNeg))
      else none else none
    ) := rfl
def nlX12_unwrite_42 : Nat → Int32 → Int32 → Int32 → Int32 → hm → Option (hm)
  | 0, _, _, _, _, _ => none
  | n + 1, v1, v2, v3, v4, g =>
    if hs_in v2 8 = true then
    if (g 290 v2.toNatClampNeg) ≤ v4 then (
      some g
    ) else (
      hm_bv (nlX12_unwrite_67 hs_N v1 v2 v3 v4 (((32 : Int32) * v2) + ((4 : Int32) * v4)) (0 : Int32) g) fun g6 =>
      nlX12_unwrite_42 n v1 v2 v3 (v4 + (1 : Int32)) g6
    )
    else none
theorem nlX12_unwrite_42_s (n : Nat) (v1 : Int32) (v2 : Int32) (v3 : Int32) (v4 : Int32) (g : hm) : nlX12_unwrite_42 (n + 1) v1 v2 v3 v4 g =
    if hs_in v2 8 = true then
    if (g 290 v2.toNatClampNeg) ≤ v4 then (
      some g
    ) else (
      hm_bv (nlX12_unwrite_67 hs_N v1 v2 v3 v4 (((32 : Int32) * v2) + ((4 : Int32) * v4)) (0 : Int32) g) fun g6 =>
      nlX12_unwrite_42 n v1 v2 v3 (v4 + (1 : Int32)) g6
    )
    else none := rfl
def nlX12_unwrite_113 : Nat → Int32 → Int32 → Int32 → Int32 → hm → Option (hm)
  | 0, _, _, _, _, _ => none
  | n + 1, v1, v2, v3, v4, g =>
    if v3 ≤ v4 then (
      some g
    ) else (
      if hs_in v4 12008 = true then
      if hs_in (((2001 : Int32) * v2) + v4) 16008 = true then
      nlX12_unwrite_113 n v1 v2 v3 (v4 + (1 : Int32)) (hm_w g 292 (((2001 : Int32) * v2) + v4).toNatClampNeg (g 311 v4.toNatClampNeg))
      else none else none
    )
theorem nlX12_unwrite_113_s (n : Nat) (v1 : Int32) (v2 : Int32) (v3 : Int32) (v4 : Int32) (g : hm) : nlX12_unwrite_113 (n + 1) v1 v2 v3 v4 g =
    if v3 ≤ v4 then (
      some g
    ) else (
      if hs_in v4 12008 = true then
      if hs_in (((2001 : Int32) * v2) + v4) 16008 = true then
      nlX12_unwrite_113 n v1 v2 v3 (v4 + (1 : Int32)) (hm_w g 292 (((2001 : Int32) * v2) + v4).toNatClampNeg (g 311 v4.toNatClampNeg))
      else none else none
    ) := rfl
def nlX12_unwrite_14 : Nat → Int32 → Int32 → hm → Option (Int32 × hm)
  | 0, _, _, _ => none
  | n + 1, v1, v2, g =>
    if (g 285 4) ≤ v2 then (
      some (v1, g)
    ) else (
      hm_bd (nX12_lay v2 (0 : Int32) g) fun r2 g1 =>
      hm_bv (nX12_put v2 (0 : Int32) g1) fun g3 =>
      hm_bv (nlX12_unwrite_42 hs_N (v1 + r2) v2 r2 (0 : Int32) g3) fun g9 =>
      hm_bv (nlX12_unwrite_113 hs_N (v1 + r2) v2 r2 (0 : Int32) g9) fun g12 =>
      if hs_in v2 8 = true then
      nlX12_unwrite_14 n (v1 + r2) (v2 + (1 : Int32)) (hm_w g12 289 v2.toNatClampNeg r2)
      else none
    )
theorem nlX12_unwrite_14_s (n : Nat) (v1 : Int32) (v2 : Int32) (g : hm) : nlX12_unwrite_14 (n + 1) v1 v2 g =
    if (g 285 4) ≤ v2 then (
      some (v1, g)
    ) else (
      hm_bd (nX12_lay v2 (0 : Int32) g) fun r2 g1 =>
      hm_bv (nX12_put v2 (0 : Int32) g1) fun g3 =>
      hm_bv (nlX12_unwrite_42 hs_N (v1 + r2) v2 r2 (0 : Int32) g3) fun g9 =>
      hm_bv (nlX12_unwrite_113 hs_N (v1 + r2) v2 r2 (0 : Int32) g9) fun g12 =>
      if hs_in v2 8 = true then
      nlX12_unwrite_14 n (v1 + r2) (v2 + (1 : Int32)) (hm_w g12 289 v2.toNatClampNeg r2)
      else none
    ) := rfl
def nX12_unwrite  (g : hm) : Option (Int32 × hm) :=
  if (g 285 22) = 0 then (
    some ((-2 : Int32), g)
  ) else (
    hm_bd (nlX12_unwrite_14 hs_N (0 : Int32) (0 : Int32) g) fun x14 g16 =>
    some (x14, g16)
  )
set_option maxHeartbeats 4000000 in
theorem tlX12_unwrite_67 (R : Nat → Nat → Nat) (hR : R 285 = hm_R) : ∀ (n : Nat) (v1 : Int32) (v2 : Int32) (v3 : Int32) (v4 : Int32) (v5 : Int32) (v6 : Int32) (g : hm), lX12_unwrite_67 n 285 v1 v2 v3 v4 v5 v6 (gm g R) = hl_v R (nlX12_unwrite_67 n v1 v2 v3 v4 v5 v6 g) := by
  intro n
  induction n with
  | zero => intros; rfl
  | succ n ih =>
    intro v1 v2 v3 v4 v5 v6 g
    rw [lX12_unwrite_67_s, nlX12_unwrite_67_s]
    simp only [gm_I, gm_R, gm_w, gm_kd, gm_ln, not_false_eq_true, if_true, ite_true, gk_285, gk_286, gk_287, gk_288, gk_289, gk_290, gk_291, gk_292, gk_293, gk_294, gk_295, gk_296, gk_297, gk_298, gk_299, gk_300, gk_301, gk_302, gk_303, gk_304, gk_305, gk_306, gk_307, gk_308, gk_309, gk_310, gk_311, gk_312, gk_313, gk_314, gk_315, gk_316, gk_317, gk_318, gk_319, gn_286, gn_287, gn_288, gn_289, gn_290, gn_291, gn_292, gn_293, gn_294, gn_295, gn_296, gn_297, gn_298, gn_299, gn_300, gn_301, gn_302, gn_303, gn_304, gn_305, gn_306, gn_307, gn_308, gn_309, gn_310, gn_311, gn_312, gn_313, gn_314, gn_315, gn_316, gn_317, gn_318, gn_319, gr_1, gr_5, gr_6, gr_7, gr_8, gr_9, gr_10, gr_11, gr_12, gr_13, gr_14, gr_15, gr_16, gr_17, gr_18, gr_19, gr_20, gr_21, gr_23, gr_24, gr_25, gr_26, gr_27, gr_28, gr_29, gr_30, gr_32, gr_34, gr_35, gr_41, gr_42, gr_43, gr_44, gr_45, gz_1, gz_5, gz_6, gz_7, gz_8, gz_9, gz_10, gz_11, gz_12, gz_13, gz_14, gz_15, gz_16, gz_17, gz_18, gz_19, gz_20, gz_21, gz_23, gz_24, gz_25, gz_26, gz_27, gz_28, gz_29, gz_30, gz_32, gz_34, gz_35, gz_41, gz_42, gz_43, gz_44, gz_45, hl_v_none, hl_v_ite, hl_d_none, hl_d_ite, hl_3_none, hl_3_ite, hl_4_none, hl_4_ite, hl_5_none, hl_5_ite, hl_v_some, hl_d_some, hl_3_some, hl_4_some, hl_5_some, hl_v_bv, hl_d_bv, hl_3_bv, hl_4_bv, hl_5_bv, hl_bv, hl_v_bd, hl_d_bd, hl_3_bd, hl_4_bd, hl_5_bd, hl_bd, hl_v_b3, hl_d_b3, hl_3_b3, hl_4_b3, hl_5_b3, hl_b3, hl_v_b4, hl_d_b4, hl_3_b4, hl_4_b4, hl_5_b4, hl_b4, hl_v_b5, hl_d_b5, hl_3_b5, hl_4_b5, hl_5_b5, hl_b5, hs_bv_i, hm_bv_i, hR, tX12_lay R hR, tX12_put R hR, ih]
    all_goals first | rfl | (split <;> simp_all)
set_option maxHeartbeats 4000000 in
theorem tlX12_unwrite_42 (R : Nat → Nat → Nat) (hR : R 285 = hm_R) : ∀ (n : Nat) (v1 : Int32) (v2 : Int32) (v3 : Int32) (v4 : Int32) (g : hm), lX12_unwrite_42 n 285 v1 v2 v3 v4 (gm g R) = hl_v R (nlX12_unwrite_42 n v1 v2 v3 v4 g) := by
  intro n
  induction n with
  | zero => intros; rfl
  | succ n ih =>
    intro v1 v2 v3 v4 g
    rw [lX12_unwrite_42_s, nlX12_unwrite_42_s]
    simp only [gm_I, gm_R, gm_w, gm_kd, gm_ln, not_false_eq_true, if_true, ite_true, gk_285, gk_286, gk_287, gk_288, gk_289, gk_290, gk_291, gk_292, gk_293, gk_294, gk_295, gk_296, gk_297, gk_298, gk_299, gk_300, gk_301, gk_302, gk_303, gk_304, gk_305, gk_306, gk_307, gk_308, gk_309, gk_310, gk_311, gk_312, gk_313, gk_314, gk_315, gk_316, gk_317, gk_318, gk_319, gn_286, gn_287, gn_288, gn_289, gn_290, gn_291, gn_292, gn_293, gn_294, gn_295, gn_296, gn_297, gn_298, gn_299, gn_300, gn_301, gn_302, gn_303, gn_304, gn_305, gn_306, gn_307, gn_308, gn_309, gn_310, gn_311, gn_312, gn_313, gn_314, gn_315, gn_316, gn_317, gn_318, gn_319, gr_1, gr_5, gr_6, gr_7, gr_8, gr_9, gr_10, gr_11, gr_12, gr_13, gr_14, gr_15, gr_16, gr_17, gr_18, gr_19, gr_20, gr_21, gr_23, gr_24, gr_25, gr_26, gr_27, gr_28, gr_29, gr_30, gr_32, gr_34, gr_35, gr_41, gr_42, gr_43, gr_44, gr_45, gz_1, gz_5, gz_6, gz_7, gz_8, gz_9, gz_10, gz_11, gz_12, gz_13, gz_14, gz_15, gz_16, gz_17, gz_18, gz_19, gz_20, gz_21, gz_23, gz_24, gz_25, gz_26, gz_27, gz_28, gz_29, gz_30, gz_32, gz_34, gz_35, gz_41, gz_42, gz_43, gz_44, gz_45, hl_v_none, hl_v_ite, hl_d_none, hl_d_ite, hl_3_none, hl_3_ite, hl_4_none, hl_4_ite, hl_5_none, hl_5_ite, hl_v_some, hl_d_some, hl_3_some, hl_4_some, hl_5_some, hl_v_bv, hl_d_bv, hl_3_bv, hl_4_bv, hl_5_bv, hl_bv, hl_v_bd, hl_d_bd, hl_3_bd, hl_4_bd, hl_5_bd, hl_bd, hl_v_b3, hl_d_b3, hl_3_b3, hl_4_b3, hl_5_b3, hl_b3, hl_v_b4, hl_d_b4, hl_3_b4, hl_4_b4, hl_5_b4, hl_b4, hl_v_b5, hl_d_b5, hl_3_b5, hl_4_b5, hl_5_b5, hl_b5, hs_bv_i, hm_bv_i, hR, tX12_lay R hR, tX12_put R hR, tlX12_unwrite_67 R hR, ih]
    all_goals first | rfl | (split <;> simp_all)
set_option maxHeartbeats 4000000 in
theorem tlX12_unwrite_113 (R : Nat → Nat → Nat) (hR : R 285 = hm_R) : ∀ (n : Nat) (v1 : Int32) (v2 : Int32) (v3 : Int32) (v4 : Int32) (g : hm), lX12_unwrite_113 n 285 v1 v2 v3 v4 (gm g R) = hl_v R (nlX12_unwrite_113 n v1 v2 v3 v4 g) := by
  intro n
  induction n with
  | zero => intros; rfl
  | succ n ih =>
    intro v1 v2 v3 v4 g
    rw [lX12_unwrite_113_s, nlX12_unwrite_113_s]
    simp only [gm_I, gm_R, gm_w, gm_kd, gm_ln, not_false_eq_true, if_true, ite_true, gk_285, gk_286, gk_287, gk_288, gk_289, gk_290, gk_291, gk_292, gk_293, gk_294, gk_295, gk_296, gk_297, gk_298, gk_299, gk_300, gk_301, gk_302, gk_303, gk_304, gk_305, gk_306, gk_307, gk_308, gk_309, gk_310, gk_311, gk_312, gk_313, gk_314, gk_315, gk_316, gk_317, gk_318, gk_319, gn_286, gn_287, gn_288, gn_289, gn_290, gn_291, gn_292, gn_293, gn_294, gn_295, gn_296, gn_297, gn_298, gn_299, gn_300, gn_301, gn_302, gn_303, gn_304, gn_305, gn_306, gn_307, gn_308, gn_309, gn_310, gn_311, gn_312, gn_313, gn_314, gn_315, gn_316, gn_317, gn_318, gn_319, gr_1, gr_5, gr_6, gr_7, gr_8, gr_9, gr_10, gr_11, gr_12, gr_13, gr_14, gr_15, gr_16, gr_17, gr_18, gr_19, gr_20, gr_21, gr_23, gr_24, gr_25, gr_26, gr_27, gr_28, gr_29, gr_30, gr_32, gr_34, gr_35, gr_41, gr_42, gr_43, gr_44, gr_45, gz_1, gz_5, gz_6, gz_7, gz_8, gz_9, gz_10, gz_11, gz_12, gz_13, gz_14, gz_15, gz_16, gz_17, gz_18, gz_19, gz_20, gz_21, gz_23, gz_24, gz_25, gz_26, gz_27, gz_28, gz_29, gz_30, gz_32, gz_34, gz_35, gz_41, gz_42, gz_43, gz_44, gz_45, hl_v_none, hl_v_ite, hl_d_none, hl_d_ite, hl_3_none, hl_3_ite, hl_4_none, hl_4_ite, hl_5_none, hl_5_ite, hl_v_some, hl_d_some, hl_3_some, hl_4_some, hl_5_some, hl_v_bv, hl_d_bv, hl_3_bv, hl_4_bv, hl_5_bv, hl_bv, hl_v_bd, hl_d_bd, hl_3_bd, hl_4_bd, hl_5_bd, hl_bd, hl_v_b3, hl_d_b3, hl_3_b3, hl_4_b3, hl_5_b3, hl_b3, hl_v_b4, hl_d_b4, hl_3_b4, hl_4_b4, hl_5_b4, hl_b4, hl_v_b5, hl_d_b5, hl_3_b5, hl_4_b5, hl_5_b5, hl_b5, hs_bv_i, hm_bv_i, hR, tX12_lay R hR, tX12_put R hR, tlX12_unwrite_67 R hR, tlX12_unwrite_42 R hR, ih]
    all_goals first | rfl | (split <;> simp_all)
set_option maxHeartbeats 4000000 in
theorem tlX12_unwrite_14 (R : Nat → Nat → Nat) (hR : R 285 = hm_R) : ∀ (n : Nat) (v1 : Int32) (v2 : Int32) (g : hm), lX12_unwrite_14 n 285 v1 v2 (gm g R) = hl_d R (nlX12_unwrite_14 n v1 v2 g) := by
  intro n
  induction n with
  | zero => intros; rfl
  | succ n ih =>
    intro v1 v2 g
    rw [lX12_unwrite_14_s, nlX12_unwrite_14_s]
    simp only [gm_I, gm_R, gm_w, gm_kd, gm_ln, not_false_eq_true, if_true, ite_true, gk_285, gk_286, gk_287, gk_288, gk_289, gk_290, gk_291, gk_292, gk_293, gk_294, gk_295, gk_296, gk_297, gk_298, gk_299, gk_300, gk_301, gk_302, gk_303, gk_304, gk_305, gk_306, gk_307, gk_308, gk_309, gk_310, gk_311, gk_312, gk_313, gk_314, gk_315, gk_316, gk_317, gk_318, gk_319, gn_286, gn_287, gn_288, gn_289, gn_290, gn_291, gn_292, gn_293, gn_294, gn_295, gn_296, gn_297, gn_298, gn_299, gn_300, gn_301, gn_302, gn_303, gn_304, gn_305, gn_306, gn_307, gn_308, gn_309, gn_310, gn_311, gn_312, gn_313, gn_314, gn_315, gn_316, gn_317, gn_318, gn_319, gr_1, gr_5, gr_6, gr_7, gr_8, gr_9, gr_10, gr_11, gr_12, gr_13, gr_14, gr_15, gr_16, gr_17, gr_18, gr_19, gr_20, gr_21, gr_23, gr_24, gr_25, gr_26, gr_27, gr_28, gr_29, gr_30, gr_32, gr_34, gr_35, gr_41, gr_42, gr_43, gr_44, gr_45, gz_1, gz_5, gz_6, gz_7, gz_8, gz_9, gz_10, gz_11, gz_12, gz_13, gz_14, gz_15, gz_16, gz_17, gz_18, gz_19, gz_20, gz_21, gz_23, gz_24, gz_25, gz_26, gz_27, gz_28, gz_29, gz_30, gz_32, gz_34, gz_35, gz_41, gz_42, gz_43, gz_44, gz_45, hl_v_none, hl_v_ite, hl_d_none, hl_d_ite, hl_3_none, hl_3_ite, hl_4_none, hl_4_ite, hl_5_none, hl_5_ite, hl_v_some, hl_d_some, hl_3_some, hl_4_some, hl_5_some, hl_v_bv, hl_d_bv, hl_3_bv, hl_4_bv, hl_5_bv, hl_bv, hl_v_bd, hl_d_bd, hl_3_bd, hl_4_bd, hl_5_bd, hl_bd, hl_v_b3, hl_d_b3, hl_3_b3, hl_4_b3, hl_5_b3, hl_b3, hl_v_b4, hl_d_b4, hl_3_b4, hl_4_b4, hl_5_b4, hl_b4, hl_v_b5, hl_d_b5, hl_3_b5, hl_4_b5, hl_5_b5, hl_b5, hs_bv_i, hm_bv_i, hR, tX12_lay R hR, tX12_put R hR, tlX12_unwrite_67 R hR, tlX12_unwrite_42 R hR, tlX12_unwrite_113 R hR, ih]
    all_goals first | rfl | (split <;> simp_all)
set_option maxHeartbeats 4000000 in
theorem tX12_unwrite (R : Nat → Nat → Nat) (hR : R 285 = hm_R)  (g : hm) : fX12_unwrite 285  (gm g R) = hl_d R (nX12_unwrite  g) := by
  unfold fX12_unwrite nX12_unwrite
  simp only [gm_I, gm_R, gm_w, gm_kd, gm_ln, not_false_eq_true, if_true, ite_true, gk_285, gk_286, gk_287, gk_288, gk_289, gk_290, gk_291, gk_292, gk_293, gk_294, gk_295, gk_296, gk_297, gk_298, gk_299, gk_300, gk_301, gk_302, gk_303, gk_304, gk_305, gk_306, gk_307, gk_308, gk_309, gk_310, gk_311, gk_312, gk_313, gk_314, gk_315, gk_316, gk_317, gk_318, gk_319, gn_286, gn_287, gn_288, gn_289, gn_290, gn_291, gn_292, gn_293, gn_294, gn_295, gn_296, gn_297, gn_298, gn_299, gn_300, gn_301, gn_302, gn_303, gn_304, gn_305, gn_306, gn_307, gn_308, gn_309, gn_310, gn_311, gn_312, gn_313, gn_314, gn_315, gn_316, gn_317, gn_318, gn_319, gr_1, gr_5, gr_6, gr_7, gr_8, gr_9, gr_10, gr_11, gr_12, gr_13, gr_14, gr_15, gr_16, gr_17, gr_18, gr_19, gr_20, gr_21, gr_23, gr_24, gr_25, gr_26, gr_27, gr_28, gr_29, gr_30, gr_32, gr_34, gr_35, gr_41, gr_42, gr_43, gr_44, gr_45, gz_1, gz_5, gz_6, gz_7, gz_8, gz_9, gz_10, gz_11, gz_12, gz_13, gz_14, gz_15, gz_16, gz_17, gz_18, gz_19, gz_20, gz_21, gz_23, gz_24, gz_25, gz_26, gz_27, gz_28, gz_29, gz_30, gz_32, gz_34, gz_35, gz_41, gz_42, gz_43, gz_44, gz_45, hl_v_none, hl_v_ite, hl_d_none, hl_d_ite, hl_3_none, hl_3_ite, hl_4_none, hl_4_ite, hl_5_none, hl_5_ite, hl_v_some, hl_d_some, hl_3_some, hl_4_some, hl_5_some, hl_v_bv, hl_d_bv, hl_3_bv, hl_4_bv, hl_5_bv, hl_bv, hl_v_bd, hl_d_bd, hl_3_bd, hl_4_bd, hl_5_bd, hl_bd, hl_v_b3, hl_d_b3, hl_3_b3, hl_4_b3, hl_5_b3, hl_b3, hl_v_b4, hl_d_b4, hl_3_b4, hl_4_b4, hl_5_b4, hl_b4, hl_v_b5, hl_d_b5, hl_3_b5, hl_4_b5, hl_5_b5, hl_b5, hs_bv_i, hm_bv_i, hR, tX12_lay R hR, tX12_put R hR, tlX12_unwrite_67 R hR, tlX12_unwrite_42 R hR, tlX12_unwrite_113 R hR, tlX12_unwrite_14 R hR]
  all_goals first | rfl | (split <;> simp_all)
def njX12_begin_26 (rec : Int32 → hm → Option (hm)) (v1 : Int32) (s0 : Int32) (s1 : Int32) (g : hm) : Option (hm) :=
  if hs_in s1 256 = true then
  rec (v1 + (1 : Int32)) (hm_w g 312 s1.toNatClampNeg s0)
  else none
def nlX12_begin_2 : Nat → Int32 → hm → Option (hm)
  | 0, _, _ => none
  | n + 1, v1, g =>
    if (256 : Int32) ≤ v1 then (
      some g
    ) else (
      if v1 = (184 : Int32) then (
        njX12_begin_26 (fun y0 g => nlX12_begin_2 n y0 g) v1 (5 : Int32) v1 g
      ) else (
        njX12_begin_26 (fun y0 g => nlX12_begin_2 n y0 g) v1 (1 : Int32) v1 g
      )
    )
theorem nlX12_begin_2_s (n : Nat) (v1 : Int32) (g : hm) : nlX12_begin_2 (n + 1) v1 g =
    if (256 : Int32) ≤ v1 then (
      some g
    ) else (
      if v1 = (184 : Int32) then (
        njX12_begin_26 (fun y0 g => nlX12_begin_2 n y0 g) v1 (5 : Int32) v1 g
      ) else (
        njX12_begin_26 (fun y0 g => nlX12_begin_2 n y0 g) v1 (1 : Int32) v1 g
      )
    ) := rfl
def nX12_begin  (g : hm) : Option (hm) :=
  hm_bv (nlX12_begin_2 hs_N (0 : Int32) g) fun g2 =>
  some g2
set_option maxHeartbeats 4000000 in
theorem tjX12_begin_26 (R : Nat → Nat → Nat) (hR : R 285 = hm_R) (rec : Int32 → hs_S → Option (hs_S)) (rec2 : Int32 → hm → Option (hm)) (hrec : ∀ (y0 : Int32) (g : hm), rec y0 (gm g R) = hl_v R (rec2 y0 g)) (v1 : Int32) (s0 : Int32) (s1 : Int32) (g : hm) : jX12_begin_26 rec 285 v1 s0 s1 312 (gm g R) = hl_v R (njX12_begin_26 rec2 v1 s0 s1 g) := by
  unfold jX12_begin_26 njX12_begin_26
  simp only [gm_I, gm_R, gm_w, gm_kd, gm_ln, not_false_eq_true, if_true, ite_true, gk_285, gk_286, gk_287, gk_288, gk_289, gk_290, gk_291, gk_292, gk_293, gk_294, gk_295, gk_296, gk_297, gk_298, gk_299, gk_300, gk_301, gk_302, gk_303, gk_304, gk_305, gk_306, gk_307, gk_308, gk_309, gk_310, gk_311, gk_312, gk_313, gk_314, gk_315, gk_316, gk_317, gk_318, gk_319, gn_286, gn_287, gn_288, gn_289, gn_290, gn_291, gn_292, gn_293, gn_294, gn_295, gn_296, gn_297, gn_298, gn_299, gn_300, gn_301, gn_302, gn_303, gn_304, gn_305, gn_306, gn_307, gn_308, gn_309, gn_310, gn_311, gn_312, gn_313, gn_314, gn_315, gn_316, gn_317, gn_318, gn_319, gr_1, gr_5, gr_6, gr_7, gr_8, gr_9, gr_10, gr_11, gr_12, gr_13, gr_14, gr_15, gr_16, gr_17, gr_18, gr_19, gr_20, gr_21, gr_23, gr_24, gr_25, gr_26, gr_27, gr_28, gr_29, gr_30, gr_32, gr_34, gr_35, gr_41, gr_42, gr_43, gr_44, gr_45, gz_1, gz_5, gz_6, gz_7, gz_8, gz_9, gz_10, gz_11, gz_12, gz_13, gz_14, gz_15, gz_16, gz_17, gz_18, gz_19, gz_20, gz_21, gz_23, gz_24, gz_25, gz_26, gz_27, gz_28, gz_29, gz_30, gz_32, gz_34, gz_35, gz_41, gz_42, gz_43, gz_44, gz_45, hl_v_none, hl_v_ite, hl_d_none, hl_d_ite, hl_3_none, hl_3_ite, hl_4_none, hl_4_ite, hl_5_none, hl_5_ite, hl_v_some, hl_d_some, hl_3_some, hl_4_some, hl_5_some, hl_v_bv, hl_d_bv, hl_3_bv, hl_4_bv, hl_5_bv, hl_bv, hl_v_bd, hl_d_bd, hl_3_bd, hl_4_bd, hl_5_bd, hl_bd, hl_v_b3, hl_d_b3, hl_3_b3, hl_4_b3, hl_5_b3, hl_b3, hl_v_b4, hl_d_b4, hl_3_b4, hl_4_b4, hl_5_b4, hl_b4, hl_v_b5, hl_d_b5, hl_3_b5, hl_4_b5, hl_5_b5, hl_b5, hs_bv_i, hm_bv_i, hR, hrec]
  all_goals first | rfl | (split <;> simp_all)
set_option maxHeartbeats 4000000 in
theorem tlX12_begin_2 (R : Nat → Nat → Nat) (hR : R 285 = hm_R) : ∀ (n : Nat) (v1 : Int32) (g : hm), lX12_begin_2 n 285 v1 (gm g R) = hl_v R (nlX12_begin_2 n v1 g) := by
  intro n
  induction n with
  | zero => intros; rfl
  | succ n ih =>
    intro v1 g
    rw [lX12_begin_2_s, nlX12_begin_2_s]
    simp only [gm_I, gm_R, gm_w, gm_kd, gm_ln, not_false_eq_true, if_true, ite_true, gk_285, gk_286, gk_287, gk_288, gk_289, gk_290, gk_291, gk_292, gk_293, gk_294, gk_295, gk_296, gk_297, gk_298, gk_299, gk_300, gk_301, gk_302, gk_303, gk_304, gk_305, gk_306, gk_307, gk_308, gk_309, gk_310, gk_311, gk_312, gk_313, gk_314, gk_315, gk_316, gk_317, gk_318, gk_319, gn_286, gn_287, gn_288, gn_289, gn_290, gn_291, gn_292, gn_293, gn_294, gn_295, gn_296, gn_297, gn_298, gn_299, gn_300, gn_301, gn_302, gn_303, gn_304, gn_305, gn_306, gn_307, gn_308, gn_309, gn_310, gn_311, gn_312, gn_313, gn_314, gn_315, gn_316, gn_317, gn_318, gn_319, gr_1, gr_5, gr_6, gr_7, gr_8, gr_9, gr_10, gr_11, gr_12, gr_13, gr_14, gr_15, gr_16, gr_17, gr_18, gr_19, gr_20, gr_21, gr_23, gr_24, gr_25, gr_26, gr_27, gr_28, gr_29, gr_30, gr_32, gr_34, gr_35, gr_41, gr_42, gr_43, gr_44, gr_45, gz_1, gz_5, gz_6, gz_7, gz_8, gz_9, gz_10, gz_11, gz_12, gz_13, gz_14, gz_15, gz_16, gz_17, gz_18, gz_19, gz_20, gz_21, gz_23, gz_24, gz_25, gz_26, gz_27, gz_28, gz_29, gz_30, gz_32, gz_34, gz_35, gz_41, gz_42, gz_43, gz_44, gz_45, hl_v_none, hl_v_ite, hl_d_none, hl_d_ite, hl_3_none, hl_3_ite, hl_4_none, hl_4_ite, hl_5_none, hl_5_ite, hl_v_some, hl_d_some, hl_3_some, hl_4_some, hl_5_some, hl_v_bv, hl_d_bv, hl_3_bv, hl_4_bv, hl_5_bv, hl_bv, hl_v_bd, hl_d_bd, hl_3_bd, hl_4_bd, hl_5_bd, hl_bd, hl_v_b3, hl_d_b3, hl_3_b3, hl_4_b3, hl_5_b3, hl_b3, hl_v_b4, hl_d_b4, hl_3_b4, hl_4_b4, hl_5_b4, hl_b4, hl_v_b5, hl_d_b5, hl_3_b5, hl_4_b5, hl_5_b5, hl_b5, hs_bv_i, hm_bv_i, hR, ih, tjX12_begin_26 R hR _ _ (fun y0 g => ih y0 g)]
    all_goals first | rfl | (split <;> simp_all)
set_option maxHeartbeats 4000000 in
theorem tX12_begin (R : Nat → Nat → Nat) (hR : R 285 = hm_R)  (g : hm) : fX12_begin 285  (gm g R) = hl_v R (nX12_begin  g) := by
  unfold fX12_begin nX12_begin
  simp only [gm_I, gm_R, gm_w, gm_kd, gm_ln, not_false_eq_true, if_true, ite_true, gk_285, gk_286, gk_287, gk_288, gk_289, gk_290, gk_291, gk_292, gk_293, gk_294, gk_295, gk_296, gk_297, gk_298, gk_299, gk_300, gk_301, gk_302, gk_303, gk_304, gk_305, gk_306, gk_307, gk_308, gk_309, gk_310, gk_311, gk_312, gk_313, gk_314, gk_315, gk_316, gk_317, gk_318, gk_319, gn_286, gn_287, gn_288, gn_289, gn_290, gn_291, gn_292, gn_293, gn_294, gn_295, gn_296, gn_297, gn_298, gn_299, gn_300, gn_301, gn_302, gn_303, gn_304, gn_305, gn_306, gn_307, gn_308, gn_309, gn_310, gn_311, gn_312, gn_313, gn_314, gn_315, gn_316, gn_317, gn_318, gn_319, gr_1, gr_5, gr_6, gr_7, gr_8, gr_9, gr_10, gr_11, gr_12, gr_13, gr_14, gr_15, gr_16, gr_17, gr_18, gr_19, gr_20, gr_21, gr_23, gr_24, gr_25, gr_26, gr_27, gr_28, gr_29, gr_30, gr_32, gr_34, gr_35, gr_41, gr_42, gr_43, gr_44, gr_45, gz_1, gz_5, gz_6, gz_7, gz_8, gz_9, gz_10, gz_11, gz_12, gz_13, gz_14, gz_15, gz_16, gz_17, gz_18, gz_19, gz_20, gz_21, gz_23, gz_24, gz_25, gz_26, gz_27, gz_28, gz_29, gz_30, gz_32, gz_34, gz_35, gz_41, gz_42, gz_43, gz_44, gz_45, hl_v_none, hl_v_ite, hl_d_none, hl_d_ite, hl_3_none, hl_3_ite, hl_4_none, hl_4_ite, hl_5_none, hl_5_ite, hl_v_some, hl_d_some, hl_3_some, hl_4_some, hl_5_some, hl_v_bv, hl_d_bv, hl_3_bv, hl_4_bv, hl_5_bv, hl_bv, hl_v_bd, hl_d_bd, hl_3_bd, hl_4_bd, hl_5_bd, hl_bd, hl_v_b3, hl_d_b3, hl_3_b3, hl_4_b3, hl_5_b3, hl_b3, hl_v_b4, hl_d_b4, hl_3_b4, hl_4_b4, hl_5_b4, hl_b4, hl_v_b5, hl_d_b5, hl_3_b5, hl_4_b5, hl_5_b5, hl_b5, hs_bv_i, hm_bv_i, hR, tlX12_begin_2 R hR]
  all_goals first | rfl | (split <;> simp_all)
def nlX12_clear_21 : Nat → Int32 → hm → Option (hm)
  | 0, _, _ => none
  | n + 1, v1, g =>
    if (4 : Int32) ≤ v1 then (
      some g
    ) else (
      if hs_in v1 4 = true then
      nlX12_clear_21 n (v1 + (1 : Int32)) (hm_w g 313 v1.toNatClampNeg (0 : Int32))
      else none
    )
theorem nlX12_clear_21_s (n : Nat) (v1 : Int32) (g : hm) : nlX12_clear_21 (n + 1) v1 g =
    if (4 : Int32) ≤ v1 then (
      some g
    ) else (
      if hs_in v1 4 = true then
      nlX12_clear_21 n (v1 + (1 : Int32)) (hm_w g 313 v1.toNatClampNeg (0 : Int32))
      else none
    ) := rfl
def nX12_clear  (g : hm) : Option (hm) :=
  hm_bv (nX12_begin (hm_w (hm_w (hm_w g 285 2 (0 : Int32)) 285 3 (0 : Int32)) 285 22 (0 : Int32))) fun g1 =>
  hm_bv (nlX12_clear_21 hs_N (0 : Int32) g1) fun g4 =>
  some (hm_w (hm_w (hm_w g4 285 36 (0 : Int32)) 285 37 (0 : Int32)) 285 38 (0 : Int32))
set_option maxHeartbeats 4000000 in
theorem tlX12_clear_21 (R : Nat → Nat → Nat) (hR : R 285 = hm_R) : ∀ (n : Nat) (v1 : Int32) (g : hm), lX12_clear_21 n 285 v1 (gm g R) = hl_v R (nlX12_clear_21 n v1 g) := by
  intro n
  induction n with
  | zero => intros; rfl
  | succ n ih =>
    intro v1 g
    rw [lX12_clear_21_s, nlX12_clear_21_s]
    simp only [gm_I, gm_R, gm_w, gm_kd, gm_ln, not_false_eq_true, if_true, ite_true, gk_285, gk_286, gk_287, gk_288, gk_289, gk_290, gk_291, gk_292, gk_293, gk_294, gk_295, gk_296, gk_297, gk_298, gk_299, gk_300, gk_301, gk_302, gk_303, gk_304, gk_305, gk_306, gk_307, gk_308, gk_309, gk_310, gk_311, gk_312, gk_313, gk_314, gk_315, gk_316, gk_317, gk_318, gk_319, gn_286, gn_287, gn_288, gn_289, gn_290, gn_291, gn_292, gn_293, gn_294, gn_295, gn_296, gn_297, gn_298, gn_299, gn_300, gn_301, gn_302, gn_303, gn_304, gn_305, gn_306, gn_307, gn_308, gn_309, gn_310, gn_311, gn_312, gn_313, gn_314, gn_315, gn_316, gn_317, gn_318, gn_319, gr_1, gr_5, gr_6, gr_7, gr_8, gr_9, gr_10, gr_11, gr_12, gr_13, gr_14, gr_15, gr_16, gr_17, gr_18, gr_19, gr_20, gr_21, gr_23, gr_24, gr_25, gr_26, gr_27, gr_28, gr_29, gr_30, gr_32, gr_34, gr_35, gr_41, gr_42, gr_43, gr_44, gr_45, gz_1, gz_5, gz_6, gz_7, gz_8, gz_9, gz_10, gz_11, gz_12, gz_13, gz_14, gz_15, gz_16, gz_17, gz_18, gz_19, gz_20, gz_21, gz_23, gz_24, gz_25, gz_26, gz_27, gz_28, gz_29, gz_30, gz_32, gz_34, gz_35, gz_41, gz_42, gz_43, gz_44, gz_45, hl_v_none, hl_v_ite, hl_d_none, hl_d_ite, hl_3_none, hl_3_ite, hl_4_none, hl_4_ite, hl_5_none, hl_5_ite, hl_v_some, hl_d_some, hl_3_some, hl_4_some, hl_5_some, hl_v_bv, hl_d_bv, hl_3_bv, hl_4_bv, hl_5_bv, hl_bv, hl_v_bd, hl_d_bd, hl_3_bd, hl_4_bd, hl_5_bd, hl_bd, hl_v_b3, hl_d_b3, hl_3_b3, hl_4_b3, hl_5_b3, hl_b3, hl_v_b4, hl_d_b4, hl_3_b4, hl_4_b4, hl_5_b4, hl_b4, hl_v_b5, hl_d_b5, hl_3_b5, hl_4_b5, hl_5_b5, hl_b5, hs_bv_i, hm_bv_i, hR, tX12_begin R hR, ih]
    all_goals first | rfl | (split <;> simp_all)
set_option maxHeartbeats 4000000 in
theorem tX12_clear (R : Nat → Nat → Nat) (hR : R 285 = hm_R)  (g : hm) : fX12_clear 285  (gm g R) = hl_v R (nX12_clear  g) := by
  unfold fX12_clear nX12_clear
  simp only [gm_I, gm_R, gm_w, gm_kd, gm_ln, not_false_eq_true, if_true, ite_true, gk_285, gk_286, gk_287, gk_288, gk_289, gk_290, gk_291, gk_292, gk_293, gk_294, gk_295, gk_296, gk_297, gk_298, gk_299, gk_300, gk_301, gk_302, gk_303, gk_304, gk_305, gk_306, gk_307, gk_308, gk_309, gk_310, gk_311, gk_312, gk_313, gk_314, gk_315, gk_316, gk_317, gk_318, gk_319, gn_286, gn_287, gn_288, gn_289, gn_290, gn_291, gn_292, gn_293, gn_294, gn_295, gn_296, gn_297, gn_298, gn_299, gn_300, gn_301, gn_302, gn_303, gn_304, gn_305, gn_306, gn_307, gn_308, gn_309, gn_310, gn_311, gn_312, gn_313, gn_314, gn_315, gn_316, gn_317, gn_318, gn_319, gr_1, gr_5, gr_6, gr_7, gr_8, gr_9, gr_10, gr_11, gr_12, gr_13, gr_14, gr_15, gr_16, gr_17, gr_18, gr_19, gr_20, gr_21, gr_23, gr_24, gr_25, gr_26, gr_27, gr_28, gr_29, gr_30, gr_32, gr_34, gr_35, gr_41, gr_42, gr_43, gr_44, gr_45, gz_1, gz_5, gz_6, gz_7, gz_8, gz_9, gz_10, gz_11, gz_12, gz_13, gz_14, gz_15, gz_16, gz_17, gz_18, gz_19, gz_20, gz_21, gz_23, gz_24, gz_25, gz_26, gz_27, gz_28, gz_29, gz_30, gz_32, gz_34, gz_35, gz_41, gz_42, gz_43, gz_44, gz_45, hl_v_none, hl_v_ite, hl_d_none, hl_d_ite, hl_3_none, hl_3_ite, hl_4_none, hl_4_ite, hl_5_none, hl_5_ite, hl_v_some, hl_d_some, hl_3_some, hl_4_some, hl_5_some, hl_v_bv, hl_d_bv, hl_3_bv, hl_4_bv, hl_5_bv, hl_bv, hl_v_bd, hl_d_bd, hl_3_bd, hl_4_bd, hl_5_bd, hl_bd, hl_v_b3, hl_d_b3, hl_3_b3, hl_4_b3, hl_5_b3, hl_b3, hl_v_b4, hl_d_b4, hl_3_b4, hl_4_b4, hl_5_b4, hl_b4, hl_v_b5, hl_d_b5, hl_3_b5, hl_4_b5, hl_5_b5, hl_b5, hs_bv_i, hm_bv_i, hR, tX12_begin R hR, tlX12_clear_21 R hR]
  all_goals first | rfl | (split <;> simp_all)
