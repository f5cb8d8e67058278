/-! WHAT A METHOD MAY WRITE (wip/gen/po.py) -/
theorem pfX1_goOn {G : Nat → Prop} {g : hs_S} {v0 : Nat} {v1 : Nat} {v2 : Nat} {v3 : Int32} (c : RO g) (k_v0 : gm_k v0 = 1) (k_v1 : gm_k v1 = 0) (g_v0 : G (ow v0)) (g_v1 : G (ow v1)) : Pq (fX1_goOn v0 v1 v2 v3 g) (Os G g) := by
  unfold fX1_goOn jX1_goOn_35 jX1_goOn_99 jX1_goOn_129 jX1_goOn_146 jX1_goOn_171 jX1_goOn_185
  refine Pq.ck ?_
  refine Pq.ck ?_
  refine Pq.sv (pfX9_put (G := G) c (c.2.o k_v0 (by decide) g_v0)) fun  g1 o142 => ?_
  refine Pq.ck ?_
  refine Pq.ro (pfX7_valueAt) fun y2 f143 => ?_
  refine Pq.br ?_ ?_
  · refine Pq.ck ?_
    refine Pq.ro (pfX7_valueAt) fun y4 f144 => ?_
    refine Pq.ro (pfX4_takes) fun y6 f145 => ?_
    refine Pq.ck ?_
    refine Pq.ro (pfX0_method (((PO.rf c).trans o142).2 : RO g1) k_v1) fun y8 f146 => ?_
    refine Pq.ck ?_
    refine Pq.ck ?_
    refine Pq.ck ?_
    refine Pq.ro (pfX9_at) fun y10 f147 => ?_
    refine Pq.ro (pfX4_gives) fun y12 f148 => ?_
    refine Pq.ck ?_
    refine Pq.ro (pfX7_sizeAt) fun y14 f149 => ?_
    refine Pq.ro (pfX4_endsWay) fun y16 f150 => ?_
    refine Pq.br ?_ ?_
    · refine Pq.br ?_ ?_
      · exact Pq.s ((PO.rf c).trans o142)
      · refine Pq.br ?_ ?_
        · exact Pq.s ((PO.rf c).trans o142)
        · refine Pq.br ?_ ?_
          · refine Pq.br ?_ ?_
            · refine Pq.ro (pfX4_isJump) fun y20 f151 => ?_
              refine Pq.br ?_ ?_
              · refine Pq.br ?_ ?_
                · refine Pq.br ?_ ?_
                  · exact Pq.s ((PO.rf c).trans o142)
                  · exact Pq.s ((PO.rf c).trans o142)
                · refine Pq.br ?_ ?_
                  · refine Pq.br ?_ ?_
                    · exact Pq.s ((PO.rf c).trans o142)
                    · exact Pq.s ((PO.rf c).trans o142)
                  · exact Pq.s ((PO.rf c).trans o142)
              · refine Pq.ck ?_
                refine Pq.ro (pfX7_targetOf) fun y22 f152 => ?_
                refine Pq.ck ?_
                refine Pq.st (pfX1_reach (G := G) ((PO.rf c).trans o142).2 k_v0 g_v0) fun y24 g25 o153 => ?_
                refine Pq.br ?_ ?_
                · refine Pq.br ?_ ?_
                  · exact Pq.s (((PO.rf c).trans o142).trans o153)
                  · exact Pq.s (((PO.rf c).trans o142).trans o153)
                · refine Pq.br ?_ ?_
                  · refine Pq.br ?_ ?_
                    · exact Pq.s (((PO.rf c).trans o142).trans o153)
                    · exact Pq.s (((PO.rf c).trans o142).trans o153)
                  · exact Pq.s (((PO.rf c).trans o142).trans o153)
            · refine Pq.ck ?_
              refine Pq.st (pfX1_reach (G := G) ((PO.rf c).trans o142).2 k_v0 g_v0) fun y18 g19 o154 => ?_
              refine Pq.ro (pfX4_isJump) fun y26 f155 => ?_
              refine Pq.br ?_ ?_
              · refine Pq.br ?_ ?_
                · refine Pq.br ?_ ?_
                  · exact Pq.s (((PO.rf c).trans o142).trans o154)
                  · exact Pq.s (((PO.rf c).trans o142).trans o154)
                · refine Pq.br ?_ ?_
                  · refine Pq.br ?_ ?_
                    · exact Pq.s (((PO.rf c).trans o142).trans o154)
                    · exact Pq.s (((PO.rf c).trans o142).trans o154)
                  · exact Pq.s (((PO.rf c).trans o142).trans o154)
              · refine Pq.ck ?_
                refine Pq.ro (pfX7_targetOf) fun y28 f156 => ?_
                refine Pq.ck ?_
                refine Pq.st (pfX1_reach (G := G) (((PO.rf c).trans o142).trans o154).2 k_v0 g_v0) fun y30 g31 o157 => ?_
                refine Pq.br ?_ ?_
                · refine Pq.br ?_ ?_
                  · exact Pq.s ((((PO.rf c).trans o142).trans o154).trans o157)
                  · exact Pq.s ((((PO.rf c).trans o142).trans o154).trans o157)
                · refine Pq.br ?_ ?_
                  · refine Pq.br ?_ ?_
                    · exact Pq.s ((((PO.rf c).trans o142).trans o154).trans o157)
                    · exact Pq.s ((((PO.rf c).trans o142).trans o154).trans o157)
                  · exact Pq.s ((((PO.rf c).trans o142).trans o154).trans o157)
          · refine Pq.ck ?_
            refine Pq.br ?_ ?_
            · refine Pq.br ?_ ?_
              · refine Pq.ro (pfX4_isJump) fun y34 f158 => ?_
                refine Pq.br ?_ ?_
                · refine Pq.br ?_ ?_
                  · refine Pq.br ?_ ?_
                    · exact Pq.s ((PO.rf c).trans o142)
                    · exact Pq.s ((PO.rf c).trans o142)
                  · refine Pq.br ?_ ?_
                    · refine Pq.br ?_ ?_
                      · exact Pq.s ((PO.rf c).trans o142)
                      · exact Pq.s ((PO.rf c).trans o142)
                    · exact Pq.s ((PO.rf c).trans o142)
                · refine Pq.ck ?_
                  refine Pq.ro (pfX7_targetOf) fun y36 f159 => ?_
                  refine Pq.ck ?_
                  refine Pq.st (pfX1_reach (G := G) ((PO.rf c).trans o142).2 k_v0 g_v0) fun y38 g39 o160 => ?_
                  refine Pq.br ?_ ?_
                  · refine Pq.br ?_ ?_
                    · exact Pq.s (((PO.rf c).trans o142).trans o160)
                    · exact Pq.s (((PO.rf c).trans o142).trans o160)
                  · refine Pq.br ?_ ?_
                    · refine Pq.br ?_ ?_
                      · exact Pq.s (((PO.rf c).trans o142).trans o160)
                      · exact Pq.s (((PO.rf c).trans o142).trans o160)
                    · exact Pq.s (((PO.rf c).trans o142).trans o160)
              · refine Pq.ck ?_
                refine Pq.st (pfX1_reach (G := G) ((PO.rf c).trans o142).2 k_v0 g_v0) fun y32 g33 o161 => ?_
                refine Pq.ro (pfX4_isJump) fun y40 f162 => ?_
                refine Pq.br ?_ ?_
                · refine Pq.br ?_ ?_
                  · refine Pq.br ?_ ?_
                    · exact Pq.s (((PO.rf c).trans o142).trans o161)
                    · exact Pq.s (((PO.rf c).trans o142).trans o161)
                  · refine Pq.br ?_ ?_
                    · refine Pq.br ?_ ?_
                      · exact Pq.s (((PO.rf c).trans o142).trans o161)
                      · exact Pq.s (((PO.rf c).trans o142).trans o161)
                    · exact Pq.s (((PO.rf c).trans o142).trans o161)
                · refine Pq.ck ?_
                  refine Pq.ro (pfX7_targetOf) fun y42 f163 => ?_
                  refine Pq.ck ?_
                  refine Pq.st (pfX1_reach (G := G) (((PO.rf c).trans o142).trans o161).2 k_v0 g_v0) fun y44 g45 o164 => ?_
                  refine Pq.br ?_ ?_
                  · refine Pq.br ?_ ?_
                    · exact Pq.s ((((PO.rf c).trans o142).trans o161).trans o164)
                    · exact Pq.s ((((PO.rf c).trans o142).trans o161).trans o164)
                  · refine Pq.br ?_ ?_
                    · refine Pq.br ?_ ?_
                      · exact Pq.s ((((PO.rf c).trans o142).trans o161).trans o164)
                      · exact Pq.s ((((PO.rf c).trans o142).trans o161).trans o164)
                    · exact Pq.s ((((PO.rf c).trans o142).trans o161).trans o164)
            · exact Pq.s ((PO.rf c).trans o142)
    · refine Pq.br ?_ ?_
      · exact Pq.s ((PO.rf c).trans o142)
      · refine Pq.br ?_ ?_
        · exact Pq.s ((PO.rf c).trans o142)
        · refine Pq.br ?_ ?_
          · refine Pq.br ?_ ?_
            · refine Pq.ro (pfX4_isJump) fun y48 f165 => ?_
              refine Pq.br ?_ ?_
              · refine Pq.br ?_ ?_
                · refine Pq.br ?_ ?_
                  · exact Pq.s ((PO.rf c).trans o142)
                  · exact Pq.s ((PO.rf c).trans o142)
                · refine Pq.br ?_ ?_
                  · refine Pq.br ?_ ?_
                    · exact Pq.s ((PO.rf c).trans o142)
                    · exact Pq.s ((PO.rf c).trans o142)
                  · exact Pq.s ((PO.rf c).trans o142)
              · refine Pq.ck ?_
                refine Pq.ro (pfX7_targetOf) fun y50 f166 => ?_
                refine Pq.ck ?_
                refine Pq.st (pfX1_reach (G := G) ((PO.rf c).trans o142).2 k_v0 g_v0) fun y52 g53 o167 => ?_
                refine Pq.br ?_ ?_
                · refine Pq.br ?_ ?_
                  · exact Pq.s (((PO.rf c).trans o142).trans o167)
                  · exact Pq.s (((PO.rf c).trans o142).trans o167)
                · refine Pq.br ?_ ?_
                  · refine Pq.br ?_ ?_
                    · exact Pq.s (((PO.rf c).trans o142).trans o167)
                    · exact Pq.s (((PO.rf c).trans o142).trans o167)
                  · exact Pq.s (((PO.rf c).trans o142).trans o167)
            · refine Pq.ck ?_
              refine Pq.st (pfX1_reach (G := G) ((PO.rf c).trans o142).2 k_v0 g_v0) fun y46 g47 o168 => ?_
              refine Pq.ro (pfX4_isJump) fun y54 f169 => ?_
              refine Pq.br ?_ ?_
              · refine Pq.br ?_ ?_
                · refine Pq.br ?_ ?_
                  · exact Pq.s (((PO.rf c).trans o142).trans o168)
                  · exact Pq.s (((PO.rf c).trans o142).trans o168)
                · refine Pq.br ?_ ?_
                  · refine Pq.br ?_ ?_
                    · exact Pq.s (((PO.rf c).trans o142).trans o168)
                    · exact Pq.s (((PO.rf c).trans o142).trans o168)
                  · exact Pq.s (((PO.rf c).trans o142).trans o168)
              · refine Pq.ck ?_
                refine Pq.ro (pfX7_targetOf) fun y56 f170 => ?_
                refine Pq.ck ?_
                refine Pq.st (pfX1_reach (G := G) (((PO.rf c).trans o142).trans o168).2 k_v0 g_v0) fun y58 g59 o171 => ?_
                refine Pq.br ?_ ?_
                · refine Pq.br ?_ ?_
                  · exact Pq.s ((((PO.rf c).trans o142).trans o168).trans o171)
                  · exact Pq.s ((((PO.rf c).trans o142).trans o168).trans o171)
                · refine Pq.br ?_ ?_
                  · refine Pq.br ?_ ?_
                    · exact Pq.s ((((PO.rf c).trans o142).trans o168).trans o171)
                    · exact Pq.s ((((PO.rf c).trans o142).trans o168).trans o171)
                  · exact Pq.s ((((PO.rf c).trans o142).trans o168).trans o171)
          · refine Pq.ck ?_
            refine Pq.br ?_ ?_
            · refine Pq.br ?_ ?_
              · refine Pq.ro (pfX4_isJump) fun y62 f172 => ?_
                refine Pq.br ?_ ?_
                · refine Pq.br ?_ ?_
                  · refine Pq.br ?_ ?_
                    · exact Pq.s ((PO.rf c).trans o142)
                    · exact Pq.s ((PO.rf c).trans o142)
                  · refine Pq.br ?_ ?_
                    · refine Pq.br ?_ ?_
                      · exact Pq.s ((PO.rf c).trans o142)
                      · exact Pq.s ((PO.rf c).trans o142)
                    · exact Pq.s ((PO.rf c).trans o142)
                · refine Pq.ck ?_
                  refine Pq.ro (pfX7_targetOf) fun y64 f173 => ?_
                  refine Pq.ck ?_
                  refine Pq.st (pfX1_reach (G := G) ((PO.rf c).trans o142).2 k_v0 g_v0) fun y66 g67 o174 => ?_
                  refine Pq.br ?_ ?_
                  · refine Pq.br ?_ ?_
                    · exact Pq.s (((PO.rf c).trans o142).trans o174)
                    · exact Pq.s (((PO.rf c).trans o142).trans o174)
                  · refine Pq.br ?_ ?_
                    · refine Pq.br ?_ ?_
                      · exact Pq.s (((PO.rf c).trans o142).trans o174)
                      · exact Pq.s (((PO.rf c).trans o142).trans o174)
                    · exact Pq.s (((PO.rf c).trans o142).trans o174)
              · refine Pq.ck ?_
                refine Pq.st (pfX1_reach (G := G) ((PO.rf c).trans o142).2 k_v0 g_v0) fun y60 g61 o175 => ?_
                refine Pq.ro (pfX4_isJump) fun y68 f176 => ?_
                refine Pq.br ?_ ?_
                · refine Pq.br ?_ ?_
                  · refine Pq.br ?_ ?_
                    · exact Pq.s (((PO.rf c).trans o142).trans o175)
                    · exact Pq.s (((PO.rf c).trans o142).trans o175)
                  · refine Pq.br ?_ ?_
                    · refine Pq.br ?_ ?_
                      · exact Pq.s (((PO.rf c).trans o142).trans o175)
                      · exact Pq.s (((PO.rf c).trans o142).trans o175)
                    · exact Pq.s (((PO.rf c).trans o142).trans o175)
                · refine Pq.ck ?_
                  refine Pq.ro (pfX7_targetOf) fun y70 f177 => ?_
                  refine Pq.ck ?_
                  refine Pq.st (pfX1_reach (G := G) (((PO.rf c).trans o142).trans o175).2 k_v0 g_v0) fun y72 g73 o178 => ?_
                  refine Pq.br ?_ ?_
                  · refine Pq.br ?_ ?_
                    · exact Pq.s ((((PO.rf c).trans o142).trans o175).trans o178)
                    · exact Pq.s ((((PO.rf c).trans o142).trans o175).trans o178)
                  · refine Pq.br ?_ ?_
                    · refine Pq.br ?_ ?_
                      · exact Pq.s ((((PO.rf c).trans o142).trans o175).trans o178)
                      · exact Pq.s ((((PO.rf c).trans o142).trans o175).trans o178)
                    · exact Pq.s ((((PO.rf c).trans o142).trans o175).trans o178)
            · exact Pq.s ((PO.rf c).trans o142)
  · refine Pq.ro (pfX4_takes) fun y74 f179 => ?_
    refine Pq.ck ?_
    refine Pq.ro (pfX0_method (((PO.rf c).trans o142).2 : RO g1) k_v1) fun y76 f180 => ?_
    refine Pq.ck ?_
    refine Pq.ck ?_
    refine Pq.ck ?_
    refine Pq.ro (pfX9_at) fun y78 f181 => ?_
    refine Pq.ro (pfX4_gives) fun y80 f182 => ?_
    refine Pq.ck ?_
    refine Pq.ro (pfX7_sizeAt) fun y82 f183 => ?_
    refine Pq.ro (pfX4_endsWay) fun y84 f184 => ?_
    refine Pq.br ?_ ?_
    · refine Pq.br ?_ ?_
      · exact Pq.s ((PO.rf c).trans o142)
      · refine Pq.br ?_ ?_
        · exact Pq.s ((PO.rf c).trans o142)
        · refine Pq.br ?_ ?_
          · refine Pq.br ?_ ?_
            · refine Pq.ro (pfX4_isJump) fun y88 f185 => ?_
              refine Pq.br ?_ ?_
              · refine Pq.br ?_ ?_
                · refine Pq.br ?_ ?_
                  · exact Pq.s ((PO.rf c).trans o142)
                  · exact Pq.s ((PO.rf c).trans o142)
                · refine Pq.br ?_ ?_
                  · refine Pq.br ?_ ?_
                    · exact Pq.s ((PO.rf c).trans o142)
                    · exact Pq.s ((PO.rf c).trans o142)
                  · exact Pq.s ((PO.rf c).trans o142)
              · refine Pq.ck ?_
                refine Pq.ro (pfX7_targetOf) fun y90 f186 => ?_
                refine Pq.ck ?_
                refine Pq.st (pfX1_reach (G := G) ((PO.rf c).trans o142).2 k_v0 g_v0) fun y92 g93 o187 => ?_
                refine Pq.br ?_ ?_
                · refine Pq.br ?_ ?_
                  · exact Pq.s (((PO.rf c).trans o142).trans o187)
                  · exact Pq.s (((PO.rf c).trans o142).trans o187)
                · refine Pq.br ?_ ?_
                  · refine Pq.br ?_ ?_
                    · exact Pq.s (((PO.rf c).trans o142).trans o187)
                    · exact Pq.s (((PO.rf c).trans o142).trans o187)
                  · exact Pq.s (((PO.rf c).trans o142).trans o187)
            · refine Pq.ck ?_
              refine Pq.st (pfX1_reach (G := G) ((PO.rf c).trans o142).2 k_v0 g_v0) fun y86 g87 o188 => ?_
              refine Pq.ro (pfX4_isJump) fun y94 f189 => ?_
              refine Pq.br ?_ ?_
              · refine Pq.br ?_ ?_
                · refine Pq.br ?_ ?_
                  · exact Pq.s (((PO.rf c).trans o142).trans o188)
                  · exact Pq.s (((PO.rf c).trans o142).trans o188)
                · refine Pq.br ?_ ?_
                  · refine Pq.br ?_ ?_
                    · exact Pq.s (((PO.rf c).trans o142).trans o188)
                    · exact Pq.s (((PO.rf c).trans o142).trans o188)
                  · exact Pq.s (((PO.rf c).trans o142).trans o188)
              · refine Pq.ck ?_
                refine Pq.ro (pfX7_targetOf) fun y96 f190 => ?_
                refine Pq.ck ?_
                refine Pq.st (pfX1_reach (G := G) (((PO.rf c).trans o142).trans o188).2 k_v0 g_v0) fun y98 g99 o191 => ?_
                refine Pq.br ?_ ?_
                · refine Pq.br ?_ ?_
                  · exact Pq.s ((((PO.rf c).trans o142).trans o188).trans o191)
                  · exact Pq.s ((((PO.rf c).trans o142).trans o188).trans o191)
                · refine Pq.br ?_ ?_
                  · refine Pq.br ?_ ?_
                    · exact Pq.s ((((PO.rf c).trans o142).trans o188).trans o191)
                    · exact Pq.s ((((PO.rf c).trans o142).trans o188).trans o191)
                  · exact Pq.s ((((PO.rf c).trans o142).trans o188).trans o191)
          · refine Pq.ck ?_
            refine Pq.br ?_ ?_
            · refine Pq.br ?_ ?_
              · refine Pq.ro (pfX4_isJump) fun y102 f192 => ?_
                refine Pq.br ?_ ?_
                · refine Pq.br ?_ ?_
                  · refine Pq.br ?_ ?_
                    · exact Pq.s ((PO.rf c).trans o142)
                    · exact Pq.s ((PO.rf c).trans o142)
                  · refine Pq.br ?_ ?_
                    · refine Pq.br ?_ ?_
                      · exact Pq.s ((PO.rf c).trans o142)
                      · exact Pq.s ((PO.rf c).trans o142)
                    · exact Pq.s ((PO.rf c).trans o142)
                · refine Pq.ck ?_
                  refine Pq.ro (pfX7_targetOf) fun y104 f193 => ?_
                  refine Pq.ck ?_
                  refine Pq.st (pfX1_reach (G := G) ((PO.rf c).trans o142).2 k_v0 g_v0) fun y106 g107 o194 => ?_
                  refine Pq.br ?_ ?_
                  · refine Pq.br ?_ ?_
                    · exact Pq.s (((PO.rf c).trans o142).trans o194)
                    · exact Pq.s (((PO.rf c).trans o142).trans o194)
                  · refine Pq.br ?_ ?_
                    · refine Pq.br ?_ ?_
                      · exact Pq.s (((PO.rf c).trans o142).trans o194)
                      · exact Pq.s (((PO.rf c).trans o142).trans o194)
                    · exact Pq.s (((PO.rf c).trans o142).trans o194)
              · refine Pq.ck ?_
                refine Pq.st (pfX1_reach (G := G) ((PO.rf c).trans o142).2 k_v0 g_v0) fun y100 g101 o195 => ?_
                refine Pq.ro (pfX4_isJump) fun y108 f196 => ?_
                refine Pq.br ?_ ?_
                · refine Pq.br ?_ ?_
                  · refine Pq.br ?_ ?_
                    · exact Pq.s (((PO.rf c).trans o142).trans o195)
                    · exact Pq.s (((PO.rf c).trans o142).trans o195)
                  · refine Pq.br ?_ ?_
                    · refine Pq.br ?_ ?_
                      · exact Pq.s (((PO.rf c).trans o142).trans o195)
                      · exact Pq.s (((PO.rf c).trans o142).trans o195)
                    · exact Pq.s (((PO.rf c).trans o142).trans o195)
                · refine Pq.ck ?_
                  refine Pq.ro (pfX7_targetOf) fun y110 f197 => ?_
                  refine Pq.ck ?_
                  refine Pq.st (pfX1_reach (G := G) (((PO.rf c).trans o142).trans o195).2 k_v0 g_v0) fun y112 g113 o198 => ?_
                  refine Pq.br ?_ ?_
                  · refine Pq.br ?_ ?_
                    · exact Pq.s ((((PO.rf c).trans o142).trans o195).trans o198)
                    · exact Pq.s ((((PO.rf c).trans o142).trans o195).trans o198)
                  · refine Pq.br ?_ ?_
                    · refine Pq.br ?_ ?_
                      · exact Pq.s ((((PO.rf c).trans o142).trans o195).trans o198)
                      · exact Pq.s ((((PO.rf c).trans o142).trans o195).trans o198)
                    · exact Pq.s ((((PO.rf c).trans o142).trans o195).trans o198)
            · exact Pq.s ((PO.rf c).trans o142)
    · refine Pq.br ?_ ?_
      · exact Pq.s ((PO.rf c).trans o142)
      · refine Pq.br ?_ ?_
        · exact Pq.s ((PO.rf c).trans o142)
        · refine Pq.br ?_ ?_
          · refine Pq.br ?_ ?_
            · refine Pq.ro (pfX4_isJump) fun y116 f199 => ?_
              refine Pq.br ?_ ?_
              · refine Pq.br ?_ ?_
                · refine Pq.br ?_ ?_
                  · exact Pq.s ((PO.rf c).trans o142)
                  · exact Pq.s ((PO.rf c).trans o142)
                · refine Pq.br ?_ ?_
                  · refine Pq.br ?_ ?_
                    · exact Pq.s ((PO.rf c).trans o142)
                    · exact Pq.s ((PO.rf c).trans o142)
                  · exact Pq.s ((PO.rf c).trans o142)
              · refine Pq.ck ?_
                refine Pq.ro (pfX7_targetOf) fun y118 f200 => ?_
                refine Pq.ck ?_
                refine Pq.st (pfX1_reach (G := G) ((PO.rf c).trans o142).2 k_v0 g_v0) fun y120 g121 o201 => ?_
                refine Pq.br ?_ ?_
                · refine Pq.br ?_ ?_
                  · exact Pq.s (((PO.rf c).trans o142).trans o201)
                  · exact Pq.s (((PO.rf c).trans o142).trans o201)
                · refine Pq.br ?_ ?_
                  · refine Pq.br ?_ ?_
                    · exact Pq.s (((PO.rf c).trans o142).trans o201)
                    · exact Pq.s (((PO.rf c).trans o142).trans o201)
                  · exact Pq.s (((PO.rf c).trans o142).trans o201)
            · refine Pq.ck ?_
              refine Pq.st (pfX1_reach (G := G) ((PO.rf c).trans o142).2 k_v0 g_v0) fun y114 g115 o202 => ?_
              refine Pq.ro (pfX4_isJump) fun y122 f203 => ?_
              refine Pq.br ?_ ?_
              · refine Pq.br ?_ ?_
                · refine Pq.br ?_ ?_
                  · exact Pq.s (((PO.rf c).trans o142).trans o202)
                  · exact Pq.s (((PO.rf c).trans o142).trans o202)
                · refine Pq.br ?_ ?_
                  · refine Pq.br ?_ ?_
                    · exact Pq.s (((PO.rf c).trans o142).trans o202)
                    · exact Pq.s (((PO.rf c).trans o142).trans o202)
                  · exact Pq.s (((PO.rf c).trans o142).trans o202)
              · refine Pq.ck ?_
                refine Pq.ro (pfX7_targetOf) fun y124 f204 => ?_
                refine Pq.ck ?_
                refine Pq.st (pfX1_reach (G := G) (((PO.rf c).trans o142).trans o202).2 k_v0 g_v0) fun y126 g127 o205 => ?_
                refine Pq.br ?_ ?_
                · refine Pq.br ?_ ?_
                  · exact Pq.s ((((PO.rf c).trans o142).trans o202).trans o205)
                  · exact Pq.s ((((PO.rf c).trans o142).trans o202).trans o205)
                · refine Pq.br ?_ ?_
                  · refine Pq.br ?_ ?_
                    · exact Pq.s ((((PO.rf c).trans o142).trans o202).trans o205)
                    · exact Pq.s ((((PO.rf c).trans o142).trans o202).trans o205)
                  · exact Pq.s ((((PO.rf c).trans o142).trans o202).trans o205)
          · refine Pq.ck ?_
            refine Pq.br ?_ ?_
            · refine Pq.br ?_ ?_
              · refine Pq.ro (pfX4_isJump) fun y130 f206 => ?_
                refine Pq.br ?_ ?_
                · refine Pq.br ?_ ?_
                  · refine Pq.br ?_ ?_
                    · exact Pq.s ((PO.rf c).trans o142)
                    · exact Pq.s ((PO.rf c).trans o142)
                  · refine Pq.br ?_ ?_
                    · refine Pq.br ?_ ?_
                      · exact Pq.s ((PO.rf c).trans o142)
                      · exact Pq.s ((PO.rf c).trans o142)
                    · exact Pq.s ((PO.rf c).trans o142)
                · refine Pq.ck ?_
                  refine Pq.ro (pfX7_targetOf) fun y132 f207 => ?_
                  refine Pq.ck ?_
                  refine Pq.st (pfX1_reach (G := G) ((PO.rf c).trans o142).2 k_v0 g_v0) fun y134 g135 o208 => ?_
                  refine Pq.br ?_ ?_
                  · refine Pq.br ?_ ?_
                    · exact Pq.s (((PO.rf c).trans o142).trans o208)
                    · exact Pq.s (((PO.rf c).trans o142).trans o208)
                  · refine Pq.br ?_ ?_
                    · refine Pq.br ?_ ?_
                      · exact Pq.s (((PO.rf c).trans o142).trans o208)
                      · exact Pq.s (((PO.rf c).trans o142).trans o208)
                    · exact Pq.s (((PO.rf c).trans o142).trans o208)
              · refine Pq.ck ?_
                refine Pq.st (pfX1_reach (G := G) ((PO.rf c).trans o142).2 k_v0 g_v0) fun y128 g129 o209 => ?_
                refine Pq.ro (pfX4_isJump) fun y136 f210 => ?_
                refine Pq.br ?_ ?_
                · refine Pq.br ?_ ?_
                  · refine Pq.br ?_ ?_
                    · exact Pq.s (((PO.rf c).trans o142).trans o209)
                    · exact Pq.s (((PO.rf c).trans o142).trans o209)
                  · refine Pq.br ?_ ?_
                    · refine Pq.br ?_ ?_
                      · exact Pq.s (((PO.rf c).trans o142).trans o209)
                      · exact Pq.s (((PO.rf c).trans o142).trans o209)
                    · exact Pq.s (((PO.rf c).trans o142).trans o209)
                · refine Pq.ck ?_
                  refine Pq.ro (pfX7_targetOf) fun y138 f211 => ?_
                  refine Pq.ck ?_
                  refine Pq.st (pfX1_reach (G := G) (((PO.rf c).trans o142).trans o209).2 k_v0 g_v0) fun y140 g141 o212 => ?_
                  refine Pq.br ?_ ?_
                  · refine Pq.br ?_ ?_
                    · exact Pq.s ((((PO.rf c).trans o142).trans o209).trans o212)
                    · exact Pq.s ((((PO.rf c).trans o142).trans o209).trans o212)
                  · refine Pq.br ?_ ?_
                    · refine Pq.br ?_ ?_
                      · exact Pq.s ((((PO.rf c).trans o142).trans o209).trans o212)
                      · exact Pq.s ((((PO.rf c).trans o142).trans o209).trans o212)
                    · exact Pq.s ((((PO.rf c).trans o142).trans o209).trans o212)
            · exact Pq.s ((PO.rf c).trans o142)
theorem plX1_greatest_4 : ∀ (n : Nat) (v0 : Nat) (v1 : Int32) (v2 : Int32) (g : hs_S), Pq (lX1_greatest_4 n v0 v1 v2 g) (Or' g tt)
  | 0, v0, v1, v2, g => Pq.n
  | n + 1, v0, v1, v2, g => by
    rw [lX1_greatest_4]
    refine Pq.br ?_ ?_
    · exact Pq.s ⟨rfl, trivial⟩
    · refine Pq.ck ?_
      refine Pq.ck ?_
      refine Pq.ro (pfX9_at) fun y1 f3 => ?_
      exact (plX1_greatest_4 n _ _ _ _)
theorem pfX1_greatest {g : hs_S} {v0 : Nat}  : Pq (fX1_greatest v0 g) (Or' g tt) := by
  unfold fX1_greatest
  refine Pq.ro (plX1_greatest_4 hs_N _ _ _ _) fun y1 f3 => ?_
  exact Pq.s ⟨rfl, trivial⟩
theorem plX1_wrongPlace_32 {G : Nat → Prop} : ∀ (n : Nat) (v0 : Nat) (v1 : Nat) (v2 : Nat) (v3 : Int32) (g : hs_S), RO g → gm_k v0 = 1 → G (ow v0) → Pq (lX1_wrongPlace_32 n v0 v1 v2 v3 g) (Os G g)
  | 0, v0, v1, v2, v3, g, _, _, _ => Pq.n
  | n + 1, v0, v1, v2, v3, g, c, k_v0, g_v0 => by
    rw [lX1_wrongPlace_32]
    refine Pq.ck ?_
    refine Pq.br ?_ ?_
    · exact Pq.s (PO.rf c)
    · refine Pq.ro (pfX7_handlerNumber) fun y1 f4 => ?_
      refine Pq.br ?_ ?_
      · exact Pq.s (PO.rf c)
      · refine Pq.ck ?_
        refine Pq.ck ?_
        refine Pq.sv (pfX9_put (G := G) c (c.2.o k_v0 (by decide) g_v0)) fun  g3 o5 => ?_
        exact Pq.to ((PO.rf c).trans o5) (plX1_wrongPlace_32 (G := G) n _ _ _ _ _ ((PO.rf c).trans o5).2 k_v0 g_v0)
theorem plX1_wrongPlace_73 {G : Nat → Prop} : ∀ (n : Nat) (v0 : Nat) (v1 : Nat) (v2 : Nat) (v3 : Int32) (g : hs_S), RO g → gm_k v0 = 1 → gm_k v1 = 0 → G (ow v0) → G (ow v1) → Pq (lX1_wrongPlace_73 n v0 v1 v2 v3 g) (Os3 G g)
  | 0, v0, v1, v2, v3, g, _, _, _, _, _ => Pq.n
  | n + 1, v0, v1, v2, v3, g, c, k_v0, k_v1, g_v0, g_v1 => by
    rw [lX1_wrongPlace_73]
    refine Pq.ck ?_
    refine Pq.br ?_ ?_
    · exact Pq.s (PO.rf c)
    · refine Pq.ck ?_
      refine Pq.st (pfX1_findLowest (G := G) c g_v0) fun y1 g2 o5 => ?_
      refine Pq.br ?_ ?_
      · exact Pq.s ((PO.rf c).trans o5)
      · refine Pq.ck ?_
        refine Pq.st (pfX1_goOn (G := G) ((PO.rf c).trans o5).2 k_v0 k_v1 g_v0 g_v1) fun y3 g4 o6 => ?_
        refine Pq.br ?_ ?_
        · exact Pq.t3 (((PO.rf c).trans o5).trans o6) (plX1_wrongPlace_73 (G := G) n _ _ _ _ _ (((PO.rf c).trans o5).trans o6).2 k_v0 k_v1 g_v0 g_v1)
        · exact Pq.s (((PO.rf c).trans o5).trans o6)
theorem pfX1_wrongPlace {G : Nat → Prop} {g : hs_S} {v0 : Nat} {v1 : Nat} {v2 : Nat} (c : RO g) (k_v0 : gm_k v0 = 1) (k_v1 : gm_k v1 = 0) (g_v0 : G (ow v0)) (g_v1 : G (ow v1)) (g_v2 : G (ow v2)) : Pq (fX1_wrongPlace v0 v1 v2 g) (Os G g) := by
  unfold fX1_wrongPlace jX1_wrongPlace_119
  refine Pq.ck ?_
  refine Pq.ck ?_
  refine Pq.sv (pfJ7_fill_53178 (G := G) c (c.2.o k_v0 (by decide) g_v0)) fun  g1 o11 => ?_
  refine Pq.ck ?_
  refine Pq.ck ?_
  refine Pq.sv (pfJ7_fill_53178 (G := G) ((PO.rf c).trans o11).2 (((PO.rf c).trans o11).2.2.o k_v0 (by decide) g_v0)) fun  g2 o12 => ?_
  refine Pq.ck ?_
  refine Pq.ck ?_
  refine Pq.sv (pfX9_put (G := G) (((PO.rf c).trans o11).trans o12).2 ((((PO.rf c).trans o11).trans o12).2.2.o k_v0 (by decide) g_v0)) fun  g3 o13 => ?_
  refine Pq.st (plX1_wrongPlace_32 (G := G) hs_N _ _ _ _ _ (((((PO.rf c).trans o11).trans o12).w g_v0).trans o13).2 k_v0 g_v0) fun y4 g5 o14 => ?_
  refine Pq.br ?_ ?_
  · refine Pq.s3 (plX1_wrongPlace_73 (G := G) hs_N _ _ _ _ _ ((((((PO.rf c).trans o11).trans o12).w g_v0).trans o13).trans o14).2 k_v0 k_v1 g_v0 g_v1) fun y6 y7 g8 o15 => ?_
    refine Pq.br ?_ ?_
    · refine Pq.ck ?_
      refine Pq.ro (pfX1_greatest) fun y9 f16 => ?_
      refine Pq.ck ?_
      exact Pq.s ((((((((PO.rf c).trans o11).trans o12).w g_v0).trans o13).trans o14).trans o15).w g_v2)
    · exact Pq.s (((((((PO.rf c).trans o11).trans o12).w g_v0).trans o13).trans o14).trans o15)
  · exact Pq.s ((((((PO.rf c).trans o11).trans o12).w g_v0).trans o13).trans o14)
theorem plX1_firstWrong_2 {G : Nat → Prop} : ∀ (n : Nat) (v0 : Nat) (v1 : Nat) (v2 : Int32) (g : hs_S), RO g → gm_k v0 = 1 → gm_k v1 = 0 → G (ow v0) → G (ow v1) → Pq (lX1_firstWrong_2 n v0 v1 v2 g) (Os4 G g)
  | 0, v0, v1, v2, g, _, _, _, _, _ => Pq.n
  | n + 1, v0, v1, v2, g, c, k_v0, k_v1, g_v0, g_v1 => by
    rw [lX1_firstWrong_2]
    refine Pq.ck ?_
    refine Pq.br ?_ ?_
    · exact Pq.s (PO.rf c)
    · refine Pq.ro (pfX0_method (c : RO g) k_v1) fun y1 f5 => ?_
      refine Pq.ck ?_
      refine Pq.st (pfX1_wrongPlace (G := G) c k_v0 k_v1 g_v0 g_v1 (gO f5.2 g_v1)) fun y3 g4 o6 => ?_
      refine Pq.br ?_ ?_
      · exact Pq.t4 ((PO.rf c).trans o6) (plX1_firstWrong_2 (G := G) n _ _ _ _ ((PO.rf c).trans o6).2 k_v0 k_v1 g_v0 g_v1)
      · exact Pq.s ((PO.rf c).trans o6)
theorem pfX1_firstWrong {G : Nat → Prop} {g : hs_S} {v0 : Nat} {v1 : Nat} (c : RO g) (k_v0 : gm_k v0 = 1) (k_v1 : gm_k v1 = 0) (g_v0 : G (ow v0)) (g_v1 : G (ow v1)) : Pq (fX1_firstWrong v0 v1 g) (Os G g) := by
  unfold fX1_firstWrong
  refine Pq.s4 (plX1_firstWrong_2 (G := G) hs_N _ _ _ _ c k_v0 k_v1 g_v0 g_v1) fun y1 y2 y3 g4 o7 => ?_
  refine Pq.br ?_ ?_
  · exact Pq.s ((PO.rf c).trans o7)
  · refine Pq.ck ?_
    refine Pq.ro (pfX0_method (((PO.rf c).trans o7).2 : RO g4) k_v1) fun y5 f8 => ?_
    refine Pq.ck ?_
    exact Pq.s ((PO.rf c).trans o7)
theorem plX2_firstWrong_40 {G : Nat → Prop} : ∀ (n : Nat) (v0 : Nat) (v1 : Nat) (v2 : Int32) (v3 : Int32) (g : hs_S), RO g → gm_k v1 = 0 → G (ow v1) → Pq (lX2_firstWrong_40 n v0 v1 v2 v3 g) (Os4 G g)
  | 0, v0, v1, v2, v3, g, _, _, _ => Pq.n
  | n + 1, v0, v1, v2, v3, g, c, k_v1, g_v1 => by
    rw [lX2_firstWrong_40]
    refine Pq.ck ?_
    refine Pq.br ?_ ?_
    · exact Pq.s (PO.rf c)
    · refine Pq.ro (pfX0_method (c : RO g) k_v1) fun y1 f9 => ?_
      refine Pq.ck ?_
      refine Pq.st (pfX2_wrongInMethod (G := G) c f9.1 (gO f9.2 g_v1)) fun y3 g4 o10 => ?_
      refine Pq.br ?_ ?_
      · refine Pq.ck ?_
        refine Pq.ro (pfX0_method (((PO.rf c).trans o10).2 : RO g4) k_v1) fun y5 f11 => ?_
        refine Pq.ck ?_
        refine Pq.ro (pfX2_endOf) fun y7 f12 => ?_
        exact Pq.t4 ((PO.rf c).trans o10) (plX2_firstWrong_40 (G := G) n _ _ _ _ _ ((PO.rf c).trans o10).2 k_v1 g_v1)
      · exact Pq.s ((PO.rf c).trans o10)
theorem pfX2_firstWrong {G : Nat → Prop} {g : hs_S} {v0 : Nat} {v1 : Nat} (c : RO g) (k_v0 : gm_k v0 = 2) (k_v1 : gm_k v1 = 0) (g_v0 : G (ow v0)) (g_v1 : G (ow v1)) : Pq (fX2_firstWrong v0 v1 g) (Os G g) := by
  unfold fX2_firstWrong
  refine Pq.ck ?_
  refine Pq.ro (pfX0_valueAt) fun y1 f9 => ?_
  refine Pq.ck ?_
  refine Pq.br ?_ ?_
  · exact Pq.s ((PO.rf c).w g_v1)
  · refine Pq.br ?_ ?_
    · exact Pq.s ((PO.rf c).w g_v1)
    · refine Pq.br ?_ ?_
      · refine Pq.s4 (plX2_firstWrong_40 (G := G) hs_N _ _ _ _ _ c k_v1 g_v1) fun y3 y4 y5 g6 o10 => ?_
        refine Pq.br ?_ ?_
        · refine Pq.ck ?_
          refine Pq.br ?_ ?_
          · refine Pq.ck ?_
            refine Pq.ck ?_
            refine Pq.ck ?_
            refine Pq.st (pfX1_firstWrong (G := G) (((PO.rf c).w g_v1).trans o10).2 (((((PO.rf c).w g_v1).trans o10).2.1 _).2.2.1 k_v0).2 k_v1 ((((PO.rf c).w g_v1).trans o10).2.2.o k_v0 (by decide) g_v0) g_v1) fun y7 g8 o11 => ?_
            exact Pq.s ((((PO.rf c).w g_v1).trans o10).trans o11)
          · exact Pq.s (((PO.rf c).w g_v1).trans o10)
        · exact Pq.s (((PO.rf c).w g_v1).trans o10)
      · exact Pq.s ((PO.rf c).w g_v1)
theorem pfX0_empty {G : Nat → Prop} {g : hs_S} {v0 : Nat} (c : RO g) (g_v0 : G (ow v0)) : Pq (fX0_empty v0 g) (PO G g) := by
  unfold fX0_empty
  refine Pq.ck ?_
  exact Pq.s (((PO.rf c).w g_v0).w g_v0)
theorem pfX8_of {g : hs_S} {v0 : Nat} {v1 : Int32}  : Pq (fX8_of v0 v1 g) (Or' g tt) := by
  unfold fX8_of
  refine Pq.ck ?_
  refine Pq.ck ?_
  refine Pq.ro (pfX9_at) fun y1 f3 => ?_
  exact Pq.s ⟨rfl, trivial⟩
theorem plX7_sumFrom_5 : ∀ (n : Nat) (v0 : Nat) (v1 : Int32) (v2 : Nat) (v3 : Int32) (v4 : Int32) (g : hs_S), Pq (lX7_sumFrom_5 n v0 v1 v2 v3 v4 g) (Or3 g)
  | 0, v0, v1, v2, v3, v4, g => Pq.n
  | n + 1, v0, v1, v2, v3, v4, g => by
    rw [lX7_sumFrom_5]
    unfold jX7_sumFrom_32 jX7_sumFrom_54
    refine Pq.ck ?_
    refine Pq.br ?_ ?_
    · exact Pq.s rfl
    · refine Pq.br ?_ ?_
      · refine Pq.ck ?_
        refine Pq.ro (pfX7_begins) fun y3 f15 => ?_
        refine Pq.br ?_ ?_
        · exact (plX7_sumFrom_5 n _ _ _ _ _ _)
        · refine Pq.ck ?_
          refine Pq.ro (pfX7_valueAt) fun y5 f16 => ?_
          refine Pq.ck ?_
          refine Pq.ro (pfX8_of) fun y7 f17 => ?_
          exact (plX7_sumFrom_5 n _ _ _ _ _ _)
      · refine Pq.ro (pfX7_beginsBlock) fun y1 f18 => ?_
        refine Pq.br ?_ ?_
        · refine Pq.ck ?_
          refine Pq.ro (pfX7_begins) fun y9 f19 => ?_
          refine Pq.br ?_ ?_
          · exact (plX7_sumFrom_5 n _ _ _ _ _ _)
          · refine Pq.ck ?_
            refine Pq.ro (pfX7_valueAt) fun y11 f20 => ?_
            refine Pq.ck ?_
            refine Pq.ro (pfX8_of) fun y13 f21 => ?_
            exact (plX7_sumFrom_5 n _ _ _ _ _ _)
        · exact Pq.s rfl
theorem pfX7_sumFrom {g : hs_S} {v0 : Nat} {v1 : Int32} {v2 : Nat}  : Pq (fX7_sumFrom v0 v1 v2 g) (Or' g tt) := by
  unfold fX7_sumFrom
  refine Pq.r3 (plX7_sumFrom_5 hs_N _ _ _ _ _ _) fun y1 y2 => ?_
  refine Pq.br ?_ ?_
  · exact Pq.s ⟨rfl, trivial⟩
  · exact Pq.s ⟨rfl, trivial⟩
theorem plX5_takeSums_10 {G : Nat → Prop} : ∀ (n : Nat) (v0 : Nat) (v1 : Nat) (v2 : Nat) (v3 : Int32) (g : hs_S), RO g → gm_k v0 = 4 → G (ow v0) → Pq (lX5_takeSums_10 n v0 v1 v2 v3 g) (PO G g)
  | 0, v0, v1, v2, v3, g, _, _, _ => Pq.n
  | n + 1, v0, v1, v2, v3, g, c, k_v0, g_v0 => by
    rw [lX5_takeSums_10]
    unfold jX5_takeSums_47
    refine Pq.ck ?_
    refine Pq.br ?_ ?_
    · exact Pq.s (PO.rf c)
    · refine Pq.ck ?_
      refine Pq.br ?_ ?_
      · exact Pq.s (PO.rf c)
      · refine Pq.ro (pfX7_beginsBlock) fun y1 f6 => ?_
        refine Pq.br ?_ ?_
        · exact Pq.tv (PO.rf c) (plX5_takeSums_10 (G := G) n _ _ _ _ _ c k_v0 g_v0)
        · refine Pq.ck ?_
          refine Pq.ck ?_
          refine Pq.ck ?_
          refine Pq.ro (pfX7_sumFrom) fun y3 f7 => ?_
          refine Pq.sv (pfX9_put (G := G) c (c.2.o k_v0 (by decide) g_v0)) fun  g5 o8 => ?_
          exact Pq.tv ((PO.rf c).trans o8) (plX5_takeSums_10 (G := G) n _ _ _ _ _ ((PO.rf c).trans o8).2 k_v0 g_v0)
theorem pfX5_takeSums {G : Nat → Prop} {g : hs_S} {v0 : Nat} {v1 : Nat} {v2 : Nat} (c : RO g) (k_v0 : gm_k v0 = 4) (g_v0 : G (ow v0)) : Pq (fX5_takeSums v0 v1 v2 g) (PO G g) := by
  unfold fX5_takeSums
  refine Pq.ck ?_
  refine Pq.ck ?_
  refine Pq.sv (pfJ7_fill_53178 (G := G) c (c.2.o k_v0 (by decide) g_v0)) fun  g1 o3 => ?_
  refine Pq.sv (plX5_takeSums_10 (G := G) hs_N _ _ _ _ _ ((PO.rf c).trans o3).2 k_v0 g_v0) fun  g2 o4 => ?_
  exact Pq.s (((PO.rf c).trans o3).trans o4)
theorem pfX5_sumBytes {g : hs_S} {v0 : Nat} {v1 : Int32}  : Pq (fX5_sumBytes v0 v1 g) (Or' g tt) := by
  unfold fX5_sumBytes
  refine Pq.ck ?_
  refine Pq.ck ?_
  refine Pq.ro (pfX9_at) fun y1 f3 => ?_
  refine Pq.br ?_ ?_
  · exact Pq.s ⟨rfl, trivial⟩
  · exact Pq.s ⟨rfl, trivial⟩
theorem pfX5_paysTop {g : hs_S} {v0 : Nat} {v1 : Nat} {v2 : Int32}  : Pq (fX5_paysTop v0 v1 v2 g) (Or' g tt) := by
  unfold fX5_paysTop
  refine Pq.ck ?_
  refine Pq.br ?_ ?_
  · exact Pq.s ⟨rfl, trivial⟩
  · refine Pq.ck ?_
    refine Pq.ro (pfX7_valueAt) fun y1 f3 => ?_
    refine Pq.br ?_ ?_
    · exact Pq.s ⟨rfl, trivial⟩
    · exact Pq.s ⟨rfl, trivial⟩
theorem pfX5_bytesAhead {g : hs_S} {v0 : Nat} {v1 : Nat} {v2 : Int32}  : Pq (fX5_bytesAhead v0 v1 v2 g) (Or' g tt) := by
  unfold fX5_bytesAhead
  refine Pq.ck ?_
  refine Pq.ro (pfX5_sumBytes) fun y1 f5 => ?_
  refine Pq.ck ?_
  refine Pq.ro (pfX5_paysTop) fun y3 f6 => ?_
  refine Pq.br ?_ ?_
  · exact Pq.s ⟨rfl, trivial⟩
  · exact Pq.s ⟨rfl, trivial⟩
theorem pfX5_isLong {g : hs_S} {v0 : Nat} {v1 : Int32}  : Pq (fX5_isLong v0 v1 g) (Or' g tt) := by
  unfold fX5_isLong
  refine Pq.ck ?_
  refine Pq.ck ?_
  refine Pq.ro (pfX9_at) fun y1 f3 => ?_
  refine Pq.br ?_ ?_
  · exact Pq.s ⟨rfl, trivial⟩
  · exact Pq.s ⟨rfl, trivial⟩
theorem pfX5_bytesOf {g : hs_S} {v0 : Nat} {v1 : Nat} {v2 : Int32}  : Pq (fX5_bytesOf v0 v1 v2 g) (Or' g tt) := by
  unfold fX5_bytesOf
  refine Pq.ck ?_
  refine Pq.ro (pfX7_valueAt) fun y1 f13 => ?_
  refine Pq.ro (pfX4_isJump) fun y3 f14 => ?_
  refine Pq.br ?_ ?_
  · refine Pq.ro (pfX4_sizeOf) fun y5 f15 => ?_
    exact Pq.s ⟨rfl, trivial⟩
  · refine Pq.ck ?_
    refine Pq.ro (pfX5_isLong) fun y7 f16 => ?_
    refine Pq.br ?_ ?_
    · exact Pq.s ⟨rfl, trivial⟩
    · refine Pq.ro (pfX4_isBranch) fun y9 f17 => ?_
      refine Pq.br ?_ ?_
      · refine Pq.ro (pfX4_sizeOf) fun y11 f18 => ?_
        exact Pq.s ⟨rfl, trivial⟩
      · exact Pq.s ⟨rfl, trivial⟩
theorem plX5_placeAll_4 {G : Nat → Prop} : ∀ (n : Nat) (v0 : Nat) (v1 : Nat) (v2 : Int32) (v3 : Int32) (g : hs_S), RO g → gm_k v0 = 4 → G (ow v0) → Pq (lX5_placeAll_4 n v0 v1 v2 v3 g) (Os G g)
  | 0, v0, v1, v2, v3, g, _, _, _ => Pq.n
  | n + 1, v0, v1, v2, v3, g, c, k_v0, g_v0 => by
    rw [lX5_placeAll_4]
    unfold jX5_placeAll_45
    refine Pq.ck ?_
    refine Pq.br ?_ ?_
    · exact Pq.s (PO.rf c)
    · refine Pq.ro (pfX7_begins) fun y1 f8 => ?_
      refine Pq.br ?_ ?_
      · exact Pq.to (PO.rf c) (plX5_placeAll_4 (G := G) n _ _ _ _ _ c k_v0 g_v0)
      · refine Pq.ck ?_
        refine Pq.ck ?_
        refine Pq.sv (pfX9_put (G := G) c (c.2.o k_v0 (by decide) g_v0)) fun  g3 o9 => ?_
        refine Pq.ck ?_
        refine Pq.ro (pfX5_bytesAhead) fun y4 f10 => ?_
        refine Pq.ck ?_
        refine Pq.ro (pfX5_bytesOf) fun y6 f11 => ?_
        exact Pq.to ((PO.rf c).trans o9) (plX5_placeAll_4 (G := G) n _ _ _ _ _ ((PO.rf c).trans o9).2 k_v0 g_v0)
theorem pfX5_placeAll {G : Nat → Prop} {g : hs_S} {v0 : Nat} {v1 : Nat} (c : RO g) (k_v0 : gm_k v0 = 4) (g_v0 : G (ow v0)) : Pq (fX5_placeAll v0 v1 g) (Os G g) := by
  unfold fX5_placeAll
  refine Pq.st (plX5_placeAll_4 (G := G) hs_N _ _ _ _ _ c k_v0 g_v0) fun y1 g2 o4 => ?_
  refine Pq.ck ?_
  refine Pq.ck ?_
  refine Pq.ck ?_
  refine Pq.sv (pfX9_put (G := G) ((PO.rf c).trans o4).2 (((PO.rf c).trans o4).2.2.o k_v0 (by decide) g_v0)) fun  g3 o5 => ?_
  exact Pq.s (((PO.rf c).trans o4).trans o5)
theorem pfX5_wayOf {g : hs_S} {v0 : Nat} {v1 : Nat} {v2 : Int32}  : Pq (fX5_wayOf v0 v1 v2 g) (Or' g tt) := by
  unfold fX5_wayOf
  refine Pq.ck ?_
  refine Pq.ck ?_
  refine Pq.ro (pfX9_at) fun y1 f9 => ?_
  refine Pq.ck ?_
  refine Pq.ro (pfX5_sumBytes) fun y3 f10 => ?_
  refine Pq.ck ?_
  refine Pq.ck ?_
  refine Pq.ck ?_
  refine Pq.ro (pfX7_targetOf) fun y5 f11 => ?_
  refine Pq.ro (pfX9_at) fun y7 f12 => ?_
  exact Pq.s ⟨rfl, trivial⟩
theorem plX5_lengthen_4 {G : Nat → Prop} : ∀ (n : Nat) (v0 : Nat) (v1 : Nat) (v2 : Int32) (v3 : Int32) (g : hs_S), RO g → gm_k v0 = 4 → G (ow v0) → Pq (lX5_lengthen_4 n v0 v1 v2 v3 g) (Os G g)
  | 0, v0, v1, v2, v3, g, _, _, _ => Pq.n
  | n + 1, v0, v1, v2, v3, g, c, k_v0, g_v0 => by
    rw [lX5_lengthen_4]
    unfold jX5_lengthen_60 jX5_lengthen_71
    refine Pq.ck ?_
    refine Pq.br ?_ ?_
    · exact Pq.s (PO.rf c)
    · refine Pq.ro (pfX7_jumpsAt) fun y1 f10 => ?_
      refine Pq.br ?_ ?_
      · exact Pq.to (PO.rf c) (plX5_lengthen_4 (G := G) n _ _ _ _ _ c k_v0 g_v0)
      · refine Pq.ck ?_
        refine Pq.ro (pfX5_wayOf) fun y3 f11 => ?_
        refine Pq.ck ?_
        refine Pq.ck ?_
        refine Pq.sv (pfX9_put (G := G) c (c.2.o k_v0 (by decide) g_v0)) fun  g5 o12 => ?_
        refine Pq.ck ?_
        refine Pq.ro (pfX5_isLong) fun y6 f13 => ?_
        refine Pq.br ?_ ?_
        · refine Pq.br ?_ ?_
          · refine Pq.ck ?_
            refine Pq.ck ?_
            refine Pq.sv (pfX9_put (G := G) ((PO.rf c).trans o12).2 (((PO.rf c).trans o12).2.2.o k_v0 (by decide) g_v0)) fun  g8 o14 => ?_
            exact Pq.to (((PO.rf c).trans o12).trans o14) (plX5_lengthen_4 (G := G) n _ _ _ _ _ (((PO.rf c).trans o12).trans o14).2 k_v0 g_v0)
          · refine Pq.br ?_ ?_
            · exact Pq.to ((PO.rf c).trans o12) (plX5_lengthen_4 (G := G) n _ _ _ _ _ ((PO.rf c).trans o12).2 k_v0 g_v0)
            · refine Pq.ck ?_
              refine Pq.ck ?_
              refine Pq.sv (pfX9_put (G := G) ((PO.rf c).trans o12).2 (((PO.rf c).trans o12).2.2.o k_v0 (by decide) g_v0)) fun  g9 o15 => ?_
              exact Pq.to (((PO.rf c).trans o12).trans o15) (plX5_lengthen_4 (G := G) n _ _ _ _ _ (((PO.rf c).trans o12).trans o15).2 k_v0 g_v0)
        · exact Pq.to ((PO.rf c).trans o12) (plX5_lengthen_4 (G := G) n _ _ _ _ _ ((PO.rf c).trans o12).2 k_v0 g_v0)
theorem pfX5_lengthen {G : Nat → Prop} {g : hs_S} {v0 : Nat} {v1 : Nat} (c : RO g) (k_v0 : gm_k v0 = 4) (g_v0 : G (ow v0)) : Pq (fX5_lengthen v0 v1 g) (Os G g) := by
  unfold fX5_lengthen
  refine Pq.st (plX5_lengthen_4 (G := G) hs_N _ _ _ _ _ c k_v0 g_v0) fun y1 g2 o3 => ?_
  refine Pq.ck ?_
  exact Pq.s ((PO.rf c).trans o3)
theorem plX5_plan_29 {G : Nat → Prop} : ∀ (n : Nat) (v0 : Nat) (v1 : Nat) (v4 : Int32) (v5 : Int32) (g : hs_S), RO g → gm_k v0 = 4 → G (ow v0) → Pq (lX5_plan_29 n v0 v1 v4 v5 g) (Os G g)
  | 0, v0, v1, v4, v5, g, _, _, _ => Pq.n
  | n + 1, v0, v1, v4, v5, g, c, k_v0, g_v0 => by
    rw [lX5_plan_29]
    refine Pq.ck ?_
    refine Pq.br ?_ ?_
    · exact Pq.s (PO.rf c)
    · refine Pq.ck ?_
      refine Pq.st (pfX5_lengthen (G := G) c k_v0 g_v0) fun y1 g2 o5 => ?_
      refine Pq.br ?_ ?_
      · exact Pq.s ((PO.rf c).trans o5)
      · refine Pq.ck ?_
        refine Pq.st (pfX5_placeAll (G := G) ((PO.rf c).trans o5).2 k_v0 g_v0) fun y3 g4 o6 => ?_
        exact Pq.to (((PO.rf c).trans o5).trans o6) (plX5_plan_29 (G := G) n _ _ _ _ _ (((PO.rf c).trans o5).trans o6).2 k_v0 g_v0)
theorem pfX5_plan {G : Nat → Prop} {g : hs_S} {v0 : Nat} {v1 : Nat} {v2 : Nat} {v3 : Int32} (c : RO g) (k_v0 : gm_k v0 = 4) (g_v0 : G (ow v0)) : Pq (fX5_plan v0 v1 v2 v3 g) (Os G g) := by
  unfold fX5_plan
  refine Pq.ck ?_
  refine Pq.ck ?_
  refine Pq.sv (pfX5_takeSums (G := G) c k_v0 g_v0) fun  g1 o7 => ?_
  refine Pq.ck ?_
  refine Pq.ck ?_
  refine Pq.sv (pfJ7_fill_53178 (G := G) (((PO.rf c).w g_v0).trans o7).2 ((((PO.rf c).w g_v0).trans o7).2.2.o k_v0 (by decide) g_v0)) fun  g2 o8 => ?_
  refine Pq.ck ?_
  refine Pq.st (pfX5_placeAll (G := G) ((((PO.rf c).w g_v0).trans o7).trans o8).2 k_v0 g_v0) fun y3 g4 o9 => ?_
  refine Pq.st (plX5_plan_29 (G := G) hs_N _ _ _ _ _ (((((PO.rf c).w g_v0).trans o7).trans o8).trans o9).2 k_v0 g_v0) fun y5 g6 o10 => ?_
  exact Pq.s ((((((PO.rf c).w g_v0).trans o7).trans o8).trans o9).trans o10)
theorem pfX0_appendPair {G : Nat → Prop} {g : hs_S} {v0 : Nat} {v1 : Int32} (c : RO g) (k_v0 : gm_k v0 = 0) (g_v0 : G (ow v0)) : Pq (fX0_appendPair v0 v1 g) (PO G g) := by
  unfold fX0_appendPair
  refine Pq.ck ?_
  refine Pq.sv (pfX0_append (G := G) c k_v0 g_v0) fun  g1 o3 => ?_
  refine Pq.ck ?_
  refine Pq.sv (pfX0_append (G := G) ((PO.rf c).trans o3).2 k_v0 g_v0) fun  g2 o4 => ?_
  exact Pq.s (((PO.rf c).trans o3).trans o4)
theorem pfX4_opposite {g : hs_S} {v0 : Int32}  : Pq (fX4_opposite v0 g) (Or' g tt) := by
  unfold fX4_opposite
  exact Pq.s ⟨rfl, trivial⟩
theorem pfX5_writeJump {G : Nat → Prop} {g : hs_S} {v0 : Nat} {v1 : Nat} {v2 : Int32} {v3 : Nat} {v4 : Nat} (c : RO g) (k_v3 : gm_k v3 = 0) (g_v3 : G (ow v3)) (g_v4 : G (ow v4)) : Pq (fX5_writeJump v0 v1 v2 v3 v4 g) (PO G g) := by
  unfold fX5_writeJump jX5_writeJump_42 jX5_writeJump_102
  refine Pq.ck ?_
  refine Pq.ro (pfX7_valueAt) fun y1 f23 => ?_
  refine Pq.ck ?_
  refine Pq.ck ?_
  refine Pq.ro (pfX9_at) fun y3 f24 => ?_
  refine Pq.ck ?_
  refine Pq.ro (pfX5_isLong) fun y5 f25 => ?_
  refine Pq.br ?_ ?_
  · refine Pq.ro (pfX4_isBranch) fun y7 f26 => ?_
    refine Pq.br ?_ ?_
    · refine Pq.ck ?_
      refine Pq.sv (pfX0_append (G := G) c k_v3 g_v3) fun  g15 o27 => ?_
      refine Pq.ck ?_
      refine Pq.sv (pfX0_append (G := G) ((PO.rf c).trans o27).2 k_v3 g_v3) fun  g16 o28 => ?_
      exact Pq.s (((PO.rf c).trans o27).trans o28)
    · refine Pq.ck ?_
      refine Pq.sv (pfX0_append (G := G) c k_v3 g_v3) fun  g17 o29 => ?_
      refine Pq.ck ?_
      refine Pq.sv (pfX0_append (G := G) ((PO.rf c).trans o29).2 k_v3 g_v3) fun  g18 o30 => ?_
      exact Pq.s (((PO.rf c).trans o29).trans o30)
  · refine Pq.ro (pfX4_isBranch) fun y9 f31 => ?_
    refine Pq.br ?_ ?_
    · refine Pq.ck ?_
      refine Pq.ck ?_
      refine Pq.sv (pfX0_append (G := G) c k_v3 g_v3) fun  g19 o32 => ?_
      refine Pq.ck ?_
      refine Pq.sv (pfX0_appendPair (G := G) (((PO.rf c).w g_v4).trans o32).2 k_v3 g_v3) fun  g20 o33 => ?_
      exact Pq.s ((((PO.rf c).w g_v4).trans o32).trans o33)
    · refine Pq.ro (pfX4_opposite) fun y11 f34 => ?_
      refine Pq.ck ?_
      refine Pq.sv (pfX0_append (G := G) c k_v3 g_v3) fun  g13 o35 => ?_
      refine Pq.ck ?_
      refine Pq.sv (pfX0_append (G := G) ((PO.rf c).trans o35).2 k_v3 g_v3) fun  g14 o36 => ?_
      refine Pq.ck ?_
      refine Pq.ck ?_
      refine Pq.sv (pfX0_append (G := G) (((PO.rf c).trans o35).trans o36).2 k_v3 g_v3) fun  g21 o37 => ?_
      refine Pq.ck ?_
      refine Pq.sv (pfX0_appendPair (G := G) (((((PO.rf c).trans o35).trans o36).w g_v4).trans o37).2 k_v3 g_v3) fun  g22 o38 => ?_
      exact Pq.s ((((((PO.rf c).trans o35).trans o36).w g_v4).trans o37).trans o38)
theorem plX5_writeInstruction_84 {G : Nat → Prop} : ∀ (n : Nat) (v1 : Nat) (v2 : Int32) (v3 : Nat) (v6 : Int32) (v7 : Int32) (g : hs_S), RO g → gm_k v3 = 0 → G (ow v3) → Pq (lX5_writeInstruction_84 n v1 v2 v3 v6 v7 g) (PO G g)
  | 0, v1, v2, v3, v6, v7, g, _, _, _ => Pq.n
  | n + 1, v1, v2, v3, v6, v7, g, c, k_v3, g_v3 => by
    rw [lX5_writeInstruction_84]
    refine Pq.br ?_ ?_
    · exact Pq.s (PO.rf c)
    · refine Pq.ck ?_
      refine Pq.ro (pfX7_valueAt) fun y1 f4 => ?_
      refine Pq.ck ?_
      refine Pq.sv (pfX0_append (G := G) c k_v3 g_v3) fun  g3 o5 => ?_
      exact Pq.tv ((PO.rf c).trans o5) (plX5_writeInstruction_84 (G := G) n _ _ _ _ _ _ ((PO.rf c).trans o5).2 k_v3 g_v3)
theorem pfX5_writeInstruction {G : Nat → Prop} {g : hs_S} {v0 : Nat} {v1 : Nat} {v2 : Int32} {v3 : Nat} {v4 : Nat} (c : RO g) (k_v3 : gm_k v3 = 0) (g_v3 : G (ow v3)) (g_v4 : G (ow v4)) : Pq (fX5_writeInstruction v0 v1 v2 v3 v4 g) (PO G g) := by
  unfold fX5_writeInstruction jX5_writeInstruction_37 jX5_writeInstruction_53
  refine Pq.ck ?_
  refine Pq.ck ?_
  refine Pq.ro (pfX9_at) fun y1 f44 => ?_
  refine Pq.br ?_ ?_
  · refine Pq.ck ?_
    refine Pq.ro (pfX5_paysTop) fun y6 f45 => ?_
    refine Pq.br ?_ ?_
    · refine Pq.ck ?_
      refine Pq.ro (pfX7_valueAt) fun y9 f46 => ?_
      refine Pq.ro (pfX4_isJump) fun y11 f47 => ?_
      refine Pq.br ?_ ?_
      · refine Pq.ck ?_
        refine Pq.ro (pfX7_sizeAt) fun y13 f48 => ?_
        refine Pq.sv (plX5_writeInstruction_84 (G := G) hs_N _ _ _ _ _ _ c k_v3 g_v3) fun  g15 o49 => ?_
        exact Pq.s ((PO.rf c).trans o49)
      · refine Pq.ck ?_
        refine Pq.sv (pfX5_writeJump (G := G) c k_v3 g_v3 g_v4) fun  g16 o50 => ?_
        exact Pq.s ((PO.rf c).trans o50)
    · refine Pq.ck ?_
      refine Pq.sv (pfX0_append (G := G) c k_v3 g_v3) fun  g8 o51 => ?_
      refine Pq.ck ?_
      refine Pq.ro (pfX7_valueAt) fun y17 f52 => ?_
      refine Pq.ro (pfX4_isJump) fun y19 f53 => ?_
      refine Pq.br ?_ ?_
      · refine Pq.ck ?_
        refine Pq.ro (pfX7_sizeAt) fun y21 f54 => ?_
        refine Pq.sv (plX5_writeInstruction_84 (G := G) hs_N _ _ _ _ _ _ ((PO.rf c).trans o51).2 k_v3 g_v3) fun  g23 o55 => ?_
        exact Pq.s (((PO.rf c).trans o51).trans o55)
      · refine Pq.ck ?_
        refine Pq.sv (pfX5_writeJump (G := G) ((PO.rf c).trans o51).2 k_v3 g_v3 g_v4) fun  g24 o56 => ?_
        exact Pq.s (((PO.rf c).trans o51).trans o56)
  · refine Pq.ck ?_
    refine Pq.sv (pfX0_append (G := G) c k_v3 g_v3) fun  g3 o57 => ?_
    refine Pq.ck ?_
    refine Pq.sv (pfX0_appendPair (G := G) ((PO.rf c).trans o57).2 k_v3 g_v3) fun  g4 o58 => ?_
    refine Pq.ck ?_
    refine Pq.sv (pfX0_appendPair (G := G) (((PO.rf c).trans o57).trans o58).2 k_v3 g_v3) fun  g5 o59 => ?_
    refine Pq.ck ?_
    refine Pq.ro (pfX5_paysTop) fun y25 f60 => ?_
    refine Pq.br ?_ ?_
    · refine Pq.ck ?_
      refine Pq.ro (pfX7_valueAt) fun y28 f61 => ?_
      refine Pq.ro (pfX4_isJump) fun y30 f62 => ?_
      refine Pq.br ?_ ?_
      · refine Pq.ck ?_
        refine Pq.ro (pfX7_sizeAt) fun y32 f63 => ?_
        refine Pq.sv (plX5_writeInstruction_84 (G := G) hs_N _ _ _ _ _ _ ((((PO.rf c).trans o57).trans o58).trans o59).2 k_v3 g_v3) fun  g34 o64 => ?_
        exact Pq.s (((((PO.rf c).trans o57).trans o58).trans o59).trans o64)
      · refine Pq.ck ?_
        refine Pq.sv (pfX5_writeJump (G := G) ((((PO.rf c).trans o57).trans o58).trans o59).2 k_v3 g_v3 g_v4) fun  g35 o65 => ?_
        exact Pq.s (((((PO.rf c).trans o57).trans o58).trans o59).trans o65)
    · refine Pq.ck ?_
      refine Pq.sv (pfX0_append (G := G) ((((PO.rf c).trans o57).trans o58).trans o59).2 k_v3 g_v3) fun  g27 o66 => ?_
      refine Pq.ck ?_
      refine Pq.ro (pfX7_valueAt) fun y36 f67 => ?_
      refine Pq.ro (pfX4_isJump) fun y38 f68 => ?_
      refine Pq.br ?_ ?_
      · refine Pq.ck ?_
        refine Pq.ro (pfX7_sizeAt) fun y40 f69 => ?_
        refine Pq.sv (plX5_writeInstruction_84 (G := G) hs_N _ _ _ _ _ _ (((((PO.rf c).trans o57).trans o58).trans o59).trans o66).2 k_v3 g_v3) fun  g42 o70 => ?_
        exact Pq.s ((((((PO.rf c).trans o57).trans o58).trans o59).trans o66).trans o70)
      · refine Pq.ck ?_
        refine Pq.sv (pfX5_writeJump (G := G) (((((PO.rf c).trans o57).trans o58).trans o59).trans o66).2 k_v3 g_v3 g_v4) fun  g43 o71 => ?_
        exact Pq.s ((((((PO.rf c).trans o57).trans o58).trans o59).trans o66).trans o71)
theorem plX5_moveHandlers_21 {G : Nat → Prop} : ∀ (n : Nat) (v0 : Nat) (v1 : Nat) (v2 : Nat) (v3 : Int32) (v4 : Int32) (g : hs_S), RO g → gm_k v2 = 6 → G (ow v2) → Pq (lX5_moveHandlers_21 n v0 v1 v2 v3 v4 g) (PO G g)
  | 0, v0, v1, v2, v3, v4, g, _, _, _ => Pq.n
  | n + 1, v0, v1, v2, v3, v4, g, c, k_v2, g_v2 => by
    rw [lX5_moveHandlers_21]
    refine Pq.br ?_ ?_
    · exact Pq.s (PO.rf c)
    · refine Pq.ck ?_
      refine Pq.ro (pfX7_handlerNumber) fun y1 f6 => ?_
      refine Pq.ck ?_
      refine Pq.ck ?_
      refine Pq.ro (pfX9_at) fun y3 f7 => ?_
      refine Pq.ck ?_
      refine Pq.sv (pfX7_setHandlerNumber (G := G) c k_v2 g_v2) fun  g5 o8 => ?_
      exact Pq.tv ((PO.rf c).trans o8) (plX5_moveHandlers_21 (G := G) n _ _ _ _ _ _ ((PO.rf c).trans o8).2 k_v2 g_v2)
theorem plX5_moveHandlers_10 {G : Nat → Prop} : ∀ (n : Nat) (v0 : Nat) (v1 : Nat) (v2 : Nat) (v3 : Int32) (g : hs_S), RO g → gm_k v2 = 6 → G (ow v2) → Pq (lX5_moveHandlers_10 n v0 v1 v2 v3 g) (PO G g)
  | 0, v0, v1, v2, v3, g, _, _, _ => Pq.n
  | n + 1, v0, v1, v2, v3, g, c, k_v2, g_v2 => by
    rw [lX5_moveHandlers_10]
    refine Pq.ck ?_
    refine Pq.br ?_ ?_
    · exact Pq.s (PO.rf c)
    · refine Pq.sv (plX5_moveHandlers_21 (G := G) hs_N _ _ _ _ _ _ c k_v2 g_v2) fun  g1 o5 => ?_
      refine Pq.ck ?_
      refine Pq.ro (pfX7_handlerNumber) fun y2 f6 => ?_
      refine Pq.ck ?_
      refine Pq.sv (pfX7_setHandlerNumber (G := G) ((PO.rf c).trans o5).2 k_v2 g_v2) fun  g4 o7 => ?_
      exact Pq.tv (((PO.rf c).trans o5).trans o7) (plX5_moveHandlers_10 (G := G) n _ _ _ _ _ (((PO.rf c).trans o5).trans o7).2 k_v2 g_v2)
theorem pfX5_moveHandlers {G : Nat → Prop} {g : hs_S} {v0 : Nat} {v1 : Nat} {v2 : Nat} (c : RO g) (k_v2 : gm_k v2 = 6) (g_v2 : G (ow v2)) : Pq (fX5_moveHandlers v0 v1 v2 g) (PO G g) := by
  unfold fX5_moveHandlers
  refine Pq.ck ?_
  refine Pq.ck ?_
  refine Pq.sv (plX5_moveHandlers_10 (G := G) hs_N _ _ _ _ _ c k_v2 g_v2) fun  g1 o2 => ?_
  exact Pq.s (((PO.rf c).w g_v2).trans o2)
theorem plX5_write_39 {G : Nat → Prop} : ∀ (n : Nat) (v0 : Nat) (v1 : Nat) (v2 : Nat) (v3 : Nat) (v4 : Int32) (g : hs_S), RO g → gm_k v2 = 0 → G (ow v2) → G (ow v3) → Pq (lX5_write_39 n v0 v1 v2 v3 v4 g) (PO G g)
  | 0, v0, v1, v2, v3, v4, g, _, _, _, _ => Pq.n
  | n + 1, v0, v1, v2, v3, v4, g, c, k_v2, g_v2, g_v3 => by
    rw [lX5_write_39]
    unfold jX5_write_66
    refine Pq.ck ?_
    refine Pq.br ?_ ?_
    · exact Pq.s (PO.rf c)
    · refine Pq.ro (pfX7_begins) fun y1 f4 => ?_
      refine Pq.br ?_ ?_
      · exact Pq.tv (PO.rf c) (plX5_write_39 (G := G) n _ _ _ _ _ _ c k_v2 g_v2 g_v3)
      · refine Pq.ck ?_
        refine Pq.sv (pfX5_writeInstruction (G := G) c k_v2 g_v2 g_v3) fun  g3 o5 => ?_
        exact Pq.tv ((PO.rf c).trans o5) (plX5_write_39 (G := G) n _ _ _ _ _ _ ((PO.rf c).trans o5).2 k_v2 g_v2 g_v3)
theorem pfX5_write {G : Nat → Prop} {g : hs_S} {v0 : Nat} {v1 : Nat} {v2 : Nat} {v3 : Nat} (c : RO g) (k_v2 : gm_k v2 = 0) (k_v3 : gm_k v3 = 6) (g_v2 : G (ow v2)) (g_v3 : G (ow v3)) : Pq (fX5_write v0 v1 v2 v3 g) (PO G g) := by
  unfold fX5_write
  refine Pq.ck ?_
  refine Pq.sv (pfX7_empty (G := G) c g_v3) fun  g1 o5 => ?_
  refine Pq.ck ?_
  refine Pq.ck ?_
  refine Pq.sm ?_
  refine Pq.ck ?_
  refine Pq.sv (plX5_write_39 (G := G) hs_N _ _ _ _ _ _ ((PO.rf c).trans o5).2 k_v2 g_v2 g_v3) fun  g3 o6 => ?_
  refine Pq.ck ?_
  refine Pq.ck ?_
  refine Pq.ck ?_
  refine Pq.sv (pfX5_moveHandlers (G := G) (((((((PO.rf c).trans o5).w g_v3).w g_v3).w g_v3).w g_v3).trans o6).2 k_v3 g_v3) fun  g4 o7 => ?_
  exact Pq.s (((((((((PO.rf c).trans o5).w g_v3).w g_v3).w g_v3).w g_v3).trans o6).w g_v3).trans o7)
theorem plX0_codeBytes_4 : ∀ (n : Nat) (v0 : Nat) (v1 : Int32) (v2 : Int32) (g : hs_S), Pq (lX0_codeBytes_4 n v0 v1 v2 g) (Or' g tt)
  | 0, v0, v1, v2, g => Pq.n
  | n + 1, v0, v1, v2, g => by
    rw [lX0_codeBytes_4]
    refine Pq.ck ?_
    refine Pq.br ?_ ?_
    · exact Pq.s ⟨rfl, trivial⟩
    · refine Pq.ro pfX0_method0 fun y1 f3 => ?_
      refine Pq.ck ?_
      exact (plX0_codeBytes_4 n _ _ _ _)
theorem pfX0_codeBytes {g : hs_S} {v0 : Nat}  : Pq (fX0_codeBytes v0 g) (Or' g tt) := by
  unfold fX0_codeBytes
  refine Pq.ro (plX0_codeBytes_4 hs_N _ _ _ _) fun y1 f3 => ?_
  exact Pq.s ⟨rfl, trivial⟩
theorem plX7_blockBegin_4 : ∀ (n : Nat) (v0 : Nat) (v1 : Int32) (v2 : Int32) (v3 : Int32) (g : hs_S), Pq (lX7_blockBegin_4 n v0 v1 v2 v3 g) (Or3 g)
  | 0, v0, v1, v2, v3, g => Pq.n
  | n + 1, v0, v1, v2, v3, g => by
    rw [lX7_blockBegin_4]
    unfold jX7_blockBegin_30
    refine Pq.ck ?_
    refine Pq.br ?_ ?_
    · exact Pq.s rfl
    · refine Pq.ro (pfX7_beginsBlock) fun y1 f3 => ?_
      refine Pq.br ?_ ?_
      · exact (plX7_blockBegin_4 n _ _ _ _ _)
      · refine Pq.br ?_ ?_
        · exact Pq.s rfl
        · exact (plX7_blockBegin_4 n _ _ _ _ _)
theorem pfX7_blockBegin {g : hs_S} {v0 : Nat} {v1 : Int32}  : Pq (fX7_blockBegin v0 v1 g) (Or' g tt) := by
  unfold fX7_blockBegin
  refine Pq.r3 (plX7_blockBegin_4 hs_N _ _ _ _ _) fun y1 y2 => ?_
  refine Pq.br ?_ ?_
  · exact Pq.s ⟨rfl, trivial⟩
  · exact Pq.s ⟨rfl, trivial⟩
theorem pfX10_empty {G : Nat → Prop} {g : hs_S} {v0 : Nat} (c : RO g) (k_v0 : gm_k v0 = 8) (g_v0 : G (ow v0)) : Pq (fX10_empty v0 g) (PO G g) := by
  unfold fX10_empty
  refine Pq.ck ?_
  refine Pq.ck ?_
  refine Pq.sv (pfJ7_fill_53178 (G := G) c (c.2.o k_v0 (by decide) g_v0)) fun  g1 o2 => ?_
  exact Pq.s ((PO.rf c).trans o2)
theorem pfX6_forget {G : Nat → Prop} {g : hs_S} {v0 : Nat} (c : RO g) (k_v0 : gm_k v0 = 5) (g_v0 : G (ow v0)) : Pq (fX6_forget v0 g) (PO G g) := by
  unfold fX6_forget
  refine Pq.ck ?_
  refine Pq.ck ?_
  refine Pq.ck ?_
  refine Pq.sv (pfX10_empty (G := G) c ((c.1 _).2.2.2.2.2.1 k_v0).2.2.2 (c.2.o k_v0 (by decide) g_v0)) fun  g1 o2 => ?_
  refine Pq.ck ?_
  exact Pq.s ((((((PO.rf c).trans o2).w g_v0).w g_v0).w g_v0).w g_v0)
theorem pfX6_frame {g : hs_S} {v0 : Nat} {v1 : Int32} (c : RO g) (k0 : gm_k v0 = 5) : Pq (fX6_frame v0 v1 g) (Or' g (fun r => gm_k r = 3 ∧ ow r = ow v0)) := by
  obtain ⟨h1, h2, h3, h4⟩ := c.L5 k0
  have ko : ∀ j, j < 60 → ow (hs_R g (hs_R g v0 1 - 1) j - 1) = ow v0 := fun j hj => (c.2 _ j (by rw [h2]; simp [coS, hj])).trans (c.2 v0 1 (by rw [k0]; decide))
  have h0 : Pq (jX6_frame_19 v0 g) (Or' g (fun r => gm_k r = 3 ∧ ow r = ow v0)) := by
    unfold jX6_frame_19
    exact Pq.ck (Pq.ck (Pq.ck (Pq.ck (Pq.ck (Pq.s ⟨rfl, (h4 0 (by decide)).2, ko 0 (by decide)⟩)))))
  unfold fX6_frame
  by_cases c1 : v1 < 0
  · rw [if_pos c1]; exact h0
  · rw [if_neg c1]
    by_cases c2 : (60 : Int32) ≤ v1
    · rw [if_pos c2]; exact h0
    · rw [if_neg c2]
      have hj := hs_in_lt (in_lit (n := 60) (by decide) c1 c2)
      exact Pq.ck (Pq.ck (Pq.ck (Pq.ck (Pq.ck (Pq.s ⟨rfl, (h4 _ hj).2, ko _ hj⟩)))))
theorem CO.wR {R : Nat → Nat → Nat} (co : CO R) {f m : Nat} (hf : gm_k f = 3) : CO (fun b i => if b = f then (if i = 3 then m + 1 else R b i) else R b i) := by
  intro a j h
  show ow ((if a = f then (if j = 3 then m + 1 else R a j) else R a j) - 1) = ow a
  by_cases e : a = f
  · have hj : j ≠ 3 := by
      intro q
      rw [e, hf, q] at h
      exact absurd h (by decide)
    rw [if_pos e, if_neg hj]; exact co a j h
  · rw [if_neg e]; exact co a j h
theorem pfX3_begin {G : Nat → Prop} {g : hs_S} {v0 v1 : Nat} (c : RO g) (k_v0 : gm_k v0 = 3) (k_v1 : gm_k v1 = 6) (g_v0 : G (ow v0)) : Pq (fX3_begin v0 v1 g) (PO G g) := by
  unfold fX3_begin
  have c1 : RO (hs_wR g v0 3 v1) := ⟨c.1.wR k_v0 k_v1, c.2.wR k_v0⟩
  have q1 : PO G g (hs_wR g v0 3 v1) := ⟨fun _ _ => rfl, c1⟩
  have q3 : PO G g (hs_wI (hs_wI (hs_wR g v0 3 v1) v0 4 (0 : Int32)) v0 2 (0 : Int32)) := (q1.w g_v0).w g_v0
  refine Pq.ck (Pq.ck (Pq.sv (pfJ7_fill_53178 (G := G) q3.2 (q3.2.2.o k_v0 (by decide) g_v0)) fun g' o' => Pq.s (q3.trans o')))
theorem pfX3_setLocal {G : Nat → Prop} {g : hs_S} {v0 : Nat} {v1 : Int32} {v2 : Int32} (c : RO g) (k_v0 : gm_k v0 = 3) (g_v0 : G (ow v0)) : Pq (fX3_setLocal v0 v1 v2 g) (PO G g) := by
  unfold fX3_setLocal
  refine Pq.ck ?_
  refine Pq.ck ?_
  refine Pq.sv (pfX9_put (G := G) c (c.2.o k_v0 (by decide) g_v0)) fun  g1 o2 => ?_
  exact Pq.s ((PO.rf c).trans o2)
theorem pfX3_kind {g : hs_S} {v0 : Nat}  : Pq (fX3_kind v0 g) (Or' g tt) := by
  unfold fX3_kind
  refine Pq.ck ?_
  refine Pq.ck ?_
  refine Pq.ck ?_
  refine Pq.ro (pfX7_valueAt) fun y1 f3 => ?_
  exact Pq.s ⟨rfl, trivial⟩
theorem pfX7_pairAt {g : hs_S} {v0 : Nat} {v1 : Int32}  : Pq (fX7_pairAt v0 v1 g) (Or' g tt) := by
  unfold fX7_pairAt
  refine Pq.ck ?_
  refine Pq.ro (pfX7_valueAt) fun y1 f5 => ?_
  refine Pq.ck ?_
  refine Pq.ro (pfX7_valueAt) fun y3 f6 => ?_
  exact Pq.s ⟨rfl, trivial⟩
theorem pfX7_fourAt {g : hs_S} {v0 : Nat} {v1 : Int32}  : Pq (fX7_fourAt v0 v1 g) (Or' g tt) := by
  unfold fX7_fourAt
  refine Pq.ck ?_
  refine Pq.ro (pfX7_pairAt) fun y1 f5 => ?_
  refine Pq.ck ?_
  refine Pq.ro (pfX7_pairAt) fun y3 f6 => ?_
  exact Pq.s ⟨rfl, trivial⟩
