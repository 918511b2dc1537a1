def j_X10_effect_271 (K : zI → zP → Prop) (I : zI) (P : zP) : Prop := w_X10_push 1 I P (fun (I1 : zI) (P1 : zP) => (K I1 P1))
theorem gj_X10_effect_271 {κ : zX} (cx : Cx yX10_effect cX10_effect 7 none 3 66 κ) {K : zI → zP → Prop} (hE : zEnd (zKv K) 0 0 κ) {I : zI} {P : zP} (hP : PSt P) (h : j_X10_effect_271 K I P) : Gx κ 271 [.ref 155, .float 0, .float 0, .float 0, .float 0, .float 0, .float 0] [] SHy I P 0 0 := by
  unfold j_X10_effect_271 at h
  refine g_aload_n cx dX10_effect_271 rfl ?_
  refine g_iconst cx dX10_effect_272 ic_1 ?_
  refine g_wVv cx [.int 1] [] (e_X10_push hP h) mt_X10_push ml_X10_306 rfl rfl rfl dX10_effect_273 rfl rfl (Nat.le_of_ble_eq_true rfl) (Nat.le_of_ble_eq_true rfl) (Nat.le_of_ble_eq_true rfl) (fun I1 P1 hP h => ?_)
  exact g_wv cx hE dX10_effect_276 rfl hP h
def j_X10_effect_206 (K : zI → zP → Prop) (s0 : Int32) (I : zI) (P : zP) : Prop := w_X10_ints s0 I P (fun (I1 : zI) (P1 : zP) => (w_X10_push 1 I1 P1 (fun (I2 : zI) (P2 : zP) => (K I2 P2))))
theorem gj_X10_effect_206 {κ : zX} (cx : Cx yX10_effect cX10_effect 7 none 3 66 κ) {K : zI → zP → Prop} (hE : zEnd (zKv K) 0 0 κ) {s0 : Int32} {I : zI} {P : zP} (hP : PSt P) (h : j_X10_effect_206 K s0 I P) : Gx κ 206 [.ref 155, .float 0, .float 0, .float 0, .float 0, .float 0, .float 0] [.int s0, .ref 155] SHy I P 0 0 := by
  unfold j_X10_effect_206 at h
  refine g_wVv cx [.int s0] [] (e_X10_ints hP h) mt_X10_ints ml_X10_309 rfl rfl rfl dX10_effect_206 rfl rfl (Nat.le_of_ble_eq_true rfl) (Nat.le_of_ble_eq_true rfl) (Nat.le_of_ble_eq_true rfl) (fun I1 P1 hP h => ?_)
  refine g_aload_n cx dX10_effect_209 rfl ?_
  refine g_iconst cx dX10_effect_210 ic_1 ?_
  refine g_wVv cx [.int 1] [] (e_X10_push hP h) mt_X10_push ml_X10_306 rfl rfl rfl dX10_effect_211 rfl rfl (Nat.le_of_ble_eq_true rfl) (Nat.le_of_ble_eq_true rfl) (Nat.le_of_ble_eq_true rfl) (fun I2 P2 hP h => ?_)
  refine g_goto cx (tgt := 276) dX10_effect_214 rfl ?_
  exact g_wv cx hE dX10_effect_276 rfl hP h
def j_X10_effect_26 (K : zI → zP → Prop) (y1 : Int32) (y3 : Int32) (s0 : Int32) (s1 : Int32) (I : zI) (P : zP) : Prop := vp_in (s1 + s0) 2400 ∧ (if y3 = 3 then (vp_in (I 160 (((s1 + s0)).toNatClampNeg)) 12 ∧ (w_X10_push (I 187 (((I 160 (((s1 + s0)).toNatClampNeg))).toNatClampNeg)) I P (fun (I36 : zI) (P36 : zP) => (K I36 P36)))) else (if y3 = 4 then (w_X10_pull I P (fun (v33 : Int32) (I33 : zI) (P33 : zP) => (vp_in (I 160 (((s1 + s0)).toNatClampNeg)) 12 ∧ (K (zu I33 187 (((I 160 (((s1 + s0)).toNatClampNeg))).toNatClampNeg) v33) P33)))) else (if y3 = 5 then (if (I 155 38) = 0 then (K (zu I 155 38 0) P) else (vp_in (I 160 (((s1 + s0)).toNatClampNeg)) 12 ∧ (if (I 187 (((I 160 (((s1 + s0)).toNatClampNeg))).toNatClampNeg)) = 1 then (K (zu I 155 38 1) P) else (K (zu I 155 38 0) P)))) else (if y3 = 6 then (w_X10_pull I P (fun (v27 : Int32) (I27 : zI) (P27 : zP) => (w_X10_push v27 I27 P27 (fun (I28 : zI) (P28 : zP) => (w_X10_push v27 I28 P28 (fun (I29 : zI) (P29 : zP) => (K I29 P29))))))) else (if y3 = 7 then (w_X10_pull I P (fun (v26 : Int32) (I26 : zI) (P26 : zP) => (K I26 P26))) else (if y3 = 8 then (w_X10_pull I P (fun (v22 : Int32) (I22 : zI) (P22 : zP) => (w_X10_pull I22 P22 (fun (v23 : Int32) (I23 : zI) (P23 : zP) => (w_X10_push v22 I23 P23 (fun (I24 : zI) (P24 : zP) => (w_X10_push v23 I24 P24 (fun (I25 : zI) (P25 : zP) => (K I25 P25))))))))) else (if y3 = 40 then (if (I 160 (((s1 + s0)).toNatClampNeg)) = y1 then (vp_in y1 6 ∧ (j_X10_effect_206 K (I 157 ((y1).toNatClampNeg)) I P)) else (vp_in (I 160 (((s1 + s0)).toNatClampNeg)) 6 ∧ (j_X10_effect_206 K (I 157 (((I 160 (((s1 + s0)).toNatClampNeg))).toNatClampNeg)) I P))) else (w_X10_in y3 36 39 I P (fun (v9 : Int32) (I9 : zI) (P9 : zP) => (if v9 = 0 then (w_X10_taken y3 I9 P9 (fun (v11 : Int32) (I11 : zI) (P11 : zP) => (w_X10_ints v11 I11 P11 (fun (I12 : zI) (P12 : zP) => (if y3 = 1 then (j_X10_effect_271 K I12 P12) else (if y3 = 2 then (j_X10_effect_271 K I12 P12) else (w_X10_in y3 9 19 I12 P12 (fun (v15 : Int32) (I15 : zI) (P15 : zP) => (if v15 = 0 then (if y3 = 34 then (j_X10_effect_271 K I15 P15) else (K I15 P15)) else (j_X10_effect_271 K I15 P15)))))))))) else (w_X10_rows y3 I9 P9 (fun (I18 : zI) (P18 : zP) => (K I18 P18)))))))))))))
theorem gj_X10_effect_26 {κ : zX} (cx : Cx yX10_effect cX10_effect 7 none 3 66 κ) {K : zI → zP → Prop} (hE : zEnd (zKv K) 0 0 κ) {y1 : Int32} {y3 : Int32} {s0 : Int32} {s1 : Int32} {I : zI} {P : zP} (hP : PSt P) (h : j_X10_effect_26 K y1 y3 s0 s1 I P) : Gx κ 26 [.ref 155, .int y1, .float 0, .int y3, .float 0, .float 0, .float 0] [.int s0, .int s1, .ref 160] SHy I P 0 0 := by
  unfold j_X10_effect_26 at h
  refine g_iadd cx dX10_effect_26 ?_
  obtain ⟨hc1, h⟩ := h
  refine g_iald cx dX10_effect_27 rfl hc1 (x := (I 160 (((s1 + s0)).toNatClampNeg))) rfl ?_
  refine g_istore cx dX10_effect_28 (Nat.le_of_ble_eq_true rfl) (Gx.L [.ref 155, .int y1, .float 0, .int y3, .int (I 160 (((s1 + s0)).toNatClampNeg)), .float 0, .float 0] rfl ?_)
  refine g_iload_n cx dX10_effect_30 rfl ?_
  refine g_iconst cx dX10_effect_31 ic_3 ?_
  refine g_icmp_ne cx (tgt := 49) dX10_effect_32 rfl (fun c2 => ?_) (fun c2 => ?_)
  · have h := zifn c2 h
    refine g_iload_n cx dX10_effect_49 rfl ?_
    refine g_iconst cx dX10_effect_50 ic_4 ?_
    refine g_icmp_ne cx (tgt := 68) dX10_effect_51 rfl (fun c3 => ?_) (fun c3 => ?_)
    · have h := zifn c3 h
      refine g_iload_n cx dX10_effect_68 rfl ?_
      refine g_iconst cx dX10_effect_69 ic_5 ?_
      refine g_icmp_ne cx (tgt := 103) dX10_effect_70 rfl (fun c4 => ?_) (fun c4 => ?_)
      · have h := zifn c4 h
        refine g_iload_n cx dX10_effect_103 rfl ?_
        refine g_bipush cx dX10_effect_104 bp_6 ?_
        refine g_icmp_ne cx (tgt := 130) dX10_effect_106 rfl (fun c5 => ?_) (fun c5 => ?_)
        · have h := zifn c5 h
          refine g_iload_n cx dX10_effect_130 rfl ?_
          refine g_bipush cx dX10_effect_131 bp_7 ?_
          refine g_icmp_ne cx (tgt := 144) dX10_effect_133 rfl (fun c6 => ?_) (fun c6 => ?_)
          · have h := zifn c6 h
            refine g_iload_n cx dX10_effect_144 rfl ?_
            refine g_bipush cx dX10_effect_145 bp_8 ?_
            refine g_icmp_ne cx (tgt := 177) dX10_effect_147 rfl (fun c7 => ?_) (fun c7 => ?_)
            · have h := zifn c7 h
              refine g_iload_n cx dX10_effect_177 rfl ?_
              refine g_bipush cx dX10_effect_178 bp_40 ?_
              refine g_icmp_ne cx (tgt := 217) dX10_effect_180 rfl (fun c8 => ?_) (fun c8 => ?_)
              · have h := zifn c8 h
                refine g_iload_n cx dX10_effect_217 rfl ?_
                refine g_bipush cx dX10_effect_218 bp_36 ?_
                refine g_bipush cx dX10_effect_220 bp_39 ?_
                refine g_wSi cx [.int y3, .int 36, .int 39] [] (e_X10_in hP h) mt_X10_in ml_X10_217 dX10_effect_222 rfl rfl (Nat.le_of_ble_eq_true rfl) (Nat.le_of_ble_eq_true rfl) (Nat.le_of_ble_eq_true rfl) (fun v9 I9 P9 hP h => ?_)
                refine g_if_eq cx (tgt := 236) dX10_effect_225 rfl (fun c10 => ?_) (fun c10 => ?_)
                · have h := zifp c10 h
                  refine g_aload_n cx dX10_effect_236 rfl ?_
                  refine g_iload_n cx dX10_effect_237 rfl ?_
                  refine g_wSi cx [.int y3] [.ref 155] (e_X10_taken hP h) mt_X10_taken ml_X10_315 dX10_effect_238 rfl rfl (Nat.le_of_ble_eq_true rfl) (Nat.le_of_ble_eq_true rfl) (Nat.le_of_ble_eq_true rfl) (fun v11 I11 P11 hP h => ?_)
                  refine g_wVv cx [.int v11] [] (e_X10_ints hP h) mt_X10_ints ml_X10_309 rfl rfl rfl dX10_effect_241 rfl rfl (Nat.le_of_ble_eq_true rfl) (Nat.le_of_ble_eq_true rfl) (Nat.le_of_ble_eq_true rfl) (fun I12 P12 hP h => ?_)
                  refine g_iload_n cx dX10_effect_244 rfl ?_
                  refine g_iconst cx dX10_effect_245 ic_1 ?_
                  refine g_icmp_eq cx (tgt := 271) dX10_effect_246 rfl (fun c13 => ?_) (fun c13 => ?_)
                  · have h := zifp c13 h
                    refine (Gx.unset 1 (Gx.unset 3 (Gx.unset 4 (Gx.L [.ref 155, .float 0, .float 0, .float 0, .float 0, .float 0, .float 0] rfl ?_))))
                    exact gj_X10_effect_271 cx hE hP h
                  · have h := zifn c13 h
                    refine g_iload_n cx dX10_effect_249 rfl ?_
                    refine g_iconst cx dX10_effect_250 ic_2 ?_
                    refine g_icmp_eq cx (tgt := 271) dX10_effect_251 rfl (fun c14 => ?_) (fun c14 => ?_)
                    · have h := zifp c14 h
                      refine (Gx.unset 1 (Gx.unset 3 (Gx.unset 4 (Gx.L [.ref 155, .float 0, .float 0, .float 0, .float 0, .float 0, .float 0] rfl ?_))))
                      exact gj_X10_effect_271 cx hE hP h
                    · have h := zifn c14 h
                      refine g_iload_n cx dX10_effect_254 rfl ?_
                      refine g_bipush cx dX10_effect_255 bp_9 ?_
                      refine g_bipush cx dX10_effect_257 bp_19 ?_
                      refine g_wSi cx [.int y3, .int 9, .int 19] [] (e_X10_in hP h) mt_X10_in ml_X10_217 dX10_effect_259 rfl rfl (Nat.le_of_ble_eq_true rfl) (Nat.le_of_ble_eq_true rfl) (Nat.le_of_ble_eq_true rfl) (fun v15 I15 P15 hP h => ?_)
                      refine g_if_ne cx (tgt := 271) dX10_effect_262 rfl (fun c16 => ?_) (fun c16 => ?_)
                      · have h := zifn c16 h
                        refine (Gx.unset 1 (Gx.unset 3 (Gx.unset 4 (Gx.L [.ref 155, .float 0, .float 0, .float 0, .float 0, .float 0, .float 0] rfl ?_))))
                        exact gj_X10_effect_271 cx hE hP h
                      · have h := zifp c16 h
                        refine g_iload_n cx dX10_effect_265 rfl ?_
                        refine g_bipush cx dX10_effect_266 bp_34 ?_
                        refine g_icmp_ne cx (tgt := 276) dX10_effect_268 rfl (fun c17 => ?_) (fun c17 => ?_)
                        · have h := zifn c17 h
                          exact g_wv cx hE dX10_effect_276 rfl hP h
                        · have h := zifp c17 h
                          refine (Gx.unset 1 (Gx.unset 3 (Gx.unset 4 (Gx.L [.ref 155, .float 0, .float 0, .float 0, .float 0, .float 0, .float 0] rfl ?_))))
                          exact gj_X10_effect_271 cx hE hP h
                · have h := zifn c10 h
                  refine g_aload_n cx dX10_effect_228 rfl ?_
                  refine g_iload_n cx dX10_effect_229 rfl ?_
                  refine g_wVv cx [.int y3] [] (e_X10_rows hP h) mt_X10_rows ml_X10_312 rfl rfl rfl dX10_effect_230 rfl rfl (Nat.le_of_ble_eq_true rfl) (Nat.le_of_ble_eq_true rfl) (Nat.le_of_ble_eq_true rfl) (fun I18 P18 hP h => ?_)
                  refine g_goto cx (tgt := 276) dX10_effect_233 rfl ?_
                  exact g_wv cx hE dX10_effect_276 rfl hP h
              · have h := zifp c8 h
                refine g_aload_n cx dX10_effect_183 rfl ?_
                refine g_iload cx dX10_effect_184 rfl ?_
                refine g_iload_n cx dX10_effect_186 rfl ?_
                refine g_icmp_ne cx (tgt := 199) dX10_effect_187 rfl (fun c19 => ?_) (fun c19 => ?_)
                · have h := zifn c19 h
                  refine g_aload_n cx dX10_effect_199 rfl ?_
                  refine g_getR cx lk_X10_17 rfl (Nat.le_of_ble_eq_true rfl) rfl dX10_effect_200 (v := 157) (pst hP 156 rfl) ?_
                  refine g_iload cx dX10_effect_203 rfl ?_
                  obtain ⟨hc20, h⟩ := h
                  refine g_iald cx dX10_effect_205 rfl hc20 (x := (I 157 (((I 160 (((s1 + s0)).toNatClampNeg))).toNatClampNeg))) rfl ?_
                  refine (Gx.unset 1 (Gx.unset 3 (Gx.unset 4 (Gx.L [.ref 155, .float 0, .float 0, .float 0, .float 0, .float 0, .float 0] rfl ?_))))
                  exact gj_X10_effect_206 cx hE hP h
                · have h := zifp c19 h
                  refine g_aload_n cx dX10_effect_190 rfl ?_
                  refine g_getR cx lk_X10_17 rfl (Nat.le_of_ble_eq_true rfl) rfl dX10_effect_191 (v := 157) (pst hP 156 rfl) ?_
                  refine g_iload_n cx dX10_effect_194 rfl ?_
                  obtain ⟨hc21, h⟩ := h
                  refine g_iald cx dX10_effect_195 rfl hc21 (x := (I 157 ((y1).toNatClampNeg))) rfl ?_
                  refine g_goto cx (tgt := 206) dX10_effect_196 rfl ?_
                  refine (Gx.unset 1 (Gx.unset 3 (Gx.unset 4 (Gx.L [.ref 155, .float 0, .float 0, .float 0, .float 0, .float 0, .float 0] rfl ?_))))
                  exact gj_X10_effect_206 cx hE hP h
            · have h := zifp c7 h
              refine g_aload_n cx dX10_effect_150 rfl ?_
              refine g_wVi cx [] [] (e_X10_pull hP h) mt_X10_pull ml_X10_302 rfl rfl rfl dX10_effect_151 rfl rfl (Nat.le_of_ble_eq_true rfl) (Nat.le_of_ble_eq_true rfl) (Nat.le_of_ble_eq_true rfl) (fun v22 I22 P22 hP h => ?_)
              refine g_istore cx dX10_effect_154 (Nat.le_of_ble_eq_true rfl) (Gx.L [.ref 155, .int y1, .float 0, .int y3, .int (I 160 (((s1 + s0)).toNatClampNeg)), .int v22, .float 0] rfl ?_)
              refine g_aload_n cx dX10_effect_156 rfl ?_
              refine g_wVi cx [] [] (e_X10_pull hP h) mt_X10_pull ml_X10_302 rfl rfl rfl dX10_effect_157 rfl rfl (Nat.le_of_ble_eq_true rfl) (Nat.le_of_ble_eq_true rfl) (Nat.le_of_ble_eq_true rfl) (fun v23 I23 P23 hP h => ?_)
              refine g_istore cx dX10_effect_160 (Nat.le_of_ble_eq_true rfl) (Gx.L [.ref 155, .int y1, .float 0, .int y3, .int (I 160 (((s1 + s0)).toNatClampNeg)), .int v22, .int v23] rfl ?_)
              refine g_aload_n cx dX10_effect_162 rfl ?_
              refine g_iload cx dX10_effect_163 rfl ?_
              refine g_wVv cx [.int v22] [] (e_X10_push hP h) mt_X10_push ml_X10_306 rfl rfl rfl dX10_effect_165 rfl rfl (Nat.le_of_ble_eq_true rfl) (Nat.le_of_ble_eq_true rfl) (Nat.le_of_ble_eq_true rfl) (fun I24 P24 hP h => ?_)
              refine g_aload_n cx dX10_effect_168 rfl ?_
              refine g_iload cx dX10_effect_169 rfl ?_
              refine g_wVv cx [.int v23] [] (e_X10_push hP h) mt_X10_push ml_X10_306 rfl rfl rfl dX10_effect_171 rfl rfl (Nat.le_of_ble_eq_true rfl) (Nat.le_of_ble_eq_true rfl) (Nat.le_of_ble_eq_true rfl) (fun I25 P25 hP h => ?_)
              refine g_goto cx (tgt := 276) dX10_effect_174 rfl ?_
              exact g_wv cx hE dX10_effect_276 rfl hP h
          · have h := zifp c6 h
            refine g_aload_n cx dX10_effect_136 rfl ?_
            refine g_wVi cx [] [] (e_X10_pull hP h) mt_X10_pull ml_X10_302 rfl rfl rfl dX10_effect_137 rfl rfl (Nat.le_of_ble_eq_true rfl) (Nat.le_of_ble_eq_true rfl) (Nat.le_of_ble_eq_true rfl) (fun v26 I26 P26 hP h => ?_)
            refine g_pop cx dX10_effect_140 rfl ?_
            refine g_goto cx (tgt := 276) dX10_effect_141 rfl ?_
            exact g_wv cx hE dX10_effect_276 rfl hP h
        · have h := zifp c5 h
          refine g_aload_n cx dX10_effect_109 rfl ?_
          refine g_wVi cx [] [] (e_X10_pull hP h) mt_X10_pull ml_X10_302 rfl rfl rfl dX10_effect_110 rfl rfl (Nat.le_of_ble_eq_true rfl) (Nat.le_of_ble_eq_true rfl) (Nat.le_of_ble_eq_true rfl) (fun v27 I27 P27 hP h => ?_)
          refine g_istore cx dX10_effect_113 (Nat.le_of_ble_eq_true rfl) (Gx.L [.ref 155, .int y1, .float 0, .int y3, .int (I 160 (((s1 + s0)).toNatClampNeg)), .int v27, .float 0] rfl ?_)
          refine g_aload_n cx dX10_effect_115 rfl ?_
          refine g_iload cx dX10_effect_116 rfl ?_
          refine g_wVv cx [.int v27] [] (e_X10_push hP h) mt_X10_push ml_X10_306 rfl rfl rfl dX10_effect_118 rfl rfl (Nat.le_of_ble_eq_true rfl) (Nat.le_of_ble_eq_true rfl) (Nat.le_of_ble_eq_true rfl) (fun I28 P28 hP h => ?_)
          refine g_aload_n cx dX10_effect_121 rfl ?_
          refine g_iload cx dX10_effect_122 rfl ?_
          refine g_wVv cx [.int v27] [] (e_X10_push hP h) mt_X10_push ml_X10_306 rfl rfl rfl dX10_effect_124 rfl rfl (Nat.le_of_ble_eq_true rfl) (Nat.le_of_ble_eq_true rfl) (Nat.le_of_ble_eq_true rfl) (fun I29 P29 hP h => ?_)
          refine g_goto cx (tgt := 276) dX10_effect_127 rfl ?_
          exact g_wv cx hE dX10_effect_276 rfl hP h
      · have h := zifp c4 h
        refine g_aload_n cx dX10_effect_73 rfl ?_
        refine g_aload_n cx dX10_effect_74 rfl ?_
        refine g_getI cx lk_X10_278 rfl (Nat.le_of_ble_eq_true rfl) rfl dX10_effect_75 (x := (I 155 38)) rfl ?_
        refine g_if_eq cx (tgt := 96) dX10_effect_78 rfl (fun c30 => ?_) (fun c30 => ?_)
        · have h := zifp c30 h
          refine g_iconst cx dX10_effect_96 ic_0 ?_
          refine g_pI cx lk_X10_278 rfl (Nat.le_of_ble_eq_true rfl) rfl dX10_effect_97 fi_10_38 rfl rfl ?_
          refine g_goto cx (tgt := 276) dX10_effect_100 rfl ?_
          exact g_wv cx hE dX10_effect_276 rfl hP h
        · have h := zifn c30 h
          refine g_aload_n cx dX10_effect_81 rfl ?_
          refine g_getR cx lk_X10_108 rfl (Nat.le_of_ble_eq_true rfl) rfl dX10_effect_82 (v := 187) (pst hP 186 rfl) ?_
          refine g_iload cx dX10_effect_85 rfl ?_
          obtain ⟨hc31, h⟩ := h
          refine g_iald cx dX10_effect_87 rfl hc31 (x := (I 187 (((I 160 (((s1 + s0)).toNatClampNeg))).toNatClampNeg))) rfl ?_
          refine g_iconst cx dX10_effect_88 ic_1 ?_
          refine g_icmp_ne cx (tgt := 96) dX10_effect_89 rfl (fun c32 => ?_) (fun c32 => ?_)
          · have h := zifn c32 h
            refine g_iconst cx dX10_effect_96 ic_0 ?_
            refine g_pI cx lk_X10_278 rfl (Nat.le_of_ble_eq_true rfl) rfl dX10_effect_97 fi_10_38 rfl rfl ?_
            refine g_goto cx (tgt := 276) dX10_effect_100 rfl ?_
            exact g_wv cx hE dX10_effect_276 rfl hP h
          · have h := zifp c32 h
            refine g_iconst cx dX10_effect_92 ic_1 ?_
            refine g_goto cx (tgt := 97) dX10_effect_93 rfl ?_
            refine g_pI cx lk_X10_278 rfl (Nat.le_of_ble_eq_true rfl) rfl dX10_effect_97 fi_10_38 rfl rfl ?_
            refine g_goto cx (tgt := 276) dX10_effect_100 rfl ?_
            exact g_wv cx hE dX10_effect_276 rfl hP h
    · have h := zifp c3 h
      refine g_aload_n cx dX10_effect_54 rfl ?_
      refine g_getR cx lk_X10_108 rfl (Nat.le_of_ble_eq_true rfl) rfl dX10_effect_55 (v := 187) (pst hP 186 rfl) ?_
      refine g_iload cx dX10_effect_58 rfl ?_
      refine g_aload_n cx dX10_effect_60 rfl ?_
      refine g_wVi cx [] [.int (I 160 (((s1 + s0)).toNatClampNeg)), .ref 187] (e_X10_pull hP h) mt_X10_pull ml_X10_302 rfl rfl rfl dX10_effect_61 rfl rfl (Nat.le_of_ble_eq_true rfl) (Nat.le_of_ble_eq_true rfl) (Nat.le_of_ble_eq_true rfl) (fun v33 I33 P33 hP h => ?_)
      obtain ⟨hc34, h⟩ := h
      refine g_iast cx dX10_effect_64 rfl hc34 ?_
      refine g_goto cx (tgt := 276) dX10_effect_65 rfl ?_
      exact g_wv cx hE dX10_effect_276 rfl hP h
  · have h := zifp c2 h
    refine g_aload_n cx dX10_effect_35 rfl ?_
    refine g_aload_n cx dX10_effect_36 rfl ?_
    refine g_getR cx lk_X10_108 rfl (Nat.le_of_ble_eq_true rfl) rfl dX10_effect_37 (v := 187) (pst hP 186 rfl) ?_
    refine g_iload cx dX10_effect_40 rfl ?_
    obtain ⟨hc35, h⟩ := h
    refine g_iald cx dX10_effect_42 rfl hc35 (x := (I 187 (((I 160 (((s1 + s0)).toNatClampNeg))).toNatClampNeg))) rfl ?_
    refine g_wVv cx [.int (I 187 (((I 160 (((s1 + s0)).toNatClampNeg))).toNatClampNeg))] [] (e_X10_push hP h) mt_X10_push ml_X10_306 rfl rfl rfl dX10_effect_43 rfl rfl (Nat.le_of_ble_eq_true rfl) (Nat.le_of_ble_eq_true rfl) (Nat.le_of_ble_eq_true rfl) (fun I36 P36 hP h => ?_)
    refine g_goto cx (tgt := 276) dX10_effect_46 rfl ?_
    exact g_wv cx hE dX10_effect_276 rfl hP h
def w_X10_effect (x1 : Int32) (x2 : Int32) (x3 : Int32) (I : zI) (P : zP) (K : zI → zP → Prop) : Prop := w_X10_size x1 x2 I P (fun (v1 : Int32) (I1 : zI) (P1 : zP) => (if v1 ≤ 1 then (j_X10_effect_26 K x1 x3 0 ((400 * x1) + x2) I1 P1) else (j_X10_effect_26 K x1 x3 1 ((400 * x1) + x2) I1 P1)))
theorem e_X10_effect {x1 : Int32} {x2 : Int32} {x3 : Int32} {I : zI} {P : zP} {K : zI → zP → Prop} (hP : PSt P) (h : w_X10_effect x1 x2 x3 I P K) : Ev yX10_effect cX10_effect 7 none 3 66 0 0 [.ref 155, .int x1, .int x2, .int x3] SHy I P (zKv K) := by
  refine Ev.start [.ref 155, .int x1, .int x2, .int x3, .float 0, .float 0, .float 0] pn_X10 rfl (Nat.le_of_ble_eq_true rfl) rfl (fun κ cx hE => ?_)
  unfold w_X10_effect at h
  refine g_aload_n cx dX10_effect_0 rfl ?_
  refine g_getR cx lk_X10_26 rfl (Nat.le_of_ble_eq_true rfl) rfl dX10_effect_1 (v := 160) (pst hP 159 rfl) ?_
  refine g_sipush cx dX10_effect_4 sp_400 ?_
  refine g_iload_n cx dX10_effect_7 rfl ?_
  refine g_imul cx dX10_effect_8 ?_
  refine g_iload_n cx dX10_effect_9 rfl ?_
  refine g_iadd cx dX10_effect_10 ?_
  refine g_aload_n cx dX10_effect_11 rfl ?_
  refine g_iload_n cx dX10_effect_12 rfl ?_
  refine g_iload_n cx dX10_effect_13 rfl ?_
  refine g_wVi cx [.int x1, .int x2] [.int ((400 * x1) + x2), .ref 160] (e_X10_size hP h) mt_X10_size ml_X10_259 rfl rfl rfl dX10_effect_14 rfl rfl (Nat.le_of_ble_eq_true rfl) (Nat.le_of_ble_eq_true rfl) (Nat.le_of_ble_eq_true rfl) (fun v1 I1 P1 hP h => ?_)
  refine g_iconst cx dX10_effect_17 ic_1 ?_
  refine g_icmp_le cx (tgt := 25) dX10_effect_18 rfl (fun c2 => ?_) (fun c2 => ?_)
  · have h := zifp c2 h
    refine g_iconst cx dX10_effect_25 ic_0 ?_
    refine (Gx.unset 2 (Gx.L [.ref 155, .int x1, .float 0, .int x3, .float 0, .float 0, .float 0] rfl ?_))
    exact gj_X10_effect_26 cx hE hP h
  · have h := zifn c2 h
    refine g_iconst cx dX10_effect_21 ic_1 ?_
    refine g_goto cx (tgt := 26) dX10_effect_22 rfl ?_
    refine (Gx.unset 2 (Gx.L [.ref 155, .int x1, .float 0, .int x3, .float 0, .float 0, .float 0] rfl ?_))
    exact gj_X10_effect_26 cx hE hP h
def w_X10_fault (x1 : Int32) (x2 : Int32) (I : zI) (P : zP) (K : Int32 → zI → zP → Prop) : Prop := K ((-10) - x1) (zu I 155 2 x2) P
theorem e_X10_fault {x1 : Int32} {x2 : Int32} {I : zI} {P : zP} {K : Int32 → zI → zP → Prop} (hP : PSt P) (h : w_X10_fault x1 x2 I P K) : Ev yX10_fault cX10_fault 3 (some .int) 0 0 0 0 [.ref 155, .int x1, .int x2] SHy I P (zKi K) := by
  refine Ev.start [.ref 155, .int x1, .int x2] pn_X10 rfl (Nat.le_of_ble_eq_true rfl) rfl (fun κ cx hE => ?_)
  unfold w_X10_fault at h
  refine g_aload_n cx dX10_fault_0 rfl ?_
  refine g_iload_n cx dX10_fault_1 rfl ?_
  refine g_pI cx lk_X10_13 rfl (Nat.le_of_ble_eq_true rfl) rfl dX10_fault_2 fi_10_2 rfl rfl ?_
  refine g_bipush cx dX10_fault_5 bp_m10 ?_
  refine g_iload_n cx dX10_fault_7 rfl ?_
  refine g_isub cx dX10_fault_8 ?_
  exact g_wi cx hE dX10_fault_9 rfl rfl hP h
def l_X10_faultWoven_12 (K : zI → zP → Prop) : Nat → Int32 → Int32 → Int32 → Int32 → zI → zP → Prop
  | 0, _, _, _, _, _, _ => False
  | n + 1, y1, y2, y3, y4, I, P => vp_in ((1000 * y1) + y4) 6000 ∧ (if (I 178 ((((1000 * y1) + y4)).toNatClampNeg)) = (-1) then (vp_in ((1000 * y1) + y4) 6000 ∧ (w_X10_sizeOf (I 176 ((((1000 * y1) + y4)).toNatClampNeg)) 0 I P (fun (v8 : Int32) (I8 : zI) (P8 : zP) => ((l_X10_faultWoven_12 K n) y1 y2 y3 (y4 + v8) I8 P8)))) else (vp_in ((I 155 54) - 1) 12 ∧ (vp_in y3 24 ∧ (vp_in ((1000 * y1) + y4) 6000 ∧ (w_X10_isThrown (zu (zu (zu (zu I 197 ((((I 155 54) - 1)).toNatClampNeg) y2) 155 65 ((zu I 197 ((((I 155 54) - 1)).toNatClampNeg) y2) 174 ((y3).toNatClampNeg))) 155 66 y1) 155 67 ((zu (zu (zu I 197 ((((I 155 54) - 1)).toNatClampNeg) y2) 155 65 ((zu I 197 ((((I 155 54) - 1)).toNatClampNeg) y2) 174 ((y3).toNatClampNeg))) 155 66 y1) 178 ((((1000 * y1) + y4)).toNatClampNeg))) P (fun (I6 : zI) (P6 : zP) => (K I6 P6)))))))
theorem gl_X10_faultWoven_12 {κ : zX} (cx : Cx yX10_faultWoven cX10_faultWoven 5 none 4 96 κ) {K : zI → zP → Prop} (hE : zEnd (zKv K) 0 0 κ) : ∀ (n : Nat) (y1 : Int32) (y2 : Int32) (y3 : Int32) (y4 : Int32) (I : zI) (P : zP), PSt P → l_X10_faultWoven_12 K n y1 y2 y3 y4 I P → Gx κ 12 [.ref 155, .int y1, .int y2, .int y3, .int y4] [] SHy I P 0 0 := by
  intro n
  induction n with
  | zero =>
    intro y1 y2 y3 y4 I P hP h
    rw [l_X10_faultWoven_12] at h
    exact False.elim h
  | succ n ih =>
    intro y1 y2 y3 y4 I P hP h
    rw [l_X10_faultWoven_12] at h
    refine g_aload_n cx dX10_faultWoven_12 rfl ?_
    refine g_getR cx lk_X10_81 rfl (Nat.le_of_ble_eq_true rfl) rfl dX10_faultWoven_13 (v := 178) (pst hP 177 rfl) ?_
    refine g_sipush cx dX10_faultWoven_16 sp_1000 ?_
    refine g_iload_n cx dX10_faultWoven_19 rfl ?_
    refine g_imul cx dX10_faultWoven_20 ?_
    refine g_iload cx dX10_faultWoven_21 rfl ?_
    refine g_iadd cx dX10_faultWoven_23 ?_
    obtain ⟨hc1, h⟩ := h
    refine g_iald cx dX10_faultWoven_24 rfl hc1 (x := (I 178 ((((1000 * y1) + y4)).toNatClampNeg))) rfl ?_
    refine g_iconst cx dX10_faultWoven_25 ic_m1 ?_
    refine g_icmp_ne cx (tgt := 54) dX10_faultWoven_26 rfl (fun c2 => ?_) (fun c2 => ?_)
    · have h := zifn c2 h
      refine g_aload_n cx dX10_faultWoven_54 rfl ?_
      refine g_getR cx lk_X10_138 rfl (Nat.le_of_ble_eq_true rfl) rfl dX10_faultWoven_55 (v := 197) (pst hP 196 rfl) ?_
      refine g_aload_n cx dX10_faultWoven_58 rfl ?_
      refine g_getI cx lk_X10_415 rfl (Nat.le_of_ble_eq_true rfl) rfl dX10_faultWoven_59 (x := (I 155 54)) rfl ?_
      refine g_iconst cx dX10_faultWoven_62 ic_1 ?_
      refine g_isub cx dX10_faultWoven_63 ?_
      refine g_iload_n cx dX10_faultWoven_64 rfl ?_
      obtain ⟨hc3, h⟩ := h
      refine g_iast cx dX10_faultWoven_65 rfl hc3 ?_
      refine g_aload_n cx dX10_faultWoven_66 rfl ?_
      refine g_aload_n cx dX10_faultWoven_67 rfl ?_
      refine g_getR cx lk_X10_69 rfl (Nat.le_of_ble_eq_true rfl) rfl dX10_faultWoven_68 (v := 174) (pst hP 173 rfl) ?_
      refine g_iload_n cx dX10_faultWoven_71 rfl ?_
      obtain ⟨hc4, h⟩ := h
      refine g_iald cx dX10_faultWoven_72 rfl hc4 (x := ((zu I 197 ((((I 155 54) - 1)).toNatClampNeg) y2) 174 ((y3).toNatClampNeg))) rfl ?_
      refine g_pI cx lk_X10_424 rfl (Nat.le_of_ble_eq_true rfl) rfl dX10_faultWoven_73 fi_10_65 rfl rfl ?_
      refine g_aload_n cx dX10_faultWoven_76 rfl ?_
      refine g_iload_n cx dX10_faultWoven_77 rfl ?_
      refine g_pI cx lk_X10_427 rfl (Nat.le_of_ble_eq_true rfl) rfl dX10_faultWoven_78 fi_10_66 rfl rfl ?_
      refine g_aload_n cx dX10_faultWoven_81 rfl ?_
      refine g_aload_n cx dX10_faultWoven_82 rfl ?_
      refine g_getR cx lk_X10_81 rfl (Nat.le_of_ble_eq_true rfl) rfl dX10_faultWoven_83 (v := 178) (pst hP 177 rfl) ?_
      refine g_sipush cx dX10_faultWoven_86 sp_1000 ?_
      refine g_iload_n cx dX10_faultWoven_89 rfl ?_
      refine g_imul cx dX10_faultWoven_90 ?_
      refine g_iload cx dX10_faultWoven_91 rfl ?_
      refine Gx.N 93 rfl ?_
      refine g_iadd cx dX10_faultWoven_93 ?_
      obtain ⟨hc5, h⟩ := h
      refine g_iald cx dX10_faultWoven_94 rfl hc5 (x := ((zu (zu (zu I 197 ((((I 155 54) - 1)).toNatClampNeg) y2) 155 65 ((zu I 197 ((((I 155 54) - 1)).toNatClampNeg) y2) 174 ((y3).toNatClampNeg))) 155 66 y1) 178 ((((1000 * y1) + y4)).toNatClampNeg))) rfl ?_
      refine g_pI cx lk_X10_430 rfl (Nat.le_of_ble_eq_true rfl) rfl dX10_faultWoven_95 fi_10_67 rfl rfl ?_
      refine g_aload_n cx dX10_faultWoven_98 rfl ?_
      refine g_wVv cx [] [] (e_X10_isThrown hP h) mt_X10_isThrown ml_X10_464 rfl rfl rfl dX10_faultWoven_99 rfl rfl (Nat.le_of_ble_eq_true rfl) (Nat.le_of_ble_eq_true rfl) (Nat.le_of_ble_eq_true rfl) (fun I6 P6 hP h => ?_)
      exact g_wv cx hE dX10_faultWoven_102 rfl hP h
    · have h := zifp c2 h
      refine g_iload cx dX10_faultWoven_29 rfl ?_
      refine g_aload_n cx dX10_faultWoven_31 rfl ?_
      refine g_getR cx lk_X10_75 rfl (Nat.le_of_ble_eq_true rfl) rfl dX10_faultWoven_32 (v := 176) (pst hP 175 rfl) ?_
      refine g_sipush cx dX10_faultWoven_35 sp_1000 ?_
      refine g_iload_n cx dX10_faultWoven_38 rfl ?_
      refine g_imul cx dX10_faultWoven_39 ?_
      refine g_iload cx dX10_faultWoven_40 rfl ?_
      refine g_iadd cx dX10_faultWoven_42 ?_
      obtain ⟨hc7, h⟩ := h
      refine g_iald cx dX10_faultWoven_43 rfl hc7 (x := (I 176 ((((1000 * y1) + y4)).toNatClampNeg))) rfl ?_
      refine g_iconst cx dX10_faultWoven_44 ic_0 ?_
      refine g_wSi cx [.int (I 176 ((((1000 * y1) + y4)).toNatClampNeg)), .int 0] [.int y4] (e_X10_sizeOf hP h) mt_X10_sizeOf ml_X10_222 dX10_faultWoven_45 rfl rfl (Nat.le_of_ble_eq_true rfl) (Nat.le_of_ble_eq_true rfl) (Nat.le_of_ble_eq_true rfl) (fun v8 I8 P8 hP h => ?_)
      refine g_iadd cx dX10_faultWoven_48 ?_
      refine g_istore cx dX10_faultWoven_49 (Nat.le_of_ble_eq_true rfl) (Gx.L [.ref 155, .int y1, .int y2, .int y3, .int (y4 + v8)] rfl ?_)
      refine g_goto cx (tgt := 12) dX10_faultWoven_51 rfl ?_
      exact ih _ _ _ _ _ _ hP h
def w_X10_faultWoven (x1 : Int32) (x2 : Int32) (x3 : Int32) (I : zI) (P : zP) (K : zI → zP → Prop) : Prop := w_X10_faults x3 I P (fun (v1 : Int32) (I1 : zI) (P1 : zP) => (if v1 = 0 then (K I1 P1) else (∃ n9, l_X10_faultWoven_12 K n9 x1 x2 x3 x2 I1 P1)))
theorem e_X10_faultWoven {x1 : Int32} {x2 : Int32} {x3 : Int32} {I : zI} {P : zP} {K : zI → zP → Prop} (hP : PSt P) (h : w_X10_faultWoven x1 x2 x3 I P K) : Ev yX10_faultWoven cX10_faultWoven 5 none 4 96 0 0 [.ref 155, .int x1, .int x2, .int x3] SHy I P (zKv K) := by
  refine Ev.start [.ref 155, .int x1, .int x2, .int x3, .float 0] pn_X10 rfl (Nat.le_of_ble_eq_true rfl) rfl (fun κ cx hE => ?_)
  unfold w_X10_faultWoven at h
  refine g_aload_n cx dX10_faultWoven_0 rfl ?_
  refine g_iload_n cx dX10_faultWoven_1 rfl ?_
  refine g_wVi cx [.int x3] [] (e_X10_faults hP h) mt_X10_faults ml_X10_471 rfl rfl rfl dX10_faultWoven_2 rfl rfl (Nat.le_of_ble_eq_true rfl) (Nat.le_of_ble_eq_true rfl) (Nat.le_of_ble_eq_true rfl) (fun v1 I1 P1 hP h => ?_)
  refine g_if_ne cx (tgt := 9) dX10_faultWoven_5 rfl (fun c2 => ?_) (fun c2 => ?_)
  · have h := zifn c2 h
    refine g_iload_n cx dX10_faultWoven_9 rfl ?_
    refine g_istore cx dX10_faultWoven_10 (Nat.le_of_ble_eq_true rfl) (Gx.L [.ref 155, .int x1, .int x2, .int x3, .int x2] rfl ?_)
    obtain ⟨n9, h⟩ := h
    exact gl_X10_faultWoven_12 cx hE n9 _ _ _ _ _ _ hP h
  · have h := zifp c2 h
    exact g_wv cx hE dX10_faultWoven_8 rfl hP h
def l_X10_four_3 (K : zI → zP → Prop) : Nat → Int32 → Int32 → zI → zP → Prop
  | 0, _, _, _, _ => False
  | n + 1, y1, y2, I, P => if y2 < 0 then (K I P) else (vp_in (I 155 1) 600 ∧ ((l_X10_four_3 K n) y1 (y2 + (-8)) (zu (zu I 156 (((I 155 1)).toNatClampNeg) (((y1 : Int32) >>> ((y2 : Int32) &&& 31)) &&& 255)) 155 1 (((zu I 156 (((I 155 1)).toNatClampNeg) (((y1 : Int32) >>> ((y2 : Int32) &&& 31)) &&& 255)) 155 1) + 1)) P))
theorem gl_X10_four_3 {κ : zX} (cx : Cx yX10_four cX10_four 3 none 0 0 κ) {K : zI → zP → Prop} (hE : zEnd (zKv K) 0 0 κ) : ∀ (n : Nat) (y1 : Int32) (y2 : Int32) (I : zI) (P : zP), PSt P → l_X10_four_3 K n y1 y2 I P → Gx κ 3 [.ref 155, .int y1, .int y2] [] SHy I P 0 0 := by
  intro n
  induction n with
  | zero =>
    intro y1 y2 I P hP h
    rw [l_X10_four_3] at h
    exact False.elim h
  | succ n ih =>
    intro y1 y2 I P hP h
    rw [l_X10_four_3] at h
    refine g_iload_n cx dX10_four_3 rfl ?_
    refine g_if_lt cx (tgt := 39) dX10_four_4 rfl (fun c1 => ?_) (fun c1 => ?_)
    · have h := zifp c1 h
      exact g_wv cx hE dX10_four_39 rfl hP h
    · have h := zifn c1 h
      refine g_aload_n cx dX10_four_7 rfl ?_
      refine g_getR cx lk_X10_7 rfl (Nat.le_of_ble_eq_true rfl) rfl dX10_four_8 (v := 156) (pst hP 155 rfl) ?_
      refine g_aload_n cx dX10_four_11 rfl ?_
      refine g_getI cx lk_X10_210 rfl (Nat.le_of_ble_eq_true rfl) rfl dX10_four_12 (x := (I 155 1)) rfl ?_
      refine g_iload_n cx dX10_four_15 rfl ?_
      refine g_iload_n cx dX10_four_16 rfl ?_
      refine g_ishr cx dX10_four_17 ?_
      refine g_sipush cx dX10_four_18 sp_255 ?_
      refine g_iand cx dX10_four_21 ?_
      obtain ⟨hc2, h⟩ := h
      refine g_iast cx dX10_four_22 rfl hc2 ?_
      refine g_aload_n cx dX10_four_23 rfl ?_
      refine g_dup cx dX10_four_24 rfl ?_
      refine g_getI cx lk_X10_210 rfl (Nat.le_of_ble_eq_true rfl) rfl dX10_four_25 (x := ((zu I 156 (((I 155 1)).toNatClampNeg) (((y1 : Int32) >>> ((y2 : Int32) &&& 31)) &&& 255)) 155 1)) rfl ?_
      refine g_iconst cx dX10_four_28 ic_1 ?_
      refine g_iadd cx dX10_four_29 ?_
      refine g_pI cx lk_X10_210 rfl (Nat.le_of_ble_eq_true rfl) rfl dX10_four_30 fi_10_1 rfl rfl ?_
      refine g_iinc cx (v := (y2 + (-8))) dX10_four_33 rfl rfl (Nat.le_of_ble_eq_true rfl) (Gx.L [.ref 155, .int y1, .int (y2 + (-8))] rfl ?_)
      refine g_goto cx (tgt := 3) dX10_four_36 rfl ?_
      exact ih _ _ _ _ hP h
def w_X10_four (x1 : Int32) (I : zI) (P : zP) (K : zI → zP → Prop) : Prop := ∃ n9, l_X10_four_3 K n9 x1 24 I P
theorem e_X10_four {x1 : Int32} {I : zI} {P : zP} {K : zI → zP → Prop} (hP : PSt P) (h : w_X10_four x1 I P K) : Ev yX10_four cX10_four 3 none 0 0 0 0 [.ref 155, .int x1] SHy I P (zKv K) := by
  refine Ev.start [.ref 155, .int x1, .float 0] pn_X10 rfl (Nat.le_of_ble_eq_true rfl) rfl (fun κ cx hE => ?_)
  unfold w_X10_four at h
  refine g_bipush cx dX10_four_0 bp_24 ?_
  refine g_istore_n cx dX10_four_2 (Nat.le_of_ble_eq_true rfl) (Gx.L [.ref 155, .int x1, .int 24] rfl ?_)
  obtain ⟨n9, h⟩ := h
  exact gl_X10_four_3 cx hE n9 _ _ _ _ hP h
def w_X10_feed (x1 : Int32) (x2 : Int32) (x3 : Int32) (x4 : Int32) (x5 : Int32) (I : zI) (P : zP) (K : Int32 → zI → zP → Prop) : Prop := if ((I 155 1) + 20) ≤ 600 then (w_X10_four x1 I P (fun (I2 : zI) (P2 : zP) => (w_X10_four x2 I2 P2 (fun (I3 : zI) (P3 : zP) => (w_X10_four x3 I3 P3 (fun (I4 : zI) (P4 : zP) => (w_X10_four x4 I4 P4 (fun (I5 : zI) (P5 : zP) => (w_X10_four x5 I5 P5 (fun (I6 : zI) (P6 : zP) => (K (I6 155 1) I6 P6))))))))))) else (K (-3) I P)
theorem e_X10_feed {x1 : Int32} {x2 : Int32} {x3 : Int32} {x4 : Int32} {x5 : Int32} {I : zI} {P : zP} {K : Int32 → zI → zP → Prop} (hP : PSt P) (h : w_X10_feed x1 x2 x3 x4 x5 I P K) : Ev yX10_feed cX10_feed 6 (some .int) 1 22 0 0 [.ref 155, .int x1, .int x2, .int x3, .int x4, .int x5] SHy I P (zKi K) := by
  refine Ev.start [.ref 155, .int x1, .int x2, .int x3, .int x4, .int x5] pn_X10 rfl (Nat.le_of_ble_eq_true rfl) rfl (fun κ cx hE => ?_)
  unfold w_X10_feed at h
  refine g_aload_n cx dX10_feed_0 rfl ?_
  refine g_getI cx lk_X10_210 rfl (Nat.le_of_ble_eq_true rfl) rfl dX10_feed_1 (x := (I 155 1)) rfl ?_
  refine g_bipush cx dX10_feed_4 bp_20 ?_
  refine g_iadd cx dX10_feed_6 ?_
  refine g_sipush cx dX10_feed_7 sp_600 ?_
  refine g_icmp_le cx (tgt := 16) dX10_feed_10 rfl (fun c1 => ?_) (fun c1 => ?_)
  · have h := zifp c1 h
    refine g_aload_n cx dX10_feed_16 rfl ?_
    refine g_iload_n cx dX10_feed_17 rfl ?_
    refine g_wVv cx [.int x1] [] (e_X10_four hP h) mt_X10_four ml_X10_213 rfl rfl rfl dX10_feed_18 rfl rfl (Nat.le_of_ble_eq_true rfl) (Nat.le_of_ble_eq_true rfl) (Nat.le_of_ble_eq_true rfl) (fun I2 P2 hP h => ?_)
    refine g_aload_n cx dX10_feed_21 rfl ?_
    refine g_iload_n cx dX10_feed_22 rfl ?_
    refine g_wVv cx [.int x2] [] (e_X10_four hP h) mt_X10_four ml_X10_213 rfl rfl rfl dX10_feed_23 rfl rfl (Nat.le_of_ble_eq_true rfl) (Nat.le_of_ble_eq_true rfl) (Nat.le_of_ble_eq_true rfl) (fun I3 P3 hP h => ?_)
    refine g_aload_n cx dX10_feed_26 rfl ?_
    refine g_iload_n cx dX10_feed_27 rfl ?_
    refine g_wVv cx [.int x3] [] (e_X10_four hP h) mt_X10_four ml_X10_213 rfl rfl rfl dX10_feed_28 rfl rfl (Nat.le_of_ble_eq_true rfl) (Nat.le_of_ble_eq_true rfl) (Nat.le_of_ble_eq_true rfl) (fun I4 P4 hP h => ?_)
    refine g_aload_n cx dX10_feed_31 rfl ?_
    refine g_iload cx dX10_feed_32 rfl ?_
    refine g_wVv cx [.int x4] [] (e_X10_four hP h) mt_X10_four ml_X10_213 rfl rfl rfl dX10_feed_34 rfl rfl (Nat.le_of_ble_eq_true rfl) (Nat.le_of_ble_eq_true rfl) (Nat.le_of_ble_eq_true rfl) (fun I5 P5 hP h => ?_)
    refine g_aload_n cx dX10_feed_37 rfl ?_
    refine g_iload cx dX10_feed_38 rfl ?_
    refine g_wVv cx [.int x5] [] (e_X10_four hP h) mt_X10_four ml_X10_213 rfl rfl rfl dX10_feed_40 rfl rfl (Nat.le_of_ble_eq_true rfl) (Nat.le_of_ble_eq_true rfl) (Nat.le_of_ble_eq_true rfl) (fun I6 P6 hP h => ?_)
    refine g_aload_n cx dX10_feed_43 rfl ?_
    refine g_getI cx lk_X10_210 rfl (Nat.le_of_ble_eq_true rfl) rfl dX10_feed_44 (x := (I6 155 1)) rfl ?_
    exact g_wi cx hE dX10_feed_47 rfl rfl hP h
  · have h := zifn c1 h
    refine g_bipush cx dX10_feed_13 bp_m3 ?_
    exact g_wi cx hE dX10_feed_15 rfl rfl hP h
def w_X10_field (x1 : Int32) (x2 : Int32) (I : zI) (P : zP) (K : Int32 → zI → zP → Prop) : Prop := w_X10_isRun x1 I P (fun (v1 : Int32) (I1 : zI) (P1 : zP) => (if v1 = 0 then (K 0 I1 P1) else (w_X10_in x2 0 7 I1 P1 (fun (v3 : Int32) (I3 : zI) (P3 : zP) => (if v3 = 0 then (K 0 I3 P3) else (vp_in ((8 * x1) + x2) 24 ∧ (K (I3 218 ((((8 * x1) + x2)).toNatClampNeg)) I3 P3)))))))
theorem e_X10_field {x1 : Int32} {x2 : Int32} {I : zI} {P : zP} {K : Int32 → zI → zP → Prop} (hP : PSt P) (h : w_X10_field x1 x2 I P K) : Ev yX10_field cX10_field 3 (some .int) 2 43 0 0 [.ref 155, .int x1, .int x2] SHy I P (zKi K) := by
  refine Ev.start [.ref 155, .int x1, .int x2] pn_X10 rfl (Nat.le_of_ble_eq_true rfl) rfl (fun κ cx hE => ?_)
  unfold w_X10_field at h
  refine g_aload_n cx dX10_field_0 rfl ?_
  refine g_iload_n cx dX10_field_1 rfl ?_
  refine g_wVi cx [.int x1] [] (e_X10_isRun hP h) mt_X10_isRun ml_X10_542 rfl rfl rfl dX10_field_2 rfl rfl (Nat.le_of_ble_eq_true rfl) (Nat.le_of_ble_eq_true rfl) (Nat.le_of_ble_eq_true rfl) (fun v1 I1 P1 hP h => ?_)
  refine g_if_eq cx (tgt := 32) dX10_field_5 rfl (fun c2 => ?_) (fun c2 => ?_)
  · have h := zifp c2 h
    refine g_iconst cx dX10_field_32 ic_0 ?_
    exact g_wi cx hE dX10_field_33 rfl rfl hP h
  · have h := zifn c2 h
    refine g_iload_n cx dX10_field_8 rfl ?_
    refine g_iconst cx dX10_field_9 ic_0 ?_
    refine g_bipush cx dX10_field_10 bp_7 ?_
    refine g_wSi cx [.int x2, .int 0, .int 7] [] (e_X10_in hP h) mt_X10_in ml_X10_217 dX10_field_12 rfl rfl (Nat.le_of_ble_eq_true rfl) (Nat.le_of_ble_eq_true rfl) (Nat.le_of_ble_eq_true rfl) (fun v3 I3 P3 hP h => ?_)
    refine g_if_eq cx (tgt := 32) dX10_field_15 rfl (fun c4 => ?_) (fun c4 => ?_)
    · have h := zifp c4 h
      refine g_iconst cx dX10_field_32 ic_0 ?_
      exact g_wi cx hE dX10_field_33 rfl rfl hP h
    · have h := zifn c4 h
      refine g_aload_n cx dX10_field_18 rfl ?_
      refine g_getR cx lk_X10_201 rfl (Nat.le_of_ble_eq_true rfl) rfl dX10_field_19 (v := 218) (pst hP 217 rfl) ?_
      refine g_bipush cx dX10_field_22 bp_8 ?_
      refine g_iload_n cx dX10_field_24 rfl ?_
      refine g_imul cx dX10_field_25 ?_
      refine g_iload_n cx dX10_field_26 rfl ?_
      refine g_iadd cx dX10_field_27 ?_
      obtain ⟨hc5, h⟩ := h
      refine g_iald cx dX10_field_28 rfl hc5 (x := (I3 218 ((((8 * x1) + x2)).toNatClampNeg))) rfl ?_
      refine g_goto cx (tgt := 33) dX10_field_29 rfl ?_
      exact g_wi cx hE dX10_field_33 rfl rfl hP h
def l_X10_isTarget_5 (K : Int32 → zI → zP → Prop) : Nat → Int32 → Int32 → Int32 → Int32 → zI → zP → Prop
  | 0, _, _, _, _, _, _ => False
  | n + 1, y1, y2, y3, y4, I, P => vp_in y1 6 ∧ (if (I 161 ((y1).toNatClampNeg)) ≤ y4 then (zbo y3 ∧ (K y3 I P)) else (if y3 = 0 then (vp_in ((8 * y1) + y4) 48 ∧ (if (I 164 ((((8 * y1) + y4)).toNatClampNeg)) = y2 then ((l_X10_isTarget_5 K n) y1 y2 1 (y4 + 1) I P) else ((l_X10_isTarget_5 K n) y1 y2 0 (y4 + 1) I P))) else ((l_X10_isTarget_5 K n) y1 y2 1 (y4 + 1) I P)))
theorem gl_X10_isTarget_5 {κ : zX} (cx : Cx yX10_isTarget cX10_isTarget 5 (some .boolean) 0 0 κ) {K : Int32 → zI → zP → Prop} (hE : zEnd (zKi K) 0 0 κ) : ∀ (n : Nat) (y1 : Int32) (y2 : Int32) (y3 : Int32) (y4 : Int32) (I : zI) (P : zP), PSt P → l_X10_isTarget_5 K n y1 y2 y3 y4 I P → Gx κ 5 [.ref 155, .int y1, .int y2, .int y3, .int y4] [] SHy I P 0 0 := by
  intro n
  induction n with
  | zero =>
    intro y1 y2 y3 y4 I P hP h
    rw [l_X10_isTarget_5] at h
    exact False.elim h
  | succ n ih =>
    intro y1 y2 y3 y4 I P hP h
    rw [l_X10_isTarget_5] at h
    refine g_iload cx dX10_isTarget_5 rfl ?_
    refine g_aload_n cx dX10_isTarget_7 rfl ?_
    refine g_getR cx lk_X10_29 rfl (Nat.le_of_ble_eq_true rfl) rfl dX10_isTarget_8 (v := 161) (pst hP 160 rfl) ?_
    refine g_iload_n cx dX10_isTarget_11 rfl ?_
    obtain ⟨hc1, h⟩ := h
    refine g_iald cx dX10_isTarget_12 rfl hc1 (x := (I 161 ((y1).toNatClampNeg))) rfl ?_
    refine g_icmp_ge cx (tgt := 48) dX10_isTarget_13 rfl (fun c2 => ?_) (fun c2 => ?_)
    · have h := zifp c2 h
      refine g_iload_n cx dX10_isTarget_48 rfl ?_
      obtain ⟨hc3, h⟩ := h
      exact g_wi cx hE dX10_isTarget_49 rfl (zbo_n hc3) hP h
    · have h := zifn c2 h
      refine g_iload_n cx dX10_isTarget_16 rfl ?_
      refine g_if_ne cx (tgt := 36) dX10_isTarget_17 rfl (fun c4 => ?_) (fun c4 => ?_)
      · have h := zifn c4 h
        refine g_iconst cx dX10_isTarget_36 ic_1 ?_
        refine g_goto cx (tgt := 41) dX10_isTarget_37 rfl ?_
        refine g_istore_n cx dX10_isTarget_41 (Nat.le_of_ble_eq_true rfl) (Gx.L [.ref 155, .int y1, .int y2, .int 1, .int y4] rfl ?_)
        refine g_iinc cx (v := (y4 + 1)) dX10_isTarget_42 rfl rfl (Nat.le_of_ble_eq_true rfl) (Gx.L [.ref 155, .int y1, .int y2, .int 1, .int (y4 + 1)] rfl ?_)
        refine g_goto cx (tgt := 5) dX10_isTarget_45 rfl ?_
        exact ih _ _ _ _ _ _ hP h
      · have h := zifp c4 h
        refine g_aload_n cx dX10_isTarget_20 rfl ?_
        refine g_getR cx lk_X10_38 rfl (Nat.le_of_ble_eq_true rfl) rfl dX10_isTarget_21 (v := 164) (pst hP 163 rfl) ?_
        refine g_bipush cx dX10_isTarget_24 bp_8 ?_
        refine g_iload_n cx dX10_isTarget_26 rfl ?_
        refine g_imul cx dX10_isTarget_27 ?_
        refine g_iload cx dX10_isTarget_28 rfl ?_
        refine g_iadd cx dX10_isTarget_30 ?_
        obtain ⟨hc5, h⟩ := h
        refine g_iald cx dX10_isTarget_31 rfl hc5 (x := (I 164 ((((8 * y1) + y4)).toNatClampNeg))) rfl ?_
        refine g_iload_n cx dX10_isTarget_32 rfl ?_
        refine g_icmp_ne cx (tgt := 40) dX10_isTarget_33 rfl (fun c6 => ?_) (fun c6 => ?_)
        · have h := zifn c6 h
          refine g_iconst cx dX10_isTarget_40 ic_0 ?_
          refine g_istore_n cx dX10_isTarget_41 (Nat.le_of_ble_eq_true rfl) (Gx.L [.ref 155, .int y1, .int y2, .int 0, .int y4] rfl ?_)
          refine g_iinc cx (v := (y4 + 1)) dX10_isTarget_42 rfl rfl (Nat.le_of_ble_eq_true rfl) (Gx.L [.ref 155, .int y1, .int y2, .int 0, .int (y4 + 1)] rfl ?_)
          refine g_goto cx (tgt := 5) dX10_isTarget_45 rfl ?_
          exact ih _ _ _ _ _ _ hP h
        · have h := zifp c6 h
          refine g_iconst cx dX10_isTarget_36 ic_1 ?_
          refine g_goto cx (tgt := 41) dX10_isTarget_37 rfl ?_
          refine g_istore_n cx dX10_isTarget_41 (Nat.le_of_ble_eq_true rfl) (Gx.L [.ref 155, .int y1, .int y2, .int 1, .int y4] rfl ?_)
          refine g_iinc cx (v := (y4 + 1)) dX10_isTarget_42 rfl rfl (Nat.le_of_ble_eq_true rfl) (Gx.L [.ref 155, .int y1, .int y2, .int 1, .int (y4 + 1)] rfl ?_)
          refine g_goto cx (tgt := 5) dX10_isTarget_45 rfl ?_
          exact ih _ _ _ _ _ _ hP h
def w_X10_isTarget (x1 : Int32) (x2 : Int32) (I : zI) (P : zP) (K : Int32 → zI → zP → Prop) : Prop := ∃ n9, l_X10_isTarget_5 K n9 x1 x2 0 0 I P
theorem e_X10_isTarget {x1 : Int32} {x2 : Int32} {I : zI} {P : zP} {K : Int32 → zI → zP → Prop} (hP : PSt P) (h : w_X10_isTarget x1 x2 I P K) : Ev yX10_isTarget cX10_isTarget 5 (some .boolean) 0 0 0 0 [.ref 155, .int x1, .int x2] SHy I P (zKi K) := by
  refine Ev.start [.ref 155, .int x1, .int x2, .float 0, .float 0] pn_X10 rfl (Nat.le_of_ble_eq_true rfl) rfl (fun κ cx hE => ?_)
  unfold w_X10_isTarget at h
  refine g_iconst cx dX10_isTarget_0 ic_0 ?_
  refine g_istore_n cx dX10_isTarget_1 (Nat.le_of_ble_eq_true rfl) (Gx.L [.ref 155, .int x1, .int x2, .int 0, .float 0] rfl ?_)
  refine g_iconst cx dX10_isTarget_2 ic_0 ?_
  refine g_istore cx dX10_isTarget_3 (Nat.le_of_ble_eq_true rfl) (Gx.L [.ref 155, .int x1, .int x2, .int 0, .int 0] rfl ?_)
  obtain ⟨n9, h⟩ := h
  exact gl_X10_isTarget_5 cx hE n9 _ _ _ _ _ _ hP h
def w_X10_fits (x1 : Int32) (x2 : Int32) (x3 : Int32) (x4 : Int32) (x5 : Int32) (I : zI) (P : zP) (K : Int32 → zI → zP → Prop) : Prop := vp_in ((400 * x2) + x3) 2400 ∧ (if x1 = 1 then (w_X10_in (I 160 ((((400 * x2) + x3)).toNatClampNeg)) 21 32 I P (fun (v3 : Int32) (I3 : zI) (P3 : zP) => (if v3 = 0 then (w_X10_in (I 160 ((((400 * x2) + x3)).toNatClampNeg)) 85 96 I3 P3 (fun (v5 : Int32) (I5 : zI) (P5 : zP) => (if v5 = 0 then (K 0 I5 P5) else (K 1 I5 P5)))) else (K 1 I3 P3)))) else (if x1 = 2 then (if x3 = 0 then (K 1 I P) else (K 0 I P)) else (if x1 = 3 then (if x3 = 0 then (K 1 I P) else (K 0 I P)) else (if x1 = 4 then (if (I 160 ((((400 * x2) + x3)).toNatClampNeg)) = 35 then (K 1 I P) else (if (I 160 ((((400 * x2) + x3)).toNatClampNeg)) = 39 then (K 1 I P) else (K 0 I P))) else (if x1 = 5 then (w_X10_isTarget x2 x3 I P (fun (v15 : Int32) (I15 : zI) (P15 : zP) => (zbo v15 ∧ (K v15 I15 P15)))) else (if x1 = 6 then (w_X10_in x4 1 1000 I P (fun (v18 : Int32) (I18 : zI) (P18 : zP) => (if v18 = 0 then (K 0 I18 P18) else (w_X10_in x5 1 100 I18 P18 (fun (v20 : Int32) (I20 : zI) (P20 : zP) => (if v20 = 0 then (K 0 I20 P20) else (K 1 I20 P20))))))) else (if x1 = 7 then (w_X10_in (I 160 ((((400 * x2) + x3)).toNatClampNeg)) 1 2 I P (fun (v23 : Int32) (I23 : zI) (P23 : zP) => (if v23 = 0 then (w_X10_in (I 160 ((((400 * x2) + x3)).toNatClampNeg)) 9 19 I23 P23 (fun (v25 : Int32) (I25 : zI) (P25 : zP) => (if v25 = 0 then (if (I 160 ((((400 * x2) + x3)).toNatClampNeg)) = 34 then (K 1 I25 P25) else (if (I 160 ((((400 * x2) + x3)).toNatClampNeg)) = 37 then (K 1 I25 P25) else (if (I 160 ((((400 * x2) + x3)).toNatClampNeg)) = 38 then (K 1 I25 P25) else (if (I 160 ((((400 * x2) + x3)).toNatClampNeg)) = 40 then (K 1 I25 P25) else (K 0 I25 P25))))) else (K 1 I25 P25)))) else (K 1 I23 P23)))) else (K 1 I P))))))))
theorem e_X10_fits {x1 : Int32} {x2 : Int32} {x3 : Int32} {x4 : Int32} {x5 : Int32} {I : zI} {P : zP} {K : Int32 → zI → zP → Prop} (hP : PSt P) (h : w_X10_fits x1 x2 x3 x4 x5 I P K) : Ev yX10_fits cX10_fits 7 (some .boolean) 1 24 0 0 [.ref 155, .int x1, .int x2, .int x3, .int x4, .int x5] SHy I P (zKi K) := by
  refine Ev.start [.ref 155, .int x1, .int x2, .int x3, .int x4, .int x5, .float 0] pn_X10 rfl (Nat.le_of_ble_eq_true rfl) rfl (fun κ cx hE => ?_)
  unfold w_X10_fits at h
  refine g_aload_n cx dX10_fits_0 rfl ?_
  refine g_getR cx lk_X10_26 rfl (Nat.le_of_ble_eq_true rfl) rfl dX10_fits_1 (v := 160) (pst hP 159 rfl) ?_
  refine g_sipush cx dX10_fits_4 sp_400 ?_
  refine g_iload_n cx dX10_fits_7 rfl ?_
  refine g_imul cx dX10_fits_8 ?_
  refine g_iload_n cx dX10_fits_9 rfl ?_
  refine g_iadd cx dX10_fits_10 ?_
  obtain ⟨hc1, h⟩ := h
  refine g_iald cx dX10_fits_11 rfl hc1 (x := (I 160 ((((400 * x2) + x3)).toNatClampNeg))) rfl ?_
  refine g_istore cx dX10_fits_12 (Nat.le_of_ble_eq_true rfl) (Gx.L [.ref 155, .int x1, .int x2, .int x3, .int x4, .int x5, .int (I 160 ((((400 * x2) + x3)).toNatClampNeg))] rfl ?_)
  refine g_iload_n cx dX10_fits_14 rfl ?_
  by_cases c2 : x1 = 1
  · have h := zifp c2 h
    refine g_tabIn cx (tgt := 56) (off := 41) dX10_fits_15 (by rw [c2]; decide) (by rw [c2]; decide) (by rw [c2]; rfl) rfl ?_
    refine g_iload cx dX10_fits_56 rfl ?_
    refine g_bipush cx dX10_fits_58 bp_21 ?_
    refine g_bipush cx dX10_fits_60 bp_32 ?_
    refine g_wSi cx [.int (I 160 ((((400 * x2) + x3)).toNatClampNeg)), .int 21, .int 32] [] (e_X10_in hP h) mt_X10_in ml_X10_217 dX10_fits_62 rfl rfl (Nat.le_of_ble_eq_true rfl) (Nat.le_of_ble_eq_true rfl) (Nat.le_of_ble_eq_true rfl) (fun v3 I3 P3 hP h => ?_)
    refine g_if_ne cx (tgt := 80) dX10_fits_65 rfl (fun c4 => ?_) (fun c4 => ?_)
    · have h := zifn c4 h
      refine g_iconst cx dX10_fits_80 ic_1 ?_
      refine g_goto cx (tgt := 85) dX10_fits_81 rfl ?_
      exact g_wi cx hE dX10_fits_85 rfl rfl hP h
    · have h := zifp c4 h
      refine g_iload cx dX10_fits_68 rfl ?_
      refine g_bipush cx dX10_fits_70 bp_85 ?_
      refine g_bipush cx dX10_fits_72 bp_96 ?_
      refine g_wSi cx [.int (I 160 ((((400 * x2) + x3)).toNatClampNeg)), .int 85, .int 96] [] (e_X10_in hP h) mt_X10_in ml_X10_217 dX10_fits_74 rfl rfl (Nat.le_of_ble_eq_true rfl) (Nat.le_of_ble_eq_true rfl) (Nat.le_of_ble_eq_true rfl) (fun v5 I5 P5 hP h => ?_)
      refine g_if_eq cx (tgt := 84) dX10_fits_77 rfl (fun c6 => ?_) (fun c6 => ?_)
      · have h := zifp c6 h
        refine g_iconst cx dX10_fits_84 ic_0 ?_
        exact g_wi cx hE dX10_fits_85 rfl rfl hP h
      · have h := zifn c6 h
        refine g_iconst cx dX10_fits_80 ic_1 ?_
        refine g_goto cx (tgt := 85) dX10_fits_81 rfl ?_
        exact g_wi cx hE dX10_fits_85 rfl rfl hP h
  · have h := zifn c2 h
    by_cases c7 : x1 = 2
    · have h := zifp c7 h
      refine g_tabIn cx (tgt := 86) (off := 71) dX10_fits_15 (by rw [c7]; decide) (by rw [c7]; decide) (by rw [c7]; rfl) rfl ?_
      refine g_iload_n cx dX10_fits_86 rfl ?_
      refine g_if_ne cx (tgt := 94) dX10_fits_87 rfl (fun c8 => ?_) (fun c8 => ?_)
      · have h := zifn c8 h
        refine g_iconst cx dX10_fits_94 ic_0 ?_
        exact g_wi cx hE dX10_fits_95 rfl rfl hP h
      · have h := zifp c8 h
        refine g_iconst cx dX10_fits_90 ic_1 ?_
        refine g_goto cx (tgt := 95) dX10_fits_91 rfl ?_
        exact g_wi cx hE dX10_fits_95 rfl rfl hP h
    · have h := zifn c7 h
      by_cases c9 : x1 = 3
      · have h := zifp c9 h
        refine g_tabIn cx (tgt := 86) (off := 71) dX10_fits_15 (by rw [c9]; decide) (by rw [c9]; decide) (by rw [c9]; rfl) rfl ?_
        refine g_iload_n cx dX10_fits_86 rfl ?_
        refine g_if_ne cx (tgt := 94) dX10_fits_87 rfl (fun c10 => ?_) (fun c10 => ?_)
        · have h := zifn c10 h
          refine g_iconst cx dX10_fits_94 ic_0 ?_
          exact g_wi cx hE dX10_fits_95 rfl rfl hP h
        · have h := zifp c10 h
          refine g_iconst cx dX10_fits_90 ic_1 ?_
          refine g_goto cx (tgt := 95) dX10_fits_91 rfl ?_
          exact g_wi cx hE dX10_fits_95 rfl rfl hP h
      · have h := zifn c9 h
        by_cases c11 : x1 = 4
        · have h := zifp c11 h
          refine g_tabIn cx (tgt := 96) (off := 81) dX10_fits_15 (by rw [c11]; decide) (by rw [c11]; decide) (by rw [c11]; rfl) rfl ?_
          refine g_iload cx dX10_fits_96 rfl ?_
          refine g_bipush cx dX10_fits_98 bp_35 ?_
          refine g_icmp_eq cx (tgt := 110) dX10_fits_100 rfl (fun c12 => ?_) (fun c12 => ?_)
          · have h := zifp c12 h
            refine g_iconst cx dX10_fits_110 ic_1 ?_
            refine g_goto cx (tgt := 115) dX10_fits_111 rfl ?_
            exact g_wi cx hE dX10_fits_115 rfl rfl hP h
          · have h := zifn c12 h
            refine g_iload cx dX10_fits_103 rfl ?_
            refine g_bipush cx dX10_fits_105 bp_39 ?_
            refine g_icmp_ne cx (tgt := 114) dX10_fits_107 rfl (fun c13 => ?_) (fun c13 => ?_)
            · have h := zifn c13 h
              refine g_iconst cx dX10_fits_114 ic_0 ?_
              exact g_wi cx hE dX10_fits_115 rfl rfl hP h
            · have h := zifp c13 h
              refine g_iconst cx dX10_fits_110 ic_1 ?_
              refine g_goto cx (tgt := 115) dX10_fits_111 rfl ?_
              exact g_wi cx hE dX10_fits_115 rfl rfl hP h
        · have h := zifn c11 h
          by_cases c14 : x1 = 5
          · have h := zifp c14 h
            refine g_tabIn cx (tgt := 116) (off := 101) dX10_fits_15 (by rw [c14]; decide) (by rw [c14]; decide) (by rw [c14]; rfl) rfl ?_
            refine g_aload_n cx dX10_fits_116 rfl ?_
            refine g_iload_n cx dX10_fits_117 rfl ?_
            refine g_iload_n cx dX10_fits_118 rfl ?_
            refine g_wVi cx [.int x2, .int x3] [] (e_X10_isTarget hP h) mt_X10_isTarget ml_X10_328 rfl rfl rfl dX10_fits_119 rfl rfl (Nat.le_of_ble_eq_true rfl) (Nat.le_of_ble_eq_true rfl) (Nat.le_of_ble_eq_true rfl) (fun v15 I15 P15 hP h => ?_)
            obtain ⟨hc16, h⟩ := h
            exact g_wi cx hE dX10_fits_122 rfl (zbo_n hc16) hP h
          · have h := zifn c14 h
            by_cases c17 : x1 = 6
            · have h := zifp c17 h
              refine g_tabIn cx (tgt := 123) (off := 108) dX10_fits_15 (by rw [c17]; decide) (by rw [c17]; decide) (by rw [c17]; rfl) rfl ?_
              refine g_iload cx dX10_fits_123 rfl ?_
              refine g_iconst cx dX10_fits_125 ic_1 ?_
              refine g_sipush cx dX10_fits_126 sp_1000 ?_
              refine g_wSi cx [.int x4, .int 1, .int 1000] [] (e_X10_in hP h) mt_X10_in ml_X10_217 dX10_fits_129 rfl rfl (Nat.le_of_ble_eq_true rfl) (Nat.le_of_ble_eq_true rfl) (Nat.le_of_ble_eq_true rfl) (fun v18 I18 P18 hP h => ?_)
              refine g_if_eq cx (tgt := 150) dX10_fits_132 rfl (fun c19 => ?_) (fun c19 => ?_)
              · have h := zifp c19 h
                refine g_iconst cx dX10_fits_150 ic_0 ?_
                exact g_wi cx hE dX10_fits_151 rfl rfl hP h
              · have h := zifn c19 h
                refine g_iload cx dX10_fits_135 rfl ?_
                refine g_iconst cx dX10_fits_137 ic_1 ?_
                refine g_bipush cx dX10_fits_138 bp_100 ?_
                refine g_wSi cx [.int x5, .int 1, .int 100] [] (e_X10_in hP h) mt_X10_in ml_X10_217 dX10_fits_140 rfl rfl (Nat.le_of_ble_eq_true rfl) (Nat.le_of_ble_eq_true rfl) (Nat.le_of_ble_eq_true rfl) (fun v20 I20 P20 hP h => ?_)
                refine g_if_eq cx (tgt := 150) dX10_fits_143 rfl (fun c21 => ?_) (fun c21 => ?_)
                · have h := zifp c21 h
                  refine g_iconst cx dX10_fits_150 ic_0 ?_
                  exact g_wi cx hE dX10_fits_151 rfl rfl hP h
                · have h := zifn c21 h
                  refine g_iconst cx dX10_fits_146 ic_1 ?_
                  refine g_goto cx (tgt := 151) dX10_fits_147 rfl ?_
                  exact g_wi cx hE dX10_fits_151 rfl rfl hP h
            · have h := zifn c17 h
              by_cases c22 : x1 = 7
              · have h := zifp c22 h
                refine g_tabIn cx (tgt := 152) (off := 137) dX10_fits_15 (by rw [c22]; decide) (by rw [c22]; decide) (by rw [c22]; rfl) rfl ?_
                refine g_iload cx dX10_fits_152 rfl ?_
                refine g_iconst cx dX10_fits_154 ic_1 ?_
                refine g_iconst cx dX10_fits_155 ic_2 ?_
                refine g_wSi cx [.int (I 160 ((((400 * x2) + x3)).toNatClampNeg)), .int 1, .int 2] [] (e_X10_in hP h) mt_X10_in ml_X10_217 dX10_fits_156 rfl rfl (Nat.le_of_ble_eq_true rfl) (Nat.le_of_ble_eq_true rfl) (Nat.le_of_ble_eq_true rfl) (fun v23 I23 P23 hP h => ?_)
                refine g_if_ne cx (tgt := 202) dX10_fits_159 rfl (fun c24 => ?_) (fun c24 => ?_)
                · have h := zifn c24 h
                  refine g_iconst cx dX10_fits_202 ic_1 ?_
                  refine g_goto cx (tgt := 207) dX10_fits_203 rfl ?_
                  exact g_wi cx hE dX10_fits_207 rfl rfl hP h
                · have h := zifp c24 h
                  refine g_iload cx dX10_fits_162 rfl ?_
                  refine g_bipush cx dX10_fits_164 bp_9 ?_
                  refine g_bipush cx dX10_fits_166 bp_19 ?_
                  refine g_wSi cx [.int (I 160 ((((400 * x2) + x3)).toNatClampNeg)), .int 9, .int 19] [] (e_X10_in hP h) mt_X10_in ml_X10_217 dX10_fits_168 rfl rfl (Nat.le_of_ble_eq_true rfl) (Nat.le_of_ble_eq_true rfl) (Nat.le_of_ble_eq_true rfl) (fun v25 I25 P25 hP h => ?_)
                  refine g_if_ne cx (tgt := 202) dX10_fits_171 rfl (fun c26 => ?_) (fun c26 => ?_)
                  · have h := zifn c26 h
                    refine g_iconst cx dX10_fits_202 ic_1 ?_
                    refine g_goto cx (tgt := 207) dX10_fits_203 rfl ?_
                    exact g_wi cx hE dX10_fits_207 rfl rfl hP h
                  · have h := zifp c26 h
                    refine g_iload cx dX10_fits_174 rfl ?_
                    refine g_bipush cx dX10_fits_176 bp_34 ?_
                    refine g_icmp_eq cx (tgt := 202) dX10_fits_178 rfl (fun c27 => ?_) (fun c27 => ?_)
                    · have h := zifp c27 h
                      refine g_iconst cx dX10_fits_202 ic_1 ?_
                      refine g_goto cx (tgt := 207) dX10_fits_203 rfl ?_
                      exact g_wi cx hE dX10_fits_207 rfl rfl hP h
                    · have h := zifn c27 h
                      refine g_iload cx dX10_fits_181 rfl ?_
                      refine g_bipush cx dX10_fits_183 bp_37 ?_
                      refine g_icmp_eq cx (tgt := 202) dX10_fits_185 rfl (fun c28 => ?_) (fun c28 => ?_)
                      · have h := zifp c28 h
                        refine g_iconst cx dX10_fits_202 ic_1 ?_
                        refine g_goto cx (tgt := 207) dX10_fits_203 rfl ?_
                        exact g_wi cx hE dX10_fits_207 rfl rfl hP h
                      · have h := zifn c28 h
                        refine g_iload cx dX10_fits_188 rfl ?_
                        refine g_bipush cx dX10_fits_190 bp_38 ?_
                        refine g_icmp_eq cx (tgt := 202) dX10_fits_192 rfl (fun c29 => ?_) (fun c29 => ?_)
                        · have h := zifp c29 h
                          refine g_iconst cx dX10_fits_202 ic_1 ?_
                          refine g_goto cx (tgt := 207) dX10_fits_203 rfl ?_
                          exact g_wi cx hE dX10_fits_207 rfl rfl hP h
                        · have h := zifn c29 h
                          refine g_iload cx dX10_fits_195 rfl ?_
                          refine g_bipush cx dX10_fits_197 bp_40 ?_
                          refine g_icmp_ne cx (tgt := 206) dX10_fits_199 rfl (fun c30 => ?_) (fun c30 => ?_)
                          · have h := zifn c30 h
                            refine g_iconst cx dX10_fits_206 ic_0 ?_
                            exact g_wi cx hE dX10_fits_207 rfl rfl hP h
                          · have h := zifp c30 h
                            refine g_iconst cx dX10_fits_202 ic_1 ?_
                            refine g_goto cx (tgt := 207) dX10_fits_203 rfl ?_
                            exact g_wi cx hE dX10_fits_207 rfl rfl hP h
              · have h := zifn c22 h
                refine g_tabOut cx (tgt := 208) dX10_fits_15 (by have q0 : (x1 : Int32).toInt ≠ 1 := i32ne c2; have q1 : (x1 : Int32).toInt ≠ 2 := i32ne c7; have q2 : (x1 : Int32).toInt ≠ 3 := i32ne c9; have q3 : (x1 : Int32).toInt ≠ 4 := i32ne c11; have q4 : (x1 : Int32).toInt ≠ 5 := i32ne c14; have q5 : (x1 : Int32).toInt ≠ 6 := i32ne c17; have q6 : (x1 : Int32).toInt ≠ 7 := i32ne c22; omega) rfl ?_
                refine g_iconst cx dX10_fits_208 ic_1 ?_
                exact g_wi cx hE dX10_fits_209 rfl rfl hP h
def w_X10_isOp (x1 : Int32) (I : zI) (P : zP) (K : Int32 → zI → zP → Prop) : Prop := w_X10_in x1 0 43 I P (fun (v1 : Int32) (I1 : zI) (P1 : zP) => (if v1 = 0 then (w_X10_in x1 84 96 I1 P1 (fun (v3 : Int32) (I3 : zI) (P3 : zP) => (if v3 = 0 then (K 0 I3 P3) else (K 1 I3 P3)))) else (K 1 I1 P1)))
theorem e_X10_isOp {x1 : Int32} {I : zI} {P : zP} {K : Int32 → zI → zP → Prop} (hP : PSt P) (h : w_X10_isOp x1 I P K) : Ev yX10_isOp cX10_isOp 1 (some .boolean) 1 22 0 0 [.int x1] SHy I P (zKi K) := by
  refine Ev.start [.int x1] pn_X10 rfl (Nat.le_of_ble_eq_true rfl) rfl (fun κ cx hE => ?_)
  unfold w_X10_isOp at h
  refine g_iload_n cx dX10_isOp_0 rfl ?_
  refine g_iconst cx dX10_isOp_1 ic_0 ?_
  refine g_bipush cx dX10_isOp_2 bp_43 ?_
  refine g_wSi cx [.int x1, .int 0, .int 43] [] (e_X10_in hP h) mt_X10_in ml_X10_217 dX10_isOp_4 rfl rfl (Nat.le_of_ble_eq_true rfl) (Nat.le_of_ble_eq_true rfl) (Nat.le_of_ble_eq_true rfl) (fun v1 I1 P1 hP h => ?_)
  refine g_if_ne cx (tgt := 21) dX10_isOp_7 rfl (fun c2 => ?_) (fun c2 => ?_)
  · have h := zifn c2 h
    refine g_iconst cx dX10_isOp_21 ic_1 ?_
    refine g_goto cx (tgt := 26) dX10_isOp_22 rfl ?_
    exact g_wi cx hE dX10_isOp_26 rfl rfl hP h
  · have h := zifp c2 h
    refine g_iload_n cx dX10_isOp_10 rfl ?_
    refine g_bipush cx dX10_isOp_11 bp_84 ?_
    refine g_bipush cx dX10_isOp_13 bp_96 ?_
    refine g_wSi cx [.int x1, .int 84, .int 96] [] (e_X10_in hP h) mt_X10_in ml_X10_217 dX10_isOp_15 rfl rfl (Nat.le_of_ble_eq_true rfl) (Nat.le_of_ble_eq_true rfl) (Nat.le_of_ble_eq_true rfl) (fun v3 I3 P3 hP h => ?_)
    refine g_if_eq cx (tgt := 25) dX10_isOp_18 rfl (fun c4 => ?_) (fun c4 => ?_)
    · have h := zifp c4 h
      refine g_iconst cx dX10_isOp_25 ic_0 ?_
      exact g_wi cx hE dX10_isOp_26 rfl rfl hP h
    · have h := zifn c4 h
      refine g_iconst cx dX10_isOp_21 ic_1 ?_
      refine g_goto cx (tgt := 26) dX10_isOp_22 rfl ?_
      exact g_wi cx hE dX10_isOp_26 rfl rfl hP h
def j_X10_instruction_232 (K : Int32 → zI → zP → Prop) (y3 : Int32) (y4 : Int32) (y6 : Int32) (s0 : Int32) (I : zI) (P : zP) : Prop := if s0 = 0 then (K (y4 + 1) I P) else (if (y4 + y6) ≤ y3 then (K (-1) I P) else (K y3 I P))
theorem gj_X10_instruction_232 {κ : zX} (cx : Cx yX10_instruction cX10_instruction 9 (some .int) 2 43 κ) {K : Int32 → zI → zP → Prop} (hE : zEnd (zKi K) 0 0 κ) {y3 : Int32} {y4 : Int32} {y6 : Int32} {s0 : Int32} {I : zI} {P : zP} (hP : PSt P) (h : j_X10_instruction_232 K y3 y4 y6 s0 I P) : Gx κ 232 [.float 0, .float 0, .float 0, .int y3, .int y4, .float 0, .int y6, .float 0, .float 0] [.int s0] SHy I P 0 0 := by
  unfold j_X10_instruction_232 at h
  refine g_istore cx dX10_instruction_232 (Nat.le_of_ble_eq_true rfl) (Gx.L [.float 0, .float 0, .float 0, .int y3, .int y4, .float 0, .int y6, .float 0, .int s0] rfl ?_)
  refine g_iload cx dX10_instruction_234 rfl ?_
  refine g_if_ne cx (tgt := 246) dX10_instruction_236 rfl (fun c1 => ?_) (fun c1 => ?_)
  · have h := zifn c1 h
    refine g_iload cx dX10_instruction_246 rfl ?_
    refine g_iload cx dX10_instruction_248 rfl ?_
    refine g_iadd cx dX10_instruction_250 ?_
    refine g_iload_n cx dX10_instruction_251 rfl ?_
    refine g_icmp_le cx (tgt := 259) dX10_instruction_252 rfl (fun c2 => ?_) (fun c2 => ?_)
    · have h := zifp c2 h
      refine g_iconst cx dX10_instruction_259 ic_m1 ?_
      exact g_wi cx hE dX10_instruction_260 rfl rfl hP h
    · have h := zifn c2 h
      refine g_iload_n cx dX10_instruction_255 rfl ?_
      refine g_goto cx (tgt := 260) dX10_instruction_256 rfl ?_
      exact g_wi cx hE dX10_instruction_260 rfl rfl hP h
  · have h := zifp c1 h
    refine g_iload cx dX10_instruction_239 rfl ?_
    refine g_iconst cx dX10_instruction_241 ic_1 ?_
    refine g_iadd cx dX10_instruction_242 ?_
    refine g_goto cx (tgt := 260) dX10_instruction_243 rfl ?_
    exact g_wi cx hE dX10_instruction_260 rfl rfl hP h
def j_X10_instruction_190 (K : Int32 → zI → zP → Prop) (y3 : Int32) (y4 : Int32) (y5 : Int32) (y6 : Int32) (s0 : Int32) (I : zI) (P : zP) : Prop := if y6 = 1 then (j_X10_instruction_232 K y3 y4 y6 1 I P) else (if y5 = 33 then (j_X10_instruction_232 K y3 y4 y6 1 I P) else (if y3 ≤ (y4 + 1) then (j_X10_instruction_232 K y3 y4 y6 1 I P) else (vp_in (y4 + 1) 600 ∧ (if s0 ≤ (I 156 (((y4 + 1)).toNatClampNeg)) then (j_X10_instruction_232 K y3 y4 y6 0 I P) else (j_X10_instruction_232 K y3 y4 y6 1 I P)))))
theorem gj_X10_instruction_190 {κ : zX} (cx : Cx yX10_instruction cX10_instruction 9 (some .int) 2 43 κ) {K : Int32 → zI → zP → Prop} (hE : zEnd (zKi K) 0 0 κ) {y3 : Int32} {y4 : Int32} {y5 : Int32} {y6 : Int32} {s0 : Int32} {I : zI} {P : zP} (hP : PSt P) (h : j_X10_instruction_190 K y3 y4 y5 y6 s0 I P) : Gx κ 190 [.ref 155, .float 0, .float 0, .int y3, .int y4, .int y5, .int y6, .float 0, .float 0] [.int s0] SHy I P 0 0 := by
  unfold j_X10_instruction_190 at h
  refine g_istore cx dX10_instruction_190 (Nat.le_of_ble_eq_true rfl) (Gx.L [.ref 155, .float 0, .float 0, .int y3, .int y4, .int y5, .int y6, .int s0, .float 0] rfl ?_)
  refine g_iload cx dX10_instruction_192 rfl ?_
  refine g_iconst cx dX10_instruction_194 ic_1 ?_
  refine g_icmp_eq cx (tgt := 227) dX10_instruction_195 rfl (fun c1 => ?_) (fun c1 => ?_)
  · have h := zifp c1 h
    refine g_iconst cx dX10_instruction_227 ic_1 ?_
    refine g_goto cx (tgt := 232) dX10_instruction_228 rfl ?_
    refine (Gx.unset 0 (Gx.unset 5 (Gx.unset 7 (Gx.L [.float 0, .float 0, .float 0, .int y3, .int y4, .float 0, .int y6, .float 0, .float 0] rfl ?_))))
    exact gj_X10_instruction_232 cx hE hP h
  · have h := zifn c1 h
    refine g_iload cx dX10_instruction_198 rfl ?_
    refine g_bipush cx dX10_instruction_200 bp_33 ?_
    refine g_icmp_eq cx (tgt := 227) dX10_instruction_202 rfl (fun c2 => ?_) (fun c2 => ?_)
    · have h := zifp c2 h
      refine g_iconst cx dX10_instruction_227 ic_1 ?_
      refine g_goto cx (tgt := 232) dX10_instruction_228 rfl ?_
      refine (Gx.unset 0 (Gx.unset 5 (Gx.unset 7 (Gx.L [.float 0, .float 0, .float 0, .int y3, .int y4, .float 0, .int y6, .float 0, .float 0] rfl ?_))))
      exact gj_X10_instruction_232 cx hE hP h
    · have h := zifn c2 h
      refine g_iload cx dX10_instruction_205 rfl ?_
      refine g_iconst cx dX10_instruction_207 ic_1 ?_
      refine g_iadd cx dX10_instruction_208 ?_
      refine g_iload_n cx dX10_instruction_209 rfl ?_
      refine g_icmp_ge cx (tgt := 227) dX10_instruction_210 rfl (fun c3 => ?_) (fun c3 => ?_)
      · have h := zifp c3 h
        refine g_iconst cx dX10_instruction_227 ic_1 ?_
        refine g_goto cx (tgt := 232) dX10_instruction_228 rfl ?_
        refine (Gx.unset 0 (Gx.unset 5 (Gx.unset 7 (Gx.L [.float 0, .float 0, .float 0, .int y3, .int y4, .float 0, .int y6, .float 0, .float 0] rfl ?_))))
        exact gj_X10_instruction_232 cx hE hP h
      · have h := zifn c3 h
        refine g_aload_n cx dX10_instruction_213 rfl ?_
        refine g_getR cx lk_X10_7 rfl (Nat.le_of_ble_eq_true rfl) rfl dX10_instruction_214 (v := 156) (pst hP 155 rfl) ?_
        refine g_iload cx dX10_instruction_217 rfl ?_
        refine g_iconst cx dX10_instruction_219 ic_1 ?_
        refine g_iadd cx dX10_instruction_220 ?_
        obtain ⟨hc4, h⟩ := h
        refine g_iald cx dX10_instruction_221 rfl hc4 (x := (I 156 (((y4 + 1)).toNatClampNeg))) rfl ?_
        refine g_iload cx dX10_instruction_222 rfl ?_
        refine g_icmp_ge cx (tgt := 231) dX10_instruction_224 rfl (fun c5 => ?_) (fun c5 => ?_)
        · have h := zifp c5 h
          refine g_iconst cx dX10_instruction_231 ic_0 ?_
          refine (Gx.unset 0 (Gx.unset 5 (Gx.unset 7 (Gx.L [.float 0, .float 0, .float 0, .int y3, .int y4, .float 0, .int y6, .float 0, .float 0] rfl ?_))))
          exact gj_X10_instruction_232 cx hE hP h
        · have h := zifn c5 h
          refine g_iconst cx dX10_instruction_227 ic_1 ?_
          refine g_goto cx (tgt := 232) dX10_instruction_228 rfl ?_
          refine (Gx.unset 0 (Gx.unset 5 (Gx.unset 7 (Gx.L [.float 0, .float 0, .float 0, .int y3, .int y4, .float 0, .int y6, .float 0, .float 0] rfl ?_))))
          exact gj_X10_instruction_232 cx hE hP h
def j_X10_instruction_112 (K : Int32 → zI → zP → Prop) (y1 : Int32) (y2 : Int32) (y3 : Int32) (y4 : Int32) (y5 : Int32) (s0 : Int32) (s1 : Int32) (I : zI) (P : zP) : Prop := w_X10_sizeOf s1 s0 I P (fun (v1 : Int32) (I1 : zI) (P1 : zP) => (vp_in y1 6 ∧ (if (y2 + v1) ≤ (I1 159 ((y1).toNatClampNeg)) then (w_X10_in y5 3 5 I1 P1 (fun (v4 : Int32) (I4 : zI) (P4 : zP) => (if v4 = 0 then (if y5 = 34 then (j_X10_instruction_190 K y3 y4 y5 v1 8 I4 P4) else (if y5 = 35 then (j_X10_instruction_190 K y3 y4 y5 v1 8 I4 P4) else (if y5 = 40 then (j_X10_instruction_190 K y3 y4 y5 v1 ((I4 155 3) + 1) I4 P4) else (j_X10_instruction_190 K y3 y4 y5 v1 256 I4 P4)))) else (vp_in y1 6 ∧ (j_X10_instruction_190 K y3 y4 y5 v1 (I4 158 ((y1).toNatClampNeg)) I4 P4))))) else (K y4 I1 P1))))
theorem gj_X10_instruction_112 {κ : zX} (cx : Cx yX10_instruction cX10_instruction 9 (some .int) 2 43 κ) {K : Int32 → zI → zP → Prop} (hE : zEnd (zKi K) 0 0 κ) {y1 : Int32} {y2 : Int32} {y3 : Int32} {y4 : Int32} {y5 : Int32} {s0 : Int32} {s1 : Int32} {I : zI} {P : zP} (hP : PSt P) (h : j_X10_instruction_112 K y1 y2 y3 y4 y5 s0 s1 I P) : Gx κ 112 [.ref 155, .int y1, .int y2, .int y3, .int y4, .int y5, .float 0, .float 0, .float 0] [.int s0, .int s1] SHy I P 0 0 := by
  unfold j_X10_instruction_112 at h
  refine g_wSi cx [.int s1, .int s0] [] (e_X10_sizeOf hP h) mt_X10_sizeOf ml_X10_222 dX10_instruction_112 rfl rfl (Nat.le_of_ble_eq_true rfl) (Nat.le_of_ble_eq_true rfl) (Nat.le_of_ble_eq_true rfl) (fun v1 I1 P1 hP h => ?_)
  refine g_istore cx dX10_instruction_115 (Nat.le_of_ble_eq_true rfl) (Gx.L [.ref 155, .int y1, .int y2, .int y3, .int y4, .int y5, .int v1, .float 0, .float 0] rfl ?_)
  refine g_iload_n cx dX10_instruction_117 rfl ?_
  refine g_iload cx dX10_instruction_118 rfl ?_
  refine g_iadd cx dX10_instruction_120 ?_
  refine g_aload_n cx dX10_instruction_121 rfl ?_
  refine g_getR cx lk_X10_23 rfl (Nat.le_of_ble_eq_true rfl) rfl dX10_instruction_122 (v := 159) (pst hP 158 rfl) ?_
  refine g_iload_n cx dX10_instruction_125 rfl ?_
  obtain ⟨hc2, h⟩ := h
  refine g_iald cx dX10_instruction_126 rfl hc2 (x := (I1 159 ((y1).toNatClampNeg))) rfl ?_
  refine g_icmp_le cx (tgt := 133) dX10_instruction_127 rfl (fun c3 => ?_) (fun c3 => ?_)
  · have h := zifp c3 h
    refine g_iload cx dX10_instruction_133 rfl ?_
    refine g_iconst cx dX10_instruction_135 ic_3 ?_
    refine g_iconst cx dX10_instruction_136 ic_5 ?_
    refine g_wSi cx [.int y5, .int 3, .int 5] [] (e_X10_in hP h) mt_X10_in ml_X10_217 dX10_instruction_137 rfl rfl (Nat.le_of_ble_eq_true rfl) (Nat.le_of_ble_eq_true rfl) (Nat.le_of_ble_eq_true rfl) (fun v4 I4 P4 hP h => ?_)
    refine g_if_eq cx (tgt := 152) dX10_instruction_140 rfl (fun c5 => ?_) (fun c5 => ?_)
    · have h := zifp c5 h
      refine g_iload cx dX10_instruction_152 rfl ?_
      refine g_bipush cx dX10_instruction_154 bp_34 ?_
      refine g_icmp_eq cx (tgt := 166) dX10_instruction_156 rfl (fun c6 => ?_) (fun c6 => ?_)
      · have h := zifp c6 h
        refine g_bipush cx dX10_instruction_166 bp_8 ?_
        refine g_goto cx (tgt := 190) dX10_instruction_168 rfl ?_
        refine (Gx.unset 1 (Gx.unset 2 (Gx.L [.ref 155, .float 0, .float 0, .int y3, .int y4, .int y5, .int v1, .float 0, .float 0] rfl ?_)))
        exact gj_X10_instruction_190 cx hE hP h
      · have h := zifn c6 h
        refine g_iload cx dX10_instruction_159 rfl ?_
        refine g_bipush cx dX10_instruction_161 bp_35 ?_
        refine g_icmp_ne cx (tgt := 171) dX10_instruction_163 rfl (fun c7 => ?_) (fun c7 => ?_)
        · have h := zifn c7 h
          refine g_iload cx dX10_instruction_171 rfl ?_
          refine g_bipush cx dX10_instruction_173 bp_40 ?_
          refine g_icmp_ne cx (tgt := 187) dX10_instruction_175 rfl (fun c8 => ?_) (fun c8 => ?_)
          · have h := zifn c8 h
            refine g_sipush cx dX10_instruction_187 sp_256 ?_
            refine (Gx.unset 1 (Gx.unset 2 (Gx.L [.ref 155, .float 0, .float 0, .int y3, .int y4, .int y5, .int v1, .float 0, .float 0] rfl ?_)))
            exact gj_X10_instruction_190 cx hE hP h
          · have h := zifp c8 h
            refine g_aload_n cx dX10_instruction_178 rfl ?_
            refine g_getI cx lk_X10_237 rfl (Nat.le_of_ble_eq_true rfl) rfl dX10_instruction_179 (x := (I4 155 3)) rfl ?_
            refine g_iconst cx dX10_instruction_182 ic_1 ?_
            refine g_iadd cx dX10_instruction_183 ?_
            refine g_goto cx (tgt := 190) dX10_instruction_184 rfl ?_
            refine (Gx.unset 1 (Gx.unset 2 (Gx.L [.ref 155, .float 0, .float 0, .int y3, .int y4, .int y5, .int v1, .float 0, .float 0] rfl ?_)))
            exact gj_X10_instruction_190 cx hE hP h
        · have h := zifp c7 h
          refine g_bipush cx dX10_instruction_166 bp_8 ?_
          refine g_goto cx (tgt := 190) dX10_instruction_168 rfl ?_
          refine (Gx.unset 1 (Gx.unset 2 (Gx.L [.ref 155, .float 0, .float 0, .int y3, .int y4, .int y5, .int v1, .float 0, .float 0] rfl ?_)))
          exact gj_X10_instruction_190 cx hE hP h
    · have h := zifn c5 h
      refine g_aload_n cx dX10_instruction_143 rfl ?_
      refine g_getR cx lk_X10_20 rfl (Nat.le_of_ble_eq_true rfl) rfl dX10_instruction_144 (v := 158) (pst hP 157 rfl) ?_
      refine g_iload_n cx dX10_instruction_147 rfl ?_
      obtain ⟨hc9, h⟩ := h
      refine g_iald cx dX10_instruction_148 rfl hc9 (x := (I4 158 ((y1).toNatClampNeg))) rfl ?_
      refine g_goto cx (tgt := 190) dX10_instruction_149 rfl ?_
      refine (Gx.unset 1 (Gx.unset 2 (Gx.L [.ref 155, .float 0, .float 0, .int y3, .int y4, .int y5, .int v1, .float 0, .float 0] rfl ?_)))
      exact gj_X10_instruction_190 cx hE hP h
  · have h := zifn c3 h
    refine g_iload cx dX10_instruction_130 rfl ?_
    exact g_wi cx hE dX10_instruction_132 rfl rfl hP h
def j_X10_instruction_90 (K : Int32 → zI → zP → Prop) (y1 : Int32) (y2 : Int32) (y3 : Int32) (y4 : Int32) (y5 : Int32) (I : zI) (P : zP) : Prop := if y5 = 33 then (vp_in (y4 + 1) 600 ∧ (j_X10_instruction_112 K y1 y2 y3 y4 y5 (I 156 (((y4 + 1)).toNatClampNeg)) y5 I P)) else (j_X10_instruction_112 K y1 y2 y3 y4 y5 0 y5 I P)
theorem gj_X10_instruction_90 {κ : zX} (cx : Cx yX10_instruction cX10_instruction 9 (some .int) 2 43 κ) {K : Int32 → zI → zP → Prop} (hE : zEnd (zKi K) 0 0 κ) {y1 : Int32} {y2 : Int32} {y3 : Int32} {y4 : Int32} {y5 : Int32} {I : zI} {P : zP} (hP : PSt P) (h : j_X10_instruction_90 K y1 y2 y3 y4 y5 I P) : Gx κ 90 [.ref 155, .int y1, .int y2, .int y3, .int y4, .int y5, .float 0, .float 0, .float 0] [] SHy I P 0 0 := by
  unfold j_X10_instruction_90 at h
  refine g_iload cx dX10_instruction_90 rfl ?_
  refine g_iload cx dX10_instruction_92 rfl ?_
  refine g_bipush cx dX10_instruction_94 bp_33 ?_
  refine g_icmp_ne cx (tgt := 111) dX10_instruction_96 rfl (fun c1 => ?_) (fun c1 => ?_)
  · have h := zifn c1 h
    refine g_iconst cx dX10_instruction_111 ic_0 ?_
    exact gj_X10_instruction_112 cx hE hP h
  · have h := zifp c1 h
    refine g_aload_n cx dX10_instruction_99 rfl ?_
    refine g_getR cx lk_X10_7 rfl (Nat.le_of_ble_eq_true rfl) rfl dX10_instruction_100 (v := 156) (pst hP 155 rfl) ?_
    refine g_iload cx dX10_instruction_103 rfl ?_
    refine g_iconst cx dX10_instruction_105 ic_1 ?_
    refine g_iadd cx dX10_instruction_106 ?_
    obtain ⟨hc2, h⟩ := h
    refine g_iald cx dX10_instruction_107 rfl hc2 (x := (I 156 (((y4 + 1)).toNatClampNeg))) rfl ?_
    refine g_goto cx (tgt := 112) dX10_instruction_108 rfl ?_
    exact gj_X10_instruction_112 cx hE hP h
def w_X10_instruction (x1 : Int32) (x2 : Int32) (x3 : Int32) (I : zI) (P : zP) (K : Int32 → zI → zP → Prop) : Prop := if (4 + x2) < x3 then (vp_in (4 + x2) 600 ∧ (w_X10_isOp (I 156 (((4 + x2)).toNatClampNeg)) I P (fun (v3 : Int32) (I3 : zI) (P3 : zP) => (if v3 = 0 then (K (4 + x2) I3 P3) else (w_X10_sizeOf (I 156 (((4 + x2)).toNatClampNeg)) (-1) I3 P3 (fun (v5 : Int32) (I5 : zI) (P5 : zP) => (vp_in x1 6 ∧ (if (x2 + v5) ≤ (I5 159 ((x1).toNatClampNeg)) then (if (I 156 (((4 + x2)).toNatClampNeg)) = 33 then (if ((4 + x2) + 1) < x3 then (vp_in ((4 + x2) + 1) 600 ∧ (w_X10_in (I5 156 ((((4 + x2) + 1)).toNatClampNeg)) 1 16 I5 P5 (fun (v11 : Int32) (I11 : zI) (P11 : zP) => (if v11 = 0 then (K ((4 + x2) + 1) I11 P11) else (j_X10_instruction_90 K x1 x2 x3 (4 + x2) (I 156 (((4 + x2)).toNatClampNeg)) I11 P11))))) else (K x3 I5 P5)) else (j_X10_instruction_90 K x1 x2 x3 (4 + x2) (I 156 (((4 + x2)).toNatClampNeg)) I5 P5)) else (K (4 + x2) I5 P5))))))))) else (K x3 I P)
theorem e_X10_instruction {x1 : Int32} {x2 : Int32} {x3 : Int32} {I : zI} {P : zP} {K : Int32 → zI → zP → Prop} (hP : PSt P) (h : w_X10_instruction x1 x2 x3 I P K) : Ev yX10_instruction cX10_instruction 9 (some .int) 2 43 0 0 [.ref 155, .int x1, .int x2, .int x3] SHy I P (zKi K) := by
  refine Ev.start [.ref 155, .int x1, .int x2, .int x3, .float 0, .float 0, .float 0, .float 0, .float 0] pn_X10 rfl (Nat.le_of_ble_eq_true rfl) rfl (fun κ cx hE => ?_)
  unfold w_X10_instruction at h
  refine g_iconst cx dX10_instruction_0 ic_4 ?_
  refine g_iload_n cx dX10_instruction_1 rfl ?_
  refine g_iadd cx dX10_instruction_2 ?_
  refine g_istore cx dX10_instruction_3 (Nat.le_of_ble_eq_true rfl) (Gx.L [.ref 155, .int x1, .int x2, .int x3, .int (4 + x2), .float 0, .float 0, .float 0, .float 0] rfl ?_)
  refine g_iload cx dX10_instruction_5 rfl ?_
  refine g_iload_n cx dX10_instruction_7 rfl ?_
  refine g_icmp_lt cx (tgt := 13) dX10_instruction_8 rfl (fun c1 => ?_) (fun c1 => ?_)
  · have h := zifp c1 h
    refine g_aload_n cx dX10_instruction_13 rfl ?_
    refine g_getR cx lk_X10_7 rfl (Nat.le_of_ble_eq_true rfl) rfl dX10_instruction_14 (v := 156) (pst hP 155 rfl) ?_
    refine g_iload cx dX10_instruction_17 rfl ?_
    obtain ⟨hc2, h⟩ := h
    refine g_iald cx dX10_instruction_19 rfl hc2 (x := (I 156 (((4 + x2)).toNatClampNeg))) rfl ?_
    refine g_istore cx dX10_instruction_20 (Nat.le_of_ble_eq_true rfl) (Gx.L [.ref 155, .int x1, .int x2, .int x3, .int (4 + x2), .int (I 156 (((4 + x2)).toNatClampNeg)), .float 0, .float 0, .float 0] rfl ?_)
    refine g_iload cx dX10_instruction_22 rfl ?_
    refine g_wSi cx [.int (I 156 (((4 + x2)).toNatClampNeg))] [] (e_X10_isOp hP h) mt_X10_isOp ml_X10_265 dX10_instruction_24 rfl rfl (Nat.le_of_ble_eq_true rfl) (Nat.le_of_ble_eq_true rfl) (Nat.le_of_ble_eq_true rfl) (fun v3 I3 P3 hP h => ?_)
    refine g_if_eq cx (tgt := 47) dX10_instruction_27 rfl (fun c4 => ?_) (fun c4 => ?_)
    · have h := zifp c4 h
      refine g_iload cx dX10_instruction_47 rfl ?_
      exact g_wi cx hE dX10_instruction_49 rfl rfl hP h
    · have h := zifn c4 h
      refine g_iload_n cx dX10_instruction_30 rfl ?_
      refine g_iload cx dX10_instruction_31 rfl ?_
      refine g_iconst cx dX10_instruction_33 ic_m1 ?_
      refine g_wSi cx [.int (I 156 (((4 + x2)).toNatClampNeg)), .int (-1)] [.int x2] (e_X10_sizeOf hP h) mt_X10_sizeOf ml_X10_222 dX10_instruction_34 rfl rfl (Nat.le_of_ble_eq_true rfl) (Nat.le_of_ble_eq_true rfl) (Nat.le_of_ble_eq_true rfl) (fun v5 I5 P5 hP h => ?_)
      refine g_iadd cx dX10_instruction_37 ?_
      refine g_aload_n cx dX10_instruction_38 rfl ?_
      refine g_getR cx lk_X10_23 rfl (Nat.le_of_ble_eq_true rfl) rfl dX10_instruction_39 (v := 159) (pst hP 158 rfl) ?_
      refine g_iload_n cx dX10_instruction_42 rfl ?_
      obtain ⟨hc6, h⟩ := h
      refine g_iald cx dX10_instruction_43 rfl hc6 (x := (I5 159 ((x1).toNatClampNeg))) rfl ?_
      refine g_icmp_le cx (tgt := 50) dX10_instruction_44 rfl (fun c7 => ?_) (fun c7 => ?_)
      · have h := zifp c7 h
        refine g_iload cx dX10_instruction_50 rfl ?_
        refine g_bipush cx dX10_instruction_52 bp_33 ?_
        refine g_icmp_ne cx (tgt := 90) dX10_instruction_54 rfl (fun c8 => ?_) (fun c8 => ?_)
        · have h := zifn c8 h
          exact gj_X10_instruction_90 cx hE hP h
        · have h := zifp c8 h
          refine g_iload cx dX10_instruction_57 rfl ?_
          refine g_iconst cx dX10_instruction_59 ic_1 ?_
          refine g_iadd cx dX10_instruction_60 ?_
          refine g_iload_n cx dX10_instruction_61 rfl ?_
          refine g_icmp_lt cx (tgt := 67) dX10_instruction_62 rfl (fun c9 => ?_) (fun c9 => ?_)
          · have h := zifp c9 h
            refine g_aload_n cx dX10_instruction_67 rfl ?_
            refine g_getR cx lk_X10_7 rfl (Nat.le_of_ble_eq_true rfl) rfl dX10_instruction_68 (v := 156) (pst hP 155 rfl) ?_
            refine g_iload cx dX10_instruction_71 rfl ?_
            refine g_iconst cx dX10_instruction_73 ic_1 ?_
            refine g_iadd cx dX10_instruction_74 ?_
            obtain ⟨hc10, h⟩ := h
            refine g_iald cx dX10_instruction_75 rfl hc10 (x := (I5 156 ((((4 + x2) + 1)).toNatClampNeg))) rfl ?_
            refine g_iconst cx dX10_instruction_76 ic_1 ?_
            refine g_bipush cx dX10_instruction_77 bp_16 ?_
            refine g_wSi cx [.int (I5 156 ((((4 + x2) + 1)).toNatClampNeg)), .int 1, .int 16] [] (e_X10_in hP h) mt_X10_in ml_X10_217 dX10_instruction_79 rfl rfl (Nat.le_of_ble_eq_true rfl) (Nat.le_of_ble_eq_true rfl) (Nat.le_of_ble_eq_true rfl) (fun v11 I11 P11 hP h => ?_)
            refine g_if_ne cx (tgt := 90) dX10_instruction_82 rfl (fun c12 => ?_) (fun c12 => ?_)
            · have h := zifn c12 h
              exact gj_X10_instruction_90 cx hE hP h
            · have h := zifp c12 h
              refine g_iload cx dX10_instruction_85 rfl ?_
              refine g_iconst cx dX10_instruction_87 ic_1 ?_
              refine g_iadd cx dX10_instruction_88 ?_
              exact g_wi cx hE dX10_instruction_89 rfl rfl hP h
          · have h := zifn c9 h
            refine g_iload_n cx dX10_instruction_65 rfl ?_
            exact g_wi cx hE dX10_instruction_66 rfl rfl hP h
      · have h := zifn c7 h
        refine g_iload cx dX10_instruction_47 rfl ?_
        exact g_wi cx hE dX10_instruction_49 rfl rfl hP h
  · have h := zifn c1 h
    refine g_iload_n cx dX10_instruction_11 rfl ?_
    exact g_wi cx hE dX10_instruction_12 rfl rfl hP h
def l_X10_rest_69 (K : Int32 → zI → zP → Prop) : Nat → Int32 → Int32 → Int32 → zI → zP → Prop
  | 0, _, _, _, _, _ => False
  | n + 1, y1, y2, y5, I, P => vp_in y1 6 ∧ (if (I 161 ((y1).toNatClampNeg)) ≤ y5 then (K (-1) I P) else (vp_in ((y2 + 1) + (7 * y5)) 600 ∧ (vp_in (((y2 + 1) + (7 * y5)) + 1) 600 ∧ (vp_in ((8 * y1) + y5) 48 ∧ (vp_in (((y2 + 1) + (7 * y5)) + 2) 600 ∧ (vp_in (((y2 + 1) + (7 * y5)) + 3) 600 ∧ (vp_in ((8 * y1) + y5) 48 ∧ (vp_in (((y2 + 1) + (7 * y5)) + 4) 600 ∧ (vp_in (((y2 + 1) + (7 * y5)) + 5) 600 ∧ (vp_in ((8 * y1) + y5) 48 ∧ (vp_in (((y2 + 1) + (7 * y5)) + 6) 600 ∧ (vp_in ((8 * y1) + y5) 48 ∧ ((l_X10_rest_69 K n) y1 y2 (y5 + 1) (zu (zu (zu (zu I 162 ((((8 * y1) + y5)).toNatClampNeg) ((256 * (I 156 ((((y2 + 1) + (7 * y5))).toNatClampNeg))) + (I 156 (((((y2 + 1) + (7 * y5)) + 1)).toNatClampNeg)))) 163 ((((8 * y1) + y5)).toNatClampNeg) ((256 * ((zu I 162 ((((8 * y1) + y5)).toNatClampNeg) ((256 * (I 156 ((((y2 + 1) + (7 * y5))).toNatClampNeg))) + (I 156 (((((y2 + 1) + (7 * y5)) + 1)).toNatClampNeg)))) 156 (((((y2 + 1) + (7 * y5)) + 2)).toNatClampNeg))) + ((zu I 162 ((((8 * y1) + y5)).toNatClampNeg) ((256 * (I 156 ((((y2 + 1) + (7 * y5))).toNatClampNeg))) + (I 156 (((((y2 + 1) + (7 * y5)) + 1)).toNatClampNeg)))) 156 (((((y2 + 1) + (7 * y5)) + 3)).toNatClampNeg)))) 164 ((((8 * y1) + y5)).toNatClampNeg) ((256 * ((zu (zu I 162 ((((8 * y1) + y5)).toNatClampNeg) ((256 * (I 156 ((((y2 + 1) + (7 * y5))).toNatClampNeg))) + (I 156 (((((y2 + 1) + (7 * y5)) + 1)).toNatClampNeg)))) 163 ((((8 * y1) + y5)).toNatClampNeg) ((256 * ((zu I 162 ((((8 * y1) + y5)).toNatClampNeg) ((256 * (I 156 ((((y2 + 1) + (7 * y5))).toNatClampNeg))) + (I 156 (((((y2 + 1) + (7 * y5)) + 1)).toNatClampNeg)))) 156 (((((y2 + 1) + (7 * y5)) + 2)).toNatClampNeg))) + ((zu I 162 ((((8 * y1) + y5)).toNatClampNeg) ((256 * (I 156 ((((y2 + 1) + (7 * y5))).toNatClampNeg))) + (I 156 (((((y2 + 1) + (7 * y5)) + 1)).toNatClampNeg)))) 156 (((((y2 + 1) + (7 * y5)) + 3)).toNatClampNeg)))) 156 (((((y2 + 1) + (7 * y5)) + 4)).toNatClampNeg))) + ((zu (zu I 162 ((((8 * y1) + y5)).toNatClampNeg) ((256 * (I 156 ((((y2 + 1) + (7 * y5))).toNatClampNeg))) + (I 156 (((((y2 + 1) + (7 * y5)) + 1)).toNatClampNeg)))) 163 ((((8 * y1) + y5)).toNatClampNeg) ((256 * ((zu I 162 ((((8 * y1) + y5)).toNatClampNeg) ((256 * (I 156 ((((y2 + 1) + (7 * y5))).toNatClampNeg))) + (I 156 (((((y2 + 1) + (7 * y5)) + 1)).toNatClampNeg)))) 156 (((((y2 + 1) + (7 * y5)) + 2)).toNatClampNeg))) + ((zu I 162 ((((8 * y1) + y5)).toNatClampNeg) ((256 * (I 156 ((((y2 + 1) + (7 * y5))).toNatClampNeg))) + (I 156 (((((y2 + 1) + (7 * y5)) + 1)).toNatClampNeg)))) 156 (((((y2 + 1) + (7 * y5)) + 3)).toNatClampNeg)))) 156 (((((y2 + 1) + (7 * y5)) + 5)).toNatClampNeg)))) 165 ((((8 * y1) + y5)).toNatClampNeg) ((zu (zu (zu I 162 ((((8 * y1) + y5)).toNatClampNeg) ((256 * (I 156 ((((y2 + 1) + (7 * y5))).toNatClampNeg))) + (I 156 (((((y2 + 1) + (7 * y5)) + 1)).toNatClampNeg)))) 163 ((((8 * y1) + y5)).toNatClampNeg) ((256 * ((zu I 162 ((((8 * y1) + y5)).toNatClampNeg) ((256 * (I 156 ((((y2 + 1) + (7 * y5))).toNatClampNeg))) + (I 156 (((((y2 + 1) + (7 * y5)) + 1)).toNatClampNeg)))) 156 (((((y2 + 1) + (7 * y5)) + 2)).toNatClampNeg))) + ((zu I 162 ((((8 * y1) + y5)).toNatClampNeg) ((256 * (I 156 ((((y2 + 1) + (7 * y5))).toNatClampNeg))) + (I 156 (((((y2 + 1) + (7 * y5)) + 1)).toNatClampNeg)))) 156 (((((y2 + 1) + (7 * y5)) + 3)).toNatClampNeg)))) 164 ((((8 * y1) + y5)).toNatClampNeg) ((256 * ((zu (zu I 162 ((((8 * y1) + y5)).toNatClampNeg) ((256 * (I 156 ((((y2 + 1) + (7 * y5))).toNatClampNeg))) + (I 156 (((((y2 + 1) + (7 * y5)) + 1)).toNatClampNeg)))) 163 ((((8 * y1) + y5)).toNatClampNeg) ((256 * ((zu I 162 ((((8 * y1) + y5)).toNatClampNeg) ((256 * (I 156 ((((y2 + 1) + (7 * y5))).toNatClampNeg))) + (I 156 (((((y2 + 1) + (7 * y5)) + 1)).toNatClampNeg)))) 156 (((((y2 + 1) + (7 * y5)) + 2)).toNatClampNeg))) + ((zu I 162 ((((8 * y1) + y5)).toNatClampNeg) ((256 * (I 156 ((((y2 + 1) + (7 * y5))).toNatClampNeg))) + (I 156 (((((y2 + 1) + (7 * y5)) + 1)).toNatClampNeg)))) 156 (((((y2 + 1) + (7 * y5)) + 3)).toNatClampNeg)))) 156 (((((y2 + 1) + (7 * y5)) + 4)).toNatClampNeg))) + ((zu (zu I 162 ((((8 * y1) + y5)).toNatClampNeg) ((256 * (I 156 ((((y2 + 1) + (7 * y5))).toNatClampNeg))) + (I 156 (((((y2 + 1) + (7 * y5)) + 1)).toNatClampNeg)))) 163 ((((8 * y1) + y5)).toNatClampNeg) ((256 * ((zu I 162 ((((8 * y1) + y5)).toNatClampNeg) ((256 * (I 156 ((((y2 + 1) + (7 * y5))).toNatClampNeg))) + (I 156 (((((y2 + 1) + (7 * y5)) + 1)).toNatClampNeg)))) 156 (((((y2 + 1) + (7 * y5)) + 2)).toNatClampNeg))) + ((zu I 162 ((((8 * y1) + y5)).toNatClampNeg) ((256 * (I 156 ((((y2 + 1) + (7 * y5))).toNatClampNeg))) + (I 156 (((((y2 + 1) + (7 * y5)) + 1)).toNatClampNeg)))) 156 (((((y2 + 1) + (7 * y5)) + 3)).toNatClampNeg)))) 156 (((((y2 + 1) + (7 * y5)) + 5)).toNatClampNeg)))) 156 (((((y2 + 1) + (7 * y5)) + 6)).toNatClampNeg))) P)))))))))))))
theorem gl_X10_rest_69 {κ : zX} (cx : Cx yX10_rest cX10_rest 7 (some .int) 0 0 κ) {K : Int32 → zI → zP → Prop} (hE : zEnd (zKi K) 0 0 κ) : ∀ (n : Nat) (y1 : Int32) (y2 : Int32) (y5 : Int32) (I : zI) (P : zP), PSt P → l_X10_rest_69 K n y1 y2 y5 I P → Gx κ 69 [.ref 155, .int y1, .int y2, .float 0, .float 0, .int y5, .float 0] [] SHy I P 0 0 := by
  intro n
  induction n with
  | zero =>
    intro y1 y2 y5 I P hP h
    rw [l_X10_rest_69] at h
    exact False.elim h
  | succ n ih =>
    intro y1 y2 y5 I P hP h
    rw [l_X10_rest_69] at h
    refine g_iload cx dX10_rest_69 rfl ?_
    refine g_aload_n cx dX10_rest_71 rfl ?_
    refine g_getR cx lk_X10_29 rfl (Nat.le_of_ble_eq_true rfl) rfl dX10_rest_72 (v := 161) (pst hP 160 rfl) ?_
    refine g_iload_n cx dX10_rest_75 rfl ?_
    obtain ⟨hc1, h⟩ := h
    refine g_iald cx dX10_rest_76 rfl hc1 (x := (I 161 ((y1).toNatClampNeg))) rfl ?_
    refine g_icmp_ge cx (tgt := 222) dX10_rest_77 rfl (fun c2 => ?_) (fun c2 => ?_)
    · have h := zifp c2 h
      refine g_iconst cx dX10_rest_222 ic_m1 ?_
      exact g_wi cx hE dX10_rest_223 rfl rfl hP h
    · have h := zifn c2 h
      refine g_iload_n cx dX10_rest_80 rfl ?_
      refine g_iconst cx dX10_rest_81 ic_1 ?_
      refine g_iadd cx dX10_rest_82 ?_
      refine g_bipush cx dX10_rest_83 bp_7 ?_
      refine g_iload cx dX10_rest_85 rfl ?_
      refine g_imul cx dX10_rest_87 ?_
      refine g_iadd cx dX10_rest_88 ?_
      refine g_istore cx dX10_rest_89 (Nat.le_of_ble_eq_true rfl) (Gx.L [.ref 155, .int y1, .int y2, .float 0, .float 0, .int y5, .int ((y2 + 1) + (7 * y5))] rfl ?_)
      refine g_aload_n cx dX10_rest_91 rfl ?_
      refine g_getR cx lk_X10_32 rfl (Nat.le_of_ble_eq_true rfl) rfl dX10_rest_92 (v := 162) (pst hP 161 rfl) ?_
      refine g_bipush cx dX10_rest_95 bp_8 ?_
      refine g_iload_n cx dX10_rest_97 rfl ?_
      refine g_imul cx dX10_rest_98 ?_
      refine g_iload cx dX10_rest_99 rfl ?_
      refine g_iadd cx dX10_rest_101 ?_
      refine g_sipush cx dX10_rest_102 sp_256 ?_
      refine g_aload_n cx dX10_rest_105 rfl ?_
      refine g_getR cx lk_X10_7 rfl (Nat.le_of_ble_eq_true rfl) rfl dX10_rest_106 (v := 156) (pst hP 155 rfl) ?_
      refine g_iload cx dX10_rest_109 rfl ?_
      obtain ⟨hc3, h⟩ := h
      refine g_iald cx dX10_rest_111 rfl hc3 (x := (I 156 ((((y2 + 1) + (7 * y5))).toNatClampNeg))) rfl ?_
      refine g_imul cx dX10_rest_112 ?_
      refine g_aload_n cx dX10_rest_113 rfl ?_
      refine g_getR cx lk_X10_7 rfl (Nat.le_of_ble_eq_true rfl) rfl dX10_rest_114 (v := 156) (pst hP 155 rfl) ?_
      refine g_iload cx dX10_rest_117 rfl ?_
      refine Gx.N 119 rfl ?_
      refine g_iconst cx dX10_rest_119 ic_1 ?_
      refine g_iadd cx dX10_rest_120 ?_
      obtain ⟨hc4, h⟩ := h
      refine g_iald cx dX10_rest_121 rfl hc4 (x := (I 156 (((((y2 + 1) + (7 * y5)) + 1)).toNatClampNeg))) rfl ?_
      refine g_iadd cx dX10_rest_122 ?_
      obtain ⟨hc5, h⟩ := h
      refine g_iast cx dX10_rest_123 rfl hc5 ?_
      refine g_aload_n cx dX10_rest_124 rfl ?_
      refine g_getR cx lk_X10_35 rfl (Nat.le_of_ble_eq_true rfl) rfl dX10_rest_125 (v := 163) (pst hP 162 rfl) ?_
      refine g_bipush cx dX10_rest_128 bp_8 ?_
      refine g_iload_n cx dX10_rest_130 rfl ?_
      refine g_imul cx dX10_rest_131 ?_
      refine g_iload cx dX10_rest_132 rfl ?_
      refine g_iadd cx dX10_rest_134 ?_
      refine g_sipush cx dX10_rest_135 sp_256 ?_
      refine g_aload_n cx dX10_rest_138 rfl ?_
      refine g_getR cx lk_X10_7 rfl (Nat.le_of_ble_eq_true rfl) rfl dX10_rest_139 (v := 156) (pst hP 155 rfl) ?_
      refine g_iload cx dX10_rest_142 rfl ?_
      refine g_iconst cx dX10_rest_144 ic_2 ?_
      refine g_iadd cx dX10_rest_145 ?_
      obtain ⟨hc6, h⟩ := h
      refine g_iald cx dX10_rest_146 rfl hc6 (x := ((zu I 162 ((((8 * y1) + y5)).toNatClampNeg) ((256 * (I 156 ((((y2 + 1) + (7 * y5))).toNatClampNeg))) + (I 156 (((((y2 + 1) + (7 * y5)) + 1)).toNatClampNeg)))) 156 (((((y2 + 1) + (7 * y5)) + 2)).toNatClampNeg))) rfl ?_
      refine g_imul cx dX10_rest_147 ?_
      refine g_aload_n cx dX10_rest_148 rfl ?_
      refine g_getR cx lk_X10_7 rfl (Nat.le_of_ble_eq_true rfl) rfl dX10_rest_149 (v := 156) (pst hP 155 rfl) ?_
      refine g_iload cx dX10_rest_152 rfl ?_
      refine g_iconst cx dX10_rest_154 ic_3 ?_
      refine g_iadd cx dX10_rest_155 ?_
      refine Gx.N 156 rfl ?_
      obtain ⟨hc7, h⟩ := h
      refine g_iald cx dX10_rest_156 rfl hc7 (x := ((zu I 162 ((((8 * y1) + y5)).toNatClampNeg) ((256 * (I 156 ((((y2 + 1) + (7 * y5))).toNatClampNeg))) + (I 156 (((((y2 + 1) + (7 * y5)) + 1)).toNatClampNeg)))) 156 (((((y2 + 1) + (7 * y5)) + 3)).toNatClampNeg))) rfl ?_
      refine g_iadd cx dX10_rest_157 ?_
      obtain ⟨hc8, h⟩ := h
      refine g_iast cx dX10_rest_158 rfl hc8 ?_
      refine g_aload_n cx dX10_rest_159 rfl ?_
      refine g_getR cx lk_X10_38 rfl (Nat.le_of_ble_eq_true rfl) rfl dX10_rest_160 (v := 164) (pst hP 163 rfl) ?_
      refine g_bipush cx dX10_rest_163 bp_8 ?_
      refine g_iload_n cx dX10_rest_165 rfl ?_
      refine g_imul cx dX10_rest_166 ?_
      refine g_iload cx dX10_rest_167 rfl ?_
      refine g_iadd cx dX10_rest_169 ?_
      refine g_sipush cx dX10_rest_170 sp_256 ?_
      refine g_aload_n cx dX10_rest_173 rfl ?_
      refine g_getR cx lk_X10_7 rfl (Nat.le_of_ble_eq_true rfl) rfl dX10_rest_174 (v := 156) (pst hP 155 rfl) ?_
      refine g_iload cx dX10_rest_177 rfl ?_
      refine g_iconst cx dX10_rest_179 ic_4 ?_
      refine g_iadd cx dX10_rest_180 ?_
      obtain ⟨hc9, h⟩ := h
      refine g_iald cx dX10_rest_181 rfl hc9 (x := ((zu (zu I 162 ((((8 * y1) + y5)).toNatClampNeg) ((256 * (I 156 ((((y2 + 1) + (7 * y5))).toNatClampNeg))) + (I 156 (((((y2 + 1) + (7 * y5)) + 1)).toNatClampNeg)))) 163 ((((8 * y1) + y5)).toNatClampNeg) ((256 * ((zu I 162 ((((8 * y1) + y5)).toNatClampNeg) ((256 * (I 156 ((((y2 + 1) + (7 * y5))).toNatClampNeg))) + (I 156 (((((y2 + 1) + (7 * y5)) + 1)).toNatClampNeg)))) 156 (((((y2 + 1) + (7 * y5)) + 2)).toNatClampNeg))) + ((zu I 162 ((((8 * y1) + y5)).toNatClampNeg) ((256 * (I 156 ((((y2 + 1) + (7 * y5))).toNatClampNeg))) + (I 156 (((((y2 + 1) + (7 * y5)) + 1)).toNatClampNeg)))) 156 (((((y2 + 1) + (7 * y5)) + 3)).toNatClampNeg)))) 156 (((((y2 + 1) + (7 * y5)) + 4)).toNatClampNeg))) rfl ?_
      refine g_imul cx dX10_rest_182 ?_
      refine g_aload_n cx dX10_rest_183 rfl ?_
      refine g_getR cx lk_X10_7 rfl (Nat.le_of_ble_eq_true rfl) rfl dX10_rest_184 (v := 156) (pst hP 155 rfl) ?_
      refine g_iload cx dX10_rest_187 rfl ?_
      refine g_iconst cx dX10_rest_189 ic_5 ?_
      refine g_iadd cx dX10_rest_190 ?_
      obtain ⟨hc10, h⟩ := h
      refine g_iald cx dX10_rest_191 rfl hc10 (x := ((zu (zu I 162 ((((8 * y1) + y5)).toNatClampNeg) ((256 * (I 156 ((((y2 + 1) + (7 * y5))).toNatClampNeg))) + (I 156 (((((y2 + 1) + (7 * y5)) + 1)).toNatClampNeg)))) 163 ((((8 * y1) + y5)).toNatClampNeg) ((256 * ((zu I 162 ((((8 * y1) + y5)).toNatClampNeg) ((256 * (I 156 ((((y2 + 1) + (7 * y5))).toNatClampNeg))) + (I 156 (((((y2 + 1) + (7 * y5)) + 1)).toNatClampNeg)))) 156 (((((y2 + 1) + (7 * y5)) + 2)).toNatClampNeg))) + ((zu I 162 ((((8 * y1) + y5)).toNatClampNeg) ((256 * (I 156 ((((y2 + 1) + (7 * y5))).toNatClampNeg))) + (I 156 (((((y2 + 1) + (7 * y5)) + 1)).toNatClampNeg)))) 156 (((((y2 + 1) + (7 * y5)) + 3)).toNatClampNeg)))) 156 (((((y2 + 1) + (7 * y5)) + 5)).toNatClampNeg))) rfl ?_
      refine g_iadd cx dX10_rest_192 ?_
      refine Gx.N 193 rfl ?_
      obtain ⟨hc11, h⟩ := h
      refine g_iast cx dX10_rest_193 rfl hc11 ?_
      refine g_aload_n cx dX10_rest_194 rfl ?_
      refine g_getR cx lk_X10_41 rfl (Nat.le_of_ble_eq_true rfl) rfl dX10_rest_195 (v := 165) (pst hP 164 rfl) ?_
      refine g_bipush cx dX10_rest_198 bp_8 ?_
      refine g_iload_n cx dX10_rest_200 rfl ?_
      refine g_imul cx dX10_rest_201 ?_
      refine g_iload cx dX10_rest_202 rfl ?_
      refine g_iadd cx dX10_rest_204 ?_
      refine g_aload_n cx dX10_rest_205 rfl ?_
      refine g_getR cx lk_X10_7 rfl (Nat.le_of_ble_eq_true rfl) rfl dX10_rest_206 (v := 156) (pst hP 155 rfl) ?_
      refine g_iload cx dX10_rest_209 rfl ?_
      refine g_bipush cx dX10_rest_211 bp_6 ?_
      refine g_iadd cx dX10_rest_213 ?_
      obtain ⟨hc12, h⟩ := h
      refine g_iald cx dX10_rest_214 rfl hc12 (x := ((zu (zu (zu I 162 ((((8 * y1) + y5)).toNatClampNeg) ((256 * (I 156 ((((y2 + 1) + (7 * y5))).toNatClampNeg))) + (I 156 (((((y2 + 1) + (7 * y5)) + 1)).toNatClampNeg)))) 163 ((((8 * y1) + y5)).toNatClampNeg) ((256 * ((zu I 162 ((((8 * y1) + y5)).toNatClampNeg) ((256 * (I 156 ((((y2 + 1) + (7 * y5))).toNatClampNeg))) + (I 156 (((((y2 + 1) + (7 * y5)) + 1)).toNatClampNeg)))) 156 (((((y2 + 1) + (7 * y5)) + 2)).toNatClampNeg))) + ((zu I 162 ((((8 * y1) + y5)).toNatClampNeg) ((256 * (I 156 ((((y2 + 1) + (7 * y5))).toNatClampNeg))) + (I 156 (((((y2 + 1) + (7 * y5)) + 1)).toNatClampNeg)))) 156 (((((y2 + 1) + (7 * y5)) + 3)).toNatClampNeg)))) 164 ((((8 * y1) + y5)).toNatClampNeg) ((256 * ((zu (zu I 162 ((((8 * y1) + y5)).toNatClampNeg) ((256 * (I 156 ((((y2 + 1) + (7 * y5))).toNatClampNeg))) + (I 156 (((((y2 + 1) + (7 * y5)) + 1)).toNatClampNeg)))) 163 ((((8 * y1) + y5)).toNatClampNeg) ((256 * ((zu I 162 ((((8 * y1) + y5)).toNatClampNeg) ((256 * (I 156 ((((y2 + 1) + (7 * y5))).toNatClampNeg))) + (I 156 (((((y2 + 1) + (7 * y5)) + 1)).toNatClampNeg)))) 156 (((((y2 + 1) + (7 * y5)) + 2)).toNatClampNeg))) + ((zu I 162 ((((8 * y1) + y5)).toNatClampNeg) ((256 * (I 156 ((((y2 + 1) + (7 * y5))).toNatClampNeg))) + (I 156 (((((y2 + 1) + (7 * y5)) + 1)).toNatClampNeg)))) 156 (((((y2 + 1) + (7 * y5)) + 3)).toNatClampNeg)))) 156 (((((y2 + 1) + (7 * y5)) + 4)).toNatClampNeg))) + ((zu (zu I 162 ((((8 * y1) + y5)).toNatClampNeg) ((256 * (I 156 ((((y2 + 1) + (7 * y5))).toNatClampNeg))) + (I 156 (((((y2 + 1) + (7 * y5)) + 1)).toNatClampNeg)))) 163 ((((8 * y1) + y5)).toNatClampNeg) ((256 * ((zu I 162 ((((8 * y1) + y5)).toNatClampNeg) ((256 * (I 156 ((((y2 + 1) + (7 * y5))).toNatClampNeg))) + (I 156 (((((y2 + 1) + (7 * y5)) + 1)).toNatClampNeg)))) 156 (((((y2 + 1) + (7 * y5)) + 2)).toNatClampNeg))) + ((zu I 162 ((((8 * y1) + y5)).toNatClampNeg) ((256 * (I 156 ((((y2 + 1) + (7 * y5))).toNatClampNeg))) + (I 156 (((((y2 + 1) + (7 * y5)) + 1)).toNatClampNeg)))) 156 (((((y2 + 1) + (7 * y5)) + 3)).toNatClampNeg)))) 156 (((((y2 + 1) + (7 * y5)) + 5)).toNatClampNeg)))) 156 (((((y2 + 1) + (7 * y5)) + 6)).toNatClampNeg))) rfl ?_
      obtain ⟨hc13, h⟩ := h
      refine g_iast cx dX10_rest_215 rfl hc13 ?_
      refine g_iinc cx (v := (y5 + 1)) dX10_rest_216 rfl rfl (Nat.le_of_ble_eq_true rfl) (Gx.L [.ref 155, .int y1, .int y2, .float 0, .float 0, .int (y5 + 1), .int ((y2 + 1) + (7 * y5))] rfl ?_)
      refine g_goto cx (tgt := 69) dX10_rest_219 rfl ?_
      refine (Gx.unset 6 (Gx.L [.ref 155, .int y1, .int y2, .float 0, .float 0, .int (y5 + 1), .float 0] rfl ?_))
      exact ih _ _ _ _ _ hP h
def w_X10_rest (x1 : Int32) (x2 : Int32) (x3 : Int32) (I : zI) (P : zP) (K : Int32 → zI → zP → Prop) : Prop := if x2 < x3 then (vp_in x2 600 ∧ (vp_in x1 6 ∧ (vp_in x1 6 ∧ (if ((zu I 161 ((x1).toNatClampNeg) (I 156 ((x2).toNatClampNeg))) 161 ((x1).toNatClampNeg)) ≤ 8 then (vp_in x1 6 ∧ (if x3 = ((x2 + 1) + (7 * ((zu I 161 ((x1).toNatClampNeg) (I 156 ((x2).toNatClampNeg))) 161 ((x1).toNatClampNeg)))) then (∃ n9, l_X10_rest_69 K n9 x1 x2 0 (zu I 161 ((x1).toNatClampNeg) (I 156 ((x2).toNatClampNeg))) P) else (if ((x2 + 1) + (7 * ((zu I 161 ((x1).toNatClampNeg) (I 156 ((x2).toNatClampNeg))) 161 ((x1).toNatClampNeg)))) ≤ x3 then (K ((x2 + 1) + (7 * ((zu I 161 ((x1).toNatClampNeg) (I 156 ((x2).toNatClampNeg))) 161 ((x1).toNatClampNeg)))) (zu I 161 ((x1).toNatClampNeg) (I 156 ((x2).toNatClampNeg))) P) else (K x3 (zu I 161 ((x1).toNatClampNeg) (I 156 ((x2).toNatClampNeg))) P)))) else (K x2 (zu I 161 ((x1).toNatClampNeg) (I 156 ((x2).toNatClampNeg))) P))))) else (K x3 I P)
theorem e_X10_rest {x1 : Int32} {x2 : Int32} {x3 : Int32} {I : zI} {P : zP} {K : Int32 → zI → zP → Prop} (hP : PSt P) (h : w_X10_rest x1 x2 x3 I P K) : Ev yX10_rest cX10_rest 7 (some .int) 0 0 0 0 [.ref 155, .int x1, .int x2, .int x3] SHy I P (zKi K) := by
  refine Ev.start [.ref 155, .int x1, .int x2, .int x3, .float 0, .float 0, .float 0] pn_X10 rfl (Nat.le_of_ble_eq_true rfl) rfl (fun κ cx hE => ?_)
  unfold w_X10_rest at h
  refine g_iload_n cx dX10_rest_0 rfl ?_
  refine g_iload_n cx dX10_rest_1 rfl ?_
  refine g_icmp_lt cx (tgt := 7) dX10_rest_2 rfl (fun c1 => ?_) (fun c1 => ?_)
  · have h := zifp c1 h
    refine g_aload_n cx dX10_rest_7 rfl ?_
    refine g_getR cx lk_X10_29 rfl (Nat.le_of_ble_eq_true rfl) rfl dX10_rest_8 (v := 161) (pst hP 160 rfl) ?_
    refine g_iload_n cx dX10_rest_11 rfl ?_
    refine g_aload_n cx dX10_rest_12 rfl ?_
    refine g_getR cx lk_X10_7 rfl (Nat.le_of_ble_eq_true rfl) rfl dX10_rest_13 (v := 156) (pst hP 155 rfl) ?_
    refine g_iload_n cx dX10_rest_16 rfl ?_
    obtain ⟨hc2, h⟩ := h
    refine g_iald cx dX10_rest_17 rfl hc2 (x := (I 156 ((x2).toNatClampNeg))) rfl ?_
    obtain ⟨hc3, h⟩ := h
    refine g_iast cx dX10_rest_18 rfl hc3 ?_
    refine g_aload_n cx dX10_rest_19 rfl ?_
    refine g_getR cx lk_X10_29 rfl (Nat.le_of_ble_eq_true rfl) rfl dX10_rest_20 (v := 161) (pst hP 160 rfl) ?_
    refine g_iload_n cx dX10_rest_23 rfl ?_
    obtain ⟨hc4, h⟩ := h
    refine g_iald cx dX10_rest_24 rfl hc4 (x := ((zu I 161 ((x1).toNatClampNeg) (I 156 ((x2).toNatClampNeg))) 161 ((x1).toNatClampNeg))) rfl ?_
    refine g_bipush cx dX10_rest_25 bp_8 ?_
    refine g_icmp_le cx (tgt := 32) dX10_rest_27 rfl (fun c5 => ?_) (fun c5 => ?_)
    · have h := zifp c5 h
      refine g_iload_n cx dX10_rest_32 rfl ?_
      refine g_iconst cx dX10_rest_33 ic_1 ?_
      refine g_iadd cx dX10_rest_34 ?_
      refine g_bipush cx dX10_rest_35 bp_7 ?_
      refine g_aload_n cx dX10_rest_37 rfl ?_
      refine g_getR cx lk_X10_29 rfl (Nat.le_of_ble_eq_true rfl) rfl dX10_rest_38 (v := 161) (pst hP 160 rfl) ?_
      refine g_iload_n cx dX10_rest_41 rfl ?_
      obtain ⟨hc6, h⟩ := h
      refine g_iald cx dX10_rest_42 rfl hc6 (x := ((zu I 161 ((x1).toNatClampNeg) (I 156 ((x2).toNatClampNeg))) 161 ((x1).toNatClampNeg))) rfl ?_
      refine g_imul cx dX10_rest_43 ?_
      refine g_iadd cx dX10_rest_44 ?_
      refine g_istore cx dX10_rest_45 (Nat.le_of_ble_eq_true rfl) (Gx.L [.ref 155, .int x1, .int x2, .int x3, .int ((x2 + 1) + (7 * ((zu I 161 ((x1).toNatClampNeg) (I 156 ((x2).toNatClampNeg))) 161 ((x1).toNatClampNeg)))), .float 0, .float 0] rfl ?_)
      refine g_iload_n cx dX10_rest_47 rfl ?_
      refine g_iload cx dX10_rest_48 rfl ?_
      refine g_icmp_eq cx (tgt := 66) dX10_rest_50 rfl (fun c7 => ?_) (fun c7 => ?_)
      · have h := zifp c7 h
        refine g_iconst cx dX10_rest_66 ic_0 ?_
        refine g_istore cx dX10_rest_67 (Nat.le_of_ble_eq_true rfl) (Gx.L [.ref 155, .int x1, .int x2, .int x3, .int ((x2 + 1) + (7 * ((zu I 161 ((x1).toNatClampNeg) (I 156 ((x2).toNatClampNeg))) 161 ((x1).toNatClampNeg)))), .int 0, .float 0] rfl ?_)
        refine (Gx.unset 3 (Gx.unset 4 (Gx.L [.ref 155, .int x1, .int x2, .float 0, .float 0, .int 0, .float 0] rfl ?_)))
        obtain ⟨n9, h⟩ := h
        exact gl_X10_rest_69 cx hE n9 _ _ _ _ _ hP h
      · have h := zifn c7 h
        refine g_iload_n cx dX10_rest_53 rfl ?_
        refine g_iload cx dX10_rest_54 rfl ?_
        refine g_icmp_ge cx (tgt := 63) dX10_rest_56 rfl (fun c8 => ?_) (fun c8 => ?_)
        · have h := zifp c8 h
          refine g_iload cx dX10_rest_63 rfl ?_
          exact g_wi cx hE dX10_rest_65 rfl rfl hP h
        · have h := zifn c8 h
          refine g_iload_n cx dX10_rest_59 rfl ?_
          refine g_goto cx (tgt := 65) dX10_rest_60 rfl ?_
          exact g_wi cx hE dX10_rest_65 rfl rfl hP h
    · have h := zifn c5 h
      refine g_iload_n cx dX10_rest_30 rfl ?_
      exact g_wi cx hE dX10_rest_31 rfl rfl hP h
  · have h := zifn c1 h
    refine g_iload_n cx dX10_rest_5 rfl ?_
    exact g_wi cx hE dX10_rest_6 rfl rfl hP h
