def w_X2_doMemory (x1 : Nat) (x2 : Int32) (I : zI) (P : zP) (K : zI → zP → Prop) : Prop := if x2 = 34 then (SHy[x1]? = some (0, 6) ∧ (w_X0_operand x1 I P (fun (v3 : Int32) (I3 : zI) (P3 : zP) => (w_X2_fieldCell v3 I3 P3 (fun (v4 : Int32) (I4 : zI) (P4 : zP) => (w_X2_cellInt v4 I4 P4 (fun (v5 : Int32) (I5 : zI) (P5 : zP) => (w_X0_push x1 v5 I5 P5 (fun (I6 : zI) (P6 : zP) => (K I6 P6)))))))))) else (if x2 = 35 then (SHy[x1]? = some (0, 6) ∧ (w_X0_operand x1 I P (fun (v9 : Int32) (I9 : zI) (P9 : zP) => (w_X2_fieldCell v9 I9 P9 (fun (v10 : Int32) (I10 : zI) (P10 : zP) => (w_X0_pop x1 I10 P10 (fun (v11 : Int32) (I11 : zI) (P11 : zP) => (w_X2_setCell v10 v11 I11 P11 (fun (I12 : zI) (P12 : zP) => (K I12 P12)))))))))) else (if x2 = 36 then (w_X2_makeRow x1 I P (fun (I14 : zI) (P14 : zP) => (K I14 P14))) else (if x2 = 37 then (SHy[x1]? = some (0, 6) ∧ (w_X0_pop x1 I P (fun (v17 : Int32) (I17 : zI) (P17 : zP) => (w_X2_sizeOfRow v17 I17 P17 (fun (v18 : Int32) (I18 : zI) (P18 : zP) => (w_X0_push x1 v18 I18 P18 (fun (I19 : zI) (P19 : zP) => (K I19 P19)))))))) else (if x2 = 38 then (w_X2_takeFromRow x1 I P (fun (I21 : zI) (P21 : zP) => (K I21 P21))) else (if x2 = 39 then (w_X2_layInRow x1 I P (fun (I23 : zI) (P23 : zP) => (K I23 P23))) else (if x2 = 40 then (K I P) else (if x2 = 41 then (K I P) else (if x2 = 42 then (K I P) else (if x2 = 43 then (∃ v28, P 114 6 = some v28 ∧ (SHy[x1]? = some (0, 6) ∧ (w_X0_pop x1 I P (fun (v31 : Int32) (I31 : zI) (P31 : zP) => (SHy[v28]? = some (6, 13) ∧ (w_X6_addMark v28 v31 I31 P31 (fun (I33 : zI) (P33 : zP) => (K I33 P33)))))))) else (K I P))))))))))
theorem e_X2_doMemory {x1 : Nat} {x2 : Int32} {I : zI} {P : zP} {K : zI → zP → Prop} (hP : PSt P) (h : w_X2_doMemory x1 x2 I P K) : Ev yX2_doMemory cX2_doMemory 3 none 3 70 0 0 [.ref 114, .ref x1, .int x2] SHy I P (zKv K) := by
  refine Ev.start [.ref 114, .ref x1, .int x2] pn_X2 rfl (Nat.le_of_ble_eq_true rfl) rfl (fun κ cx hE => ?_)
  unfold w_X2_doMemory at h
  refine g_iload_n cx dX2_doMemory_0 rfl ?_
  by_cases c1 : x2 = 34
  · have h := zifp c1 h
    refine g_tabIn cx (tgt := 56) (off := 55) dX2_doMemory_1 (by rw [c1]; decide) (by rw [c1]; decide) (by rw [c1]; rfl) rfl ?_
    refine g_aload_n cx dX2_doMemory_56 rfl ?_
    refine g_aload_n cx dX2_doMemory_57 rfl ?_
    refine g_aload_n cx dX2_doMemory_58 rfl ?_
    obtain ⟨hs2, h⟩ := h
    refine g_wVi cx [] [.ref 114, .ref x1] (e_X0_operand hP h) mt_X0_operand ml_X2_227 hs2 rfl rfl dX2_doMemory_59 rfl rfl (Nat.le_of_ble_eq_true rfl) (Nat.le_of_ble_eq_true rfl) (Nat.le_of_ble_eq_true rfl) (fun v3 I3 P3 hP h => ?_)
    refine g_wSi cx [.int v3] [.ref 114, .ref x1] (e_X2_fieldCell hP h) mt_X2_fieldCell ml_X2_253 dX2_doMemory_62 rfl rfl (Nat.le_of_ble_eq_true rfl) (Nat.le_of_ble_eq_true rfl) (Nat.le_of_ble_eq_true rfl) (fun v4 I4 P4 hP h => ?_)
    refine g_wVi cx [.int v4] [.ref x1] (e_X2_cellInt hP h) mt_X2_cellInt ml_X2_256 rfl rfl rfl dX2_doMemory_65 rfl rfl (Nat.le_of_ble_eq_true rfl) (Nat.le_of_ble_eq_true rfl) (Nat.le_of_ble_eq_true rfl) (fun v5 I5 P5 hP h => ?_)
    refine g_wVv cx [.int v5] [] (e_X0_push hP h) mt_X0_push ml_X2_233 hs2 rfl rfl dX2_doMemory_68 rfl rfl (Nat.le_of_ble_eq_true rfl) (Nat.le_of_ble_eq_true rfl) (Nat.le_of_ble_eq_true rfl) (fun I6 P6 hP h => ?_)
    refine g_goto cx (tgt := 145) dX2_doMemory_71 rfl ?_
    exact g_wv cx hE dX2_doMemory_145 rfl hP h
  · have h := zifn c1 h
    by_cases c7 : x2 = 35
    · have h := zifp c7 h
      refine g_tabIn cx (tgt := 74) (off := 73) dX2_doMemory_1 (by rw [c7]; decide) (by rw [c7]; decide) (by rw [c7]; rfl) rfl ?_
      refine g_aload_n cx dX2_doMemory_74 rfl ?_
      refine g_aload_n cx dX2_doMemory_75 rfl ?_
      obtain ⟨hs8, h⟩ := h
      refine g_wVi cx [] [.ref 114] (e_X0_operand hP h) mt_X0_operand ml_X2_227 hs8 rfl rfl dX2_doMemory_76 rfl rfl (Nat.le_of_ble_eq_true rfl) (Nat.le_of_ble_eq_true rfl) (Nat.le_of_ble_eq_true rfl) (fun v9 I9 P9 hP h => ?_)
      refine g_wSi cx [.int v9] [.ref 114] (e_X2_fieldCell hP h) mt_X2_fieldCell ml_X2_253 dX2_doMemory_79 rfl rfl (Nat.le_of_ble_eq_true rfl) (Nat.le_of_ble_eq_true rfl) (Nat.le_of_ble_eq_true rfl) (fun v10 I10 P10 hP h => ?_)
      refine g_aload_n cx dX2_doMemory_82 rfl ?_
      refine g_wVi cx [] [.int v10, .ref 114] (e_X0_pop hP h) mt_X0_pop ml_X2_215 hs8 rfl rfl dX2_doMemory_83 rfl rfl (Nat.le_of_ble_eq_true rfl) (Nat.le_of_ble_eq_true rfl) (Nat.le_of_ble_eq_true rfl) (fun v11 I11 P11 hP h => ?_)
      refine g_wVv cx [.int v10, .int v11] [] (e_X2_setCell hP h) mt_X2_setCell ml_X2_259 rfl rfl rfl dX2_doMemory_86 rfl rfl (Nat.le_of_ble_eq_true rfl) (Nat.le_of_ble_eq_true rfl) (Nat.le_of_ble_eq_true rfl) (fun I12 P12 hP h => ?_)
      refine g_goto cx (tgt := 145) dX2_doMemory_89 rfl ?_
      exact g_wv cx hE dX2_doMemory_145 rfl hP h
    · have h := zifn c7 h
      by_cases c13 : x2 = 36
      · have h := zifp c13 h
        refine g_tabIn cx (tgt := 92) (off := 91) dX2_doMemory_1 (by rw [c13]; decide) (by rw [c13]; decide) (by rw [c13]; rfl) rfl ?_
        refine g_aload_n cx dX2_doMemory_92 rfl ?_
        refine g_aload_n cx dX2_doMemory_93 rfl ?_
        refine g_wVv cx [.ref x1] [] (e_X2_makeRow hP h) mt_X2_makeRow ml_X2_262 rfl rfl rfl dX2_doMemory_94 rfl rfl (Nat.le_of_ble_eq_true rfl) (Nat.le_of_ble_eq_true rfl) (Nat.le_of_ble_eq_true rfl) (fun I14 P14 hP h => ?_)
        refine g_goto cx (tgt := 145) dX2_doMemory_97 rfl ?_
        exact g_wv cx hE dX2_doMemory_145 rfl hP h
      · have h := zifn c13 h
        by_cases c15 : x2 = 37
        · have h := zifp c15 h
          refine g_tabIn cx (tgt := 100) (off := 99) dX2_doMemory_1 (by rw [c15]; decide) (by rw [c15]; decide) (by rw [c15]; rfl) rfl ?_
          refine g_aload_n cx dX2_doMemory_100 rfl ?_
          refine g_aload_n cx dX2_doMemory_101 rfl ?_
          refine g_aload_n cx dX2_doMemory_102 rfl ?_
          obtain ⟨hs16, h⟩ := h
          refine g_wVi cx [] [.ref 114, .ref x1] (e_X0_pop hP h) mt_X0_pop ml_X2_215 hs16 rfl rfl dX2_doMemory_103 rfl rfl (Nat.le_of_ble_eq_true rfl) (Nat.le_of_ble_eq_true rfl) (Nat.le_of_ble_eq_true rfl) (fun v17 I17 P17 hP h => ?_)
          refine g_wVi cx [.int v17] [.ref x1] (e_X2_sizeOfRow hP h) mt_X2_sizeOfRow ml_X2_265 rfl rfl rfl dX2_doMemory_106 rfl rfl (Nat.le_of_ble_eq_true rfl) (Nat.le_of_ble_eq_true rfl) (Nat.le_of_ble_eq_true rfl) (fun v18 I18 P18 hP h => ?_)
          refine g_wVv cx [.int v18] [] (e_X0_push hP h) mt_X0_push ml_X2_233 hs16 rfl rfl dX2_doMemory_109 rfl rfl (Nat.le_of_ble_eq_true rfl) (Nat.le_of_ble_eq_true rfl) (Nat.le_of_ble_eq_true rfl) (fun I19 P19 hP h => ?_)
          refine g_goto cx (tgt := 145) dX2_doMemory_112 rfl ?_
          exact g_wv cx hE dX2_doMemory_145 rfl hP h
        · have h := zifn c15 h
          by_cases c20 : x2 = 38
          · have h := zifp c20 h
            refine g_tabIn cx (tgt := 115) (off := 114) dX2_doMemory_1 (by rw [c20]; decide) (by rw [c20]; decide) (by rw [c20]; rfl) rfl ?_
            refine g_aload_n cx dX2_doMemory_115 rfl ?_
            refine g_aload_n cx dX2_doMemory_116 rfl ?_
            refine g_wVv cx [.ref x1] [] (e_X2_takeFromRow hP h) mt_X2_takeFromRow ml_X2_268 rfl rfl rfl dX2_doMemory_117 rfl rfl (Nat.le_of_ble_eq_true rfl) (Nat.le_of_ble_eq_true rfl) (Nat.le_of_ble_eq_true rfl) (fun I21 P21 hP h => ?_)
            refine g_goto cx (tgt := 145) dX2_doMemory_120 rfl ?_
            exact g_wv cx hE dX2_doMemory_145 rfl hP h
          · have h := zifn c20 h
            by_cases c22 : x2 = 39
            · have h := zifp c22 h
              refine g_tabIn cx (tgt := 123) (off := 122) dX2_doMemory_1 (by rw [c22]; decide) (by rw [c22]; decide) (by rw [c22]; rfl) rfl ?_
              refine g_aload_n cx dX2_doMemory_123 rfl ?_
              refine g_aload_n cx dX2_doMemory_124 rfl ?_
              refine g_wVv cx [.ref x1] [] (e_X2_layInRow hP h) mt_X2_layInRow ml_X2_271 rfl rfl rfl dX2_doMemory_125 rfl rfl (Nat.le_of_ble_eq_true rfl) (Nat.le_of_ble_eq_true rfl) (Nat.le_of_ble_eq_true rfl) (fun I23 P23 hP h => ?_)
              refine g_goto cx (tgt := 145) dX2_doMemory_128 rfl ?_
              exact g_wv cx hE dX2_doMemory_145 rfl hP h
            · have h := zifn c22 h
              by_cases c24 : x2 = 40
              · have h := zifp c24 h
                refine g_tabIn cx (tgt := 145) (off := 144) dX2_doMemory_1 (by rw [c24]; decide) (by rw [c24]; decide) (by rw [c24]; rfl) rfl ?_
                exact g_wv cx hE dX2_doMemory_145 rfl hP h
              · have h := zifn c24 h
                by_cases c25 : x2 = 41
                · have h := zifp c25 h
                  refine g_tabIn cx (tgt := 145) (off := 144) dX2_doMemory_1 (by rw [c25]; decide) (by rw [c25]; decide) (by rw [c25]; rfl) rfl ?_
                  exact g_wv cx hE dX2_doMemory_145 rfl hP h
                · have h := zifn c25 h
                  by_cases c26 : x2 = 42
                  · have h := zifp c26 h
                    refine g_tabIn cx (tgt := 145) (off := 144) dX2_doMemory_1 (by rw [c26]; decide) (by rw [c26]; decide) (by rw [c26]; rfl) rfl ?_
                    exact g_wv cx hE dX2_doMemory_145 rfl hP h
                  · have h := zifn c26 h
                    by_cases c27 : x2 = 43
                    · have h := zifp c27 h
                      refine g_tabIn cx (tgt := 131) (off := 130) dX2_doMemory_1 (by rw [c27]; decide) (by rw [c27]; decide) (by rw [c27]; rfl) rfl ?_
                      refine g_aload_n cx dX2_doMemory_131 rfl ?_
                      obtain ⟨v28, hv29, h⟩ := h
                      refine g_getR cx lk_X2_67 rfl (Nat.le_of_ble_eq_true rfl) rfl dX2_doMemory_132 hv29 ?_
                      refine g_aload_n cx dX2_doMemory_135 rfl ?_
                      obtain ⟨hs30, h⟩ := h
                      refine g_wVi cx [] [.ref v28] (e_X0_pop hP h) mt_X0_pop ml_X2_215 hs30 rfl rfl dX2_doMemory_136 rfl rfl (Nat.le_of_ble_eq_true rfl) (Nat.le_of_ble_eq_true rfl) (Nat.le_of_ble_eq_true rfl) (fun v31 I31 P31 hP h => ?_)
                      obtain ⟨hs32, h⟩ := h
                      refine g_wVv cx [.int v31] [] (e_X6_addMark hP h) mt_X6_addMark ml_X2_274 hs32 rfl rfl dX2_doMemory_139 rfl rfl (Nat.le_of_ble_eq_true rfl) (Nat.le_of_ble_eq_true rfl) (Nat.le_of_ble_eq_true rfl) (fun I33 P33 hP h => ?_)
                      refine g_goto cx (tgt := 145) dX2_doMemory_142 rfl ?_
                      exact g_wv cx hE dX2_doMemory_145 rfl hP h
                    · have h := zifn c27 h
                      refine g_tabOut cx (tgt := 145) dX2_doMemory_1 (by have q0 : (x2 : Int32).toInt ≠ 34 := i32ne c1; have q1 : (x2 : Int32).toInt ≠ 35 := i32ne c7; have q2 : (x2 : Int32).toInt ≠ 36 := i32ne c13; have q3 : (x2 : Int32).toInt ≠ 37 := i32ne c15; have q4 : (x2 : Int32).toInt ≠ 38 := i32ne c20; have q5 : (x2 : Int32).toInt ≠ 39 := i32ne c22; have q6 : (x2 : Int32).toInt ≠ 40 := i32ne c24; have q7 : (x2 : Int32).toInt ≠ 41 := i32ne c25; have q8 : (x2 : Int32).toInt ≠ 42 := i32ne c26; have q9 : (x2 : Int32).toInt ≠ 43 := i32ne c27; omega) rfl ?_
                      exact g_wv cx hE dX2_doMemory_145 rfl hP h
def w_X9_wordAt (x1 : Nat) (x2 : Int32) (I : zI) (P : zP) (K : Int32 → zI → zP → Prop) : Prop := w_X9_signedPairAt x1 x2 I P (fun (v1 : Int32) (I1 : zI) (P1 : zP) => (w_X9_signedPairAt x1 (x2 + 2) I1 P1 (fun (v2 : Int32) (I2 : zI) (P2 : zP) => (K (((v1 : Int32) <<< ((16 : Int32) &&& 31)) ||| (v2 &&& 65535)) I2 P2))))
theorem e_X9_wordAt {x1 : Nat} {x2 : Int32} {I : zI} {P : zP} {K : Int32 → zI → zP → Prop} (hP : PSt P) (h : w_X9_wordAt x1 x2 I P K) : Ev yX9_wordAt cX9_wordAt 2 (some .int) 1 21 0 0 [.ref x1, .int x2] SHy I P (zKi K) := by
  refine Ev.start [.ref x1, .int x2] pn_X9 rfl (Nat.le_of_ble_eq_true rfl) rfl (fun κ cx hE => ?_)
  unfold w_X9_wordAt at h
  refine g_aload_n cx dX9_wordAt_0 rfl ?_
  refine g_iload_n cx dX9_wordAt_1 rfl ?_
  refine g_wSi cx [.ref x1, .int x2] [] (e_X9_signedPairAt hP h) mt_X9_signedPairAt ml_X9_203 dX9_wordAt_2 rfl rfl (Nat.le_of_ble_eq_true rfl) (Nat.le_of_ble_eq_true rfl) (Nat.le_of_ble_eq_true rfl) (fun v1 I1 P1 hP h => ?_)
  refine g_bipush cx dX9_wordAt_5 bp_16 ?_
  refine g_ishl cx dX9_wordAt_7 ?_
  refine g_aload_n cx dX9_wordAt_8 rfl ?_
  refine g_iload_n cx dX9_wordAt_9 rfl ?_
  refine g_iconst cx dX9_wordAt_10 ic_2 ?_
  refine g_iadd cx dX9_wordAt_11 ?_
  refine g_wSi cx [.ref x1, .int (x2 + 2)] [.int ((v1 : Int32) <<< ((16 : Int32) &&& 31))] (e_X9_signedPairAt hP h) mt_X9_signedPairAt ml_X9_203 dX9_wordAt_12 rfl rfl (Nat.le_of_ble_eq_true rfl) (Nat.le_of_ble_eq_true rfl) (Nat.le_of_ble_eq_true rfl) (fun v2 I2 P2 hP h => ?_)
  refine g_ldc cx dX9_wordAt_15 ldc_X9_206 ?_
  refine g_iand cx dX9_wordAt_17 ?_
  refine g_ior cx dX9_wordAt_18 ?_
  exact g_wi cx hE dX9_wordAt_19 rfl rfl hP h
def w_X2_doMove (x1 : Nat) (x2 : Int32) (I : zI) (P : zP) (K : zI → zP → Prop) : Prop := SHy[x1]? = some (0, 6) ∧ (w_X0_operand x1 I P (fun (v2 : Int32) (I2 : zI) (P2 : zP) => (if x2 = 1 then (w_X0_code x1 I2 P2 (fun (v4 : Nat) (I4 : zI) (P4 : zP) => (w_X9_signedByteAt v4 ((I4 x1 5) + 1) I4 P4 (fun (v5 : Int32) (I5 : zI) (P5 : zP) => (w_X0_push x1 v5 I5 P5 (fun (I6 : zI) (P6 : zP) => (K I6 P6))))))) else (if x2 = 2 then (w_X0_code x1 I2 P2 (fun (v8 : Nat) (I8 : zI) (P8 : zP) => (w_X9_wordAt v8 ((I8 x1 5) + 1) I8 P8 (fun (v9 : Int32) (I9 : zI) (P9 : zP) => (w_X0_push x1 v9 I9 P9 (fun (I10 : zI) (P10 : zP) => (K I10 P10))))))) else (if x2 = 3 then (w_X0_local x1 v2 I2 P2 (fun (v12 : Int32) (I12 : zI) (P12 : zP) => (w_X0_push x1 v12 I12 P12 (fun (I13 : zI) (P13 : zP) => (K I13 P13))))) else (if x2 = 4 then (w_X0_pop x1 I2 P2 (fun (v15 : Int32) (I15 : zI) (P15 : zP) => (w_X0_setLocal x1 v2 v15 I15 P15 (fun (I16 : zI) (P16 : zP) => (K I16 P16))))) else (if x2 = 5 then (w_X0_local x1 v2 I2 P2 (fun (v18 : Int32) (I18 : zI) (P18 : zP) => (w_X0_code x1 I18 P18 (fun (v19 : Nat) (I19 : zI) (P19 : zP) => (w_X9_signedByteAt v19 ((I19 x1 5) + 2) I19 P19 (fun (v20 : Int32) (I20 : zI) (P20 : zP) => (w_X0_setLocal x1 v2 (v18 + v20) I20 P20 (fun (I21 : zI) (P21 : zP) => (K I21 P21))))))))) else (if x2 = 6 then (w_X0_peek x1 0 I2 P2 (fun (v23 : Int32) (I23 : zI) (P23 : zP) => (w_X0_push x1 v23 I23 P23 (fun (I24 : zI) (P24 : zP) => (K I24 P24))))) else (if x2 = 7 then (w_X0_pop x1 I2 P2 (fun (v26 : Int32) (I26 : zI) (P26 : zP) => (K I26 P26))) else (if x2 = 8 then (w_X0_pop x1 I2 P2 (fun (v28 : Int32) (I28 : zI) (P28 : zP) => (w_X0_pop x1 I28 P28 (fun (v29 : Int32) (I29 : zI) (P29 : zP) => (w_X0_push x1 v28 I29 P29 (fun (I30 : zI) (P30 : zP) => (w_X0_push x1 v29 I30 P30 (fun (I31 : zI) (P31 : zP) => (K I31 P31))))))))) else (K I2 P2)))))))))))
theorem e_X2_doMove {x1 : Nat} {x2 : Int32} {I : zI} {P : zP} {K : zI → zP → Prop} (hP : PSt P) (h : w_X2_doMove x1 x2 I P K) : Ev yX2_doMove cX2_doMove 6 none 2 42 0 0 [.ref 114, .ref x1, .int x2] SHy I P (zKv K) := by
  refine Ev.start [.ref 114, .ref x1, .int x2, .float 0, .float 0, .float 0] pn_X2 rfl (Nat.le_of_ble_eq_true rfl) rfl (fun κ cx hE => ?_)
  unfold w_X2_doMove at h
  refine g_aload_n cx dX2_doMove_0 rfl ?_
  obtain ⟨hs1, h⟩ := h
  refine g_wVi cx [] [] (e_X0_operand hP h) mt_X0_operand ml_X2_227 hs1 rfl rfl dX2_doMove_1 rfl rfl (Nat.le_of_ble_eq_true rfl) (Nat.le_of_ble_eq_true rfl) (Nat.le_of_ble_eq_true rfl) (fun v2 I2 P2 hP h => ?_)
  refine g_istore_n cx dX2_doMove_4 (Nat.le_of_ble_eq_true rfl) (Gx.L [.ref 114, .ref x1, .int x2, .int v2, .float 0, .float 0] rfl ?_)
  refine g_iload_n cx dX2_doMove_5 rfl ?_
  by_cases c3 : x2 = 1
  · have h := zifp c3 h
    refine g_tabIn cx (tgt := 52) (off := 46) dX2_doMove_6 (by rw [c3]; decide) (by rw [c3]; decide) (by rw [c3]; rfl) rfl ?_
    refine g_aload_n cx dX2_doMove_52 rfl ?_
    refine g_aload_n cx dX2_doMove_53 rfl ?_
    refine g_wVr cx [] [.ref x1] (e_X0_code hP h) mt_X0_code ml_X2_146 hs1 rfl rfl dX2_doMove_54 rfl rfl (Nat.le_of_ble_eq_true rfl) (Nat.le_of_ble_eq_true rfl) (Nat.le_of_ble_eq_true rfl) (fun v4 I4 P4 hP h => ?_)
    refine g_aload_n cx dX2_doMove_57 rfl ?_
    refine g_getI cx lk_X2_150 hs1 (Nat.le_of_ble_eq_true rfl) rfl dX2_doMove_58 (x := (I4 x1 5)) rfl ?_
    refine g_iconst cx dX2_doMove_61 ic_1 ?_
    refine g_iadd cx dX2_doMove_62 ?_
    refine g_wSi cx [.ref v4, .int ((I4 x1 5) + 1)] [.ref x1] (e_X9_signedByteAt hP h) mt_X9_signedByteAt ml_X2_230 dX2_doMove_63 rfl rfl (Nat.le_of_ble_eq_true rfl) (Nat.le_of_ble_eq_true rfl) (Nat.le_of_ble_eq_true rfl) (fun v5 I5 P5 hP h => ?_)
    refine g_wVv cx [.int v5] [] (e_X0_push hP h) mt_X0_push ml_X2_233 hs1 rfl rfl dX2_doMove_66 rfl rfl (Nat.le_of_ble_eq_true rfl) (Nat.le_of_ble_eq_true rfl) (Nat.le_of_ble_eq_true rfl) (fun I6 P6 hP h => ?_)
    refine g_goto cx (tgt := 190) dX2_doMove_69 rfl ?_
    exact g_wv cx hE dX2_doMove_190 rfl hP h
  · have h := zifn c3 h
    by_cases c7 : x2 = 2
    · have h := zifp c7 h
      refine g_tabIn cx (tgt := 72) (off := 66) dX2_doMove_6 (by rw [c7]; decide) (by rw [c7]; decide) (by rw [c7]; rfl) rfl ?_
      refine g_aload_n cx dX2_doMove_72 rfl ?_
      refine g_aload_n cx dX2_doMove_73 rfl ?_
      refine g_wVr cx [] [.ref x1] (e_X0_code hP h) mt_X0_code ml_X2_146 hs1 rfl rfl dX2_doMove_74 rfl rfl (Nat.le_of_ble_eq_true rfl) (Nat.le_of_ble_eq_true rfl) (Nat.le_of_ble_eq_true rfl) (fun v8 I8 P8 hP h => ?_)
      refine g_aload_n cx dX2_doMove_77 rfl ?_
      refine g_getI cx lk_X2_150 hs1 (Nat.le_of_ble_eq_true rfl) rfl dX2_doMove_78 (x := (I8 x1 5)) rfl ?_
      refine g_iconst cx dX2_doMove_81 ic_1 ?_
      refine g_iadd cx dX2_doMove_82 ?_
      refine g_wSi cx [.ref v8, .int ((I8 x1 5) + 1)] [.ref x1] (e_X9_wordAt hP h) mt_X9_wordAt ml_X2_237 dX2_doMove_83 rfl rfl (Nat.le_of_ble_eq_true rfl) (Nat.le_of_ble_eq_true rfl) (Nat.le_of_ble_eq_true rfl) (fun v9 I9 P9 hP h => ?_)
      refine g_wVv cx [.int v9] [] (e_X0_push hP h) mt_X0_push ml_X2_233 hs1 rfl rfl dX2_doMove_86 rfl rfl (Nat.le_of_ble_eq_true rfl) (Nat.le_of_ble_eq_true rfl) (Nat.le_of_ble_eq_true rfl) (fun I10 P10 hP h => ?_)
      refine g_goto cx (tgt := 190) dX2_doMove_89 rfl ?_
      exact g_wv cx hE dX2_doMove_190 rfl hP h
    · have h := zifn c7 h
      by_cases c11 : x2 = 3
      · have h := zifp c11 h
        refine g_tabIn cx (tgt := 92) (off := 86) dX2_doMove_6 (by rw [c11]; decide) (by rw [c11]; decide) (by rw [c11]; rfl) rfl ?_
        refine g_aload_n cx dX2_doMove_92 rfl ?_
        refine g_aload_n cx dX2_doMove_93 rfl ?_
        refine g_iload_n cx dX2_doMove_94 rfl ?_
        refine g_wVi cx [.int v2] [.ref x1] (e_X0_local hP h) mt_X0_local ml_X2_240 hs1 rfl rfl dX2_doMove_95 rfl rfl (Nat.le_of_ble_eq_true rfl) (Nat.le_of_ble_eq_true rfl) (Nat.le_of_ble_eq_true rfl) (fun v12 I12 P12 hP h => ?_)
        refine g_wVv cx [.int v12] [] (e_X0_push hP h) mt_X0_push ml_X2_233 hs1 rfl rfl dX2_doMove_98 rfl rfl (Nat.le_of_ble_eq_true rfl) (Nat.le_of_ble_eq_true rfl) (Nat.le_of_ble_eq_true rfl) (fun I13 P13 hP h => ?_)
        refine g_goto cx (tgt := 190) dX2_doMove_101 rfl ?_
        exact g_wv cx hE dX2_doMove_190 rfl hP h
      · have h := zifn c11 h
        by_cases c14 : x2 = 4
        · have h := zifp c14 h
          refine g_tabIn cx (tgt := 104) (off := 98) dX2_doMove_6 (by rw [c14]; decide) (by rw [c14]; decide) (by rw [c14]; rfl) rfl ?_
          refine g_aload_n cx dX2_doMove_104 rfl ?_
          refine g_iload_n cx dX2_doMove_105 rfl ?_
          refine g_aload_n cx dX2_doMove_106 rfl ?_
          refine g_wVi cx [] [.int v2, .ref x1] (e_X0_pop hP h) mt_X0_pop ml_X2_215 hs1 rfl rfl dX2_doMove_107 rfl rfl (Nat.le_of_ble_eq_true rfl) (Nat.le_of_ble_eq_true rfl) (Nat.le_of_ble_eq_true rfl) (fun v15 I15 P15 hP h => ?_)
          refine g_wVv cx [.int v2, .int v15] [] (e_X0_setLocal hP h) mt_X0_setLocal ml_X2_97 hs1 rfl rfl dX2_doMove_110 rfl rfl (Nat.le_of_ble_eq_true rfl) (Nat.le_of_ble_eq_true rfl) (Nat.le_of_ble_eq_true rfl) (fun I16 P16 hP h => ?_)
          refine g_goto cx (tgt := 190) dX2_doMove_113 rfl ?_
          exact g_wv cx hE dX2_doMove_190 rfl hP h
        · have h := zifn c14 h
          by_cases c17 : x2 = 5
          · have h := zifp c17 h
            refine g_tabIn cx (tgt := 116) (off := 110) dX2_doMove_6 (by rw [c17]; decide) (by rw [c17]; decide) (by rw [c17]; rfl) rfl ?_
            refine g_aload_n cx dX2_doMove_116 rfl ?_
            refine g_iload_n cx dX2_doMove_117 rfl ?_
            refine g_aload_n cx dX2_doMove_118 rfl ?_
            refine g_iload_n cx dX2_doMove_119 rfl ?_
            refine g_wVi cx [.int v2] [.int v2, .ref x1] (e_X0_local hP h) mt_X0_local ml_X2_240 hs1 rfl rfl dX2_doMove_120 rfl rfl (Nat.le_of_ble_eq_true rfl) (Nat.le_of_ble_eq_true rfl) (Nat.le_of_ble_eq_true rfl) (fun v18 I18 P18 hP h => ?_)
            refine g_aload_n cx dX2_doMove_123 rfl ?_
            refine g_wVr cx [] [.int v18, .int v2, .ref x1] (e_X0_code hP h) mt_X0_code ml_X2_146 hs1 rfl rfl dX2_doMove_124 rfl rfl (Nat.le_of_ble_eq_true rfl) (Nat.le_of_ble_eq_true rfl) (Nat.le_of_ble_eq_true rfl) (fun v19 I19 P19 hP h => ?_)
            refine g_aload_n cx dX2_doMove_127 rfl ?_
            refine g_getI cx lk_X2_150 hs1 (Nat.le_of_ble_eq_true rfl) rfl dX2_doMove_128 (x := (I19 x1 5)) rfl ?_
            refine g_iconst cx dX2_doMove_131 ic_2 ?_
            refine g_iadd cx dX2_doMove_132 ?_
            refine g_wSi cx [.ref v19, .int ((I19 x1 5) + 2)] [.int v18, .int v2, .ref x1] (e_X9_signedByteAt hP h) mt_X9_signedByteAt ml_X2_230 dX2_doMove_133 rfl rfl (Nat.le_of_ble_eq_true rfl) (Nat.le_of_ble_eq_true rfl) (Nat.le_of_ble_eq_true rfl) (fun v20 I20 P20 hP h => ?_)
            refine g_iadd cx dX2_doMove_136 ?_
            refine g_wVv cx [.int v2, .int (v18 + v20)] [] (e_X0_setLocal hP h) mt_X0_setLocal ml_X2_97 hs1 rfl rfl dX2_doMove_137 rfl rfl (Nat.le_of_ble_eq_true rfl) (Nat.le_of_ble_eq_true rfl) (Nat.le_of_ble_eq_true rfl) (fun I21 P21 hP h => ?_)
            refine g_goto cx (tgt := 190) dX2_doMove_140 rfl ?_
            exact g_wv cx hE dX2_doMove_190 rfl hP h
          · have h := zifn c17 h
            by_cases c22 : x2 = 6
            · have h := zifp c22 h
              refine g_tabIn cx (tgt := 143) (off := 137) dX2_doMove_6 (by rw [c22]; decide) (by rw [c22]; decide) (by rw [c22]; rfl) rfl ?_
              refine g_aload_n cx dX2_doMove_143 rfl ?_
              refine g_aload_n cx dX2_doMove_144 rfl ?_
              refine g_iconst cx dX2_doMove_145 ic_0 ?_
              refine g_wVi cx [.int 0] [.ref x1] (e_X0_peek hP h) mt_X0_peek ml_X2_243 hs1 rfl rfl dX2_doMove_146 rfl rfl (Nat.le_of_ble_eq_true rfl) (Nat.le_of_ble_eq_true rfl) (Nat.le_of_ble_eq_true rfl) (fun v23 I23 P23 hP h => ?_)
              refine g_wVv cx [.int v23] [] (e_X0_push hP h) mt_X0_push ml_X2_233 hs1 rfl rfl dX2_doMove_149 rfl rfl (Nat.le_of_ble_eq_true rfl) (Nat.le_of_ble_eq_true rfl) (Nat.le_of_ble_eq_true rfl) (fun I24 P24 hP h => ?_)
              refine g_goto cx (tgt := 190) dX2_doMove_152 rfl ?_
              exact g_wv cx hE dX2_doMove_190 rfl hP h
            · have h := zifn c22 h
              by_cases c25 : x2 = 7
              · have h := zifp c25 h
                refine g_tabIn cx (tgt := 155) (off := 149) dX2_doMove_6 (by rw [c25]; decide) (by rw [c25]; decide) (by rw [c25]; rfl) rfl ?_
                refine g_aload_n cx dX2_doMove_155 rfl ?_
                refine g_wVi cx [] [] (e_X0_pop hP h) mt_X0_pop ml_X2_215 hs1 rfl rfl dX2_doMove_156 rfl rfl (Nat.le_of_ble_eq_true rfl) (Nat.le_of_ble_eq_true rfl) (Nat.le_of_ble_eq_true rfl) (fun v26 I26 P26 hP h => ?_)
                refine g_pop cx dX2_doMove_159 rfl ?_
                refine g_goto cx (tgt := 190) dX2_doMove_160 rfl ?_
                exact g_wv cx hE dX2_doMove_190 rfl hP h
              · have h := zifn c25 h
                by_cases c27 : x2 = 8
                · have h := zifp c27 h
                  refine g_tabIn cx (tgt := 163) (off := 157) dX2_doMove_6 (by rw [c27]; decide) (by rw [c27]; decide) (by rw [c27]; rfl) rfl ?_
                  refine g_aload_n cx dX2_doMove_163 rfl ?_
                  refine g_wVi cx [] [] (e_X0_pop hP h) mt_X0_pop ml_X2_215 hs1 rfl rfl dX2_doMove_164 rfl rfl (Nat.le_of_ble_eq_true rfl) (Nat.le_of_ble_eq_true rfl) (Nat.le_of_ble_eq_true rfl) (fun v28 I28 P28 hP h => ?_)
                  refine g_istore cx dX2_doMove_167 (Nat.le_of_ble_eq_true rfl) (Gx.L [.ref 114, .ref x1, .int x2, .int v2, .int v28, .float 0] rfl ?_)
                  refine g_aload_n cx dX2_doMove_169 rfl ?_
                  refine g_wVi cx [] [] (e_X0_pop hP h) mt_X0_pop ml_X2_215 hs1 rfl rfl dX2_doMove_170 rfl rfl (Nat.le_of_ble_eq_true rfl) (Nat.le_of_ble_eq_true rfl) (Nat.le_of_ble_eq_true rfl) (fun v29 I29 P29 hP h => ?_)
                  refine g_istore cx dX2_doMove_173 (Nat.le_of_ble_eq_true rfl) (Gx.L [.ref 114, .ref x1, .int x2, .int v2, .int v28, .int v29] rfl ?_)
                  refine g_aload_n cx dX2_doMove_175 rfl ?_
                  refine g_iload cx dX2_doMove_176 rfl ?_
                  refine g_wVv cx [.int v28] [] (e_X0_push hP h) mt_X0_push ml_X2_233 hs1 rfl rfl dX2_doMove_178 rfl rfl (Nat.le_of_ble_eq_true rfl) (Nat.le_of_ble_eq_true rfl) (Nat.le_of_ble_eq_true rfl) (fun I30 P30 hP h => ?_)
                  refine g_aload_n cx dX2_doMove_181 rfl ?_
                  refine g_iload cx dX2_doMove_182 rfl ?_
                  refine g_wVv cx [.int v29] [] (e_X0_push hP h) mt_X0_push ml_X2_233 hs1 rfl rfl dX2_doMove_184 rfl rfl (Nat.le_of_ble_eq_true rfl) (Nat.le_of_ble_eq_true rfl) (Nat.le_of_ble_eq_true rfl) (fun I31 P31 hP h => ?_)
                  refine g_goto cx (tgt := 190) dX2_doMove_187 rfl ?_
                  exact g_wv cx hE dX2_doMove_190 rfl hP h
                · have h := zifn c27 h
                  refine g_tabOut cx (tgt := 190) dX2_doMove_6 (by have q0 : (x2 : Int32).toInt ≠ 1 := i32ne c3; have q1 : (x2 : Int32).toInt ≠ 2 := i32ne c7; have q2 : (x2 : Int32).toInt ≠ 3 := i32ne c11; have q3 : (x2 : Int32).toInt ≠ 4 := i32ne c14; have q4 : (x2 : Int32).toInt ≠ 5 := i32ne c17; have q5 : (x2 : Int32).toInt ≠ 6 := i32ne c22; have q6 : (x2 : Int32).toInt ≠ 7 := i32ne c25; have q7 : (x2 : Int32).toInt ≠ 8 := i32ne c27; omega) rfl ?_
                  exact g_wv cx hE dX2_doMove_190 rfl hP h
def w_X2_sum (x1 : Int32) (x2 : Int32) (x3 : Int32) (I : zI) (P : zP) (K : Int32 → zI → zP → Prop) : Prop := if x1 = 9 then (K (x2 + x3) I P) else (if x1 = 10 then (K (x2 - x3) I P) else (if x1 = 11 then (K (x2 * x3) I P) else (if x1 = 12 then (K 0 I P) else (if x1 = 13 then (K 0 I P) else (if x1 = 14 then (K (x2 &&& x3) I P) else (if x1 = 15 then (K (x2 ||| x3) I P) else (if x1 = 16 then (K (x2 ^^^ x3) I P) else (if x1 = 17 then (K ((x2 : Int32) <<< (((x3 &&& 31) : Int32) &&& 31)) I P) else (if x1 = 18 then (K ((x2 : Int32) >>> (((x3 &&& 31) : Int32) &&& 31)) I P) else (K 0 I P))))))))))
theorem e_X2_sum {x1 : Int32} {x2 : Int32} {x3 : Int32} {I : zI} {P : zP} {K : Int32 → zI → zP → Prop} (hP : PSt P) (h : w_X2_sum x1 x2 x3 I P K) : Ev yX2_sum cX2_sum 3 (some .int) 0 0 0 0 [.int x1, .int x2, .int x3] SHy I P (zKi K) := by
  refine Ev.start [.int x1, .int x2, .int x3] pn_X2 rfl (Nat.le_of_ble_eq_true rfl) rfl (fun κ cx hE => ?_)
  unfold w_X2_sum at h
  refine g_iload_n cx dX2_sum_0 rfl ?_
  by_cases c1 : x1 = 9
  · have h := zifp c1 h
    refine g_tabIn cx (tgt := 56) (off := 55) dX2_sum_1 (by rw [c1]; decide) (by rw [c1]; decide) (by rw [c1]; rfl) rfl ?_
    refine g_iload_n cx dX2_sum_56 rfl ?_
    refine g_iload_n cx dX2_sum_57 rfl ?_
    refine g_iadd cx dX2_sum_58 ?_
    exact g_wi cx hE dX2_sum_59 rfl rfl hP h
  · have h := zifn c1 h
    by_cases c2 : x1 = 10
    · have h := zifp c2 h
      refine g_tabIn cx (tgt := 60) (off := 59) dX2_sum_1 (by rw [c2]; decide) (by rw [c2]; decide) (by rw [c2]; rfl) rfl ?_
      refine g_iload_n cx dX2_sum_60 rfl ?_
      refine g_iload_n cx dX2_sum_61 rfl ?_
      refine g_isub cx dX2_sum_62 ?_
      exact g_wi cx hE dX2_sum_63 rfl rfl hP h
    · have h := zifn c2 h
      by_cases c3 : x1 = 11
      · have h := zifp c3 h
        refine g_tabIn cx (tgt := 64) (off := 63) dX2_sum_1 (by rw [c3]; decide) (by rw [c3]; decide) (by rw [c3]; rfl) rfl ?_
        refine g_iload_n cx dX2_sum_64 rfl ?_
        refine g_iload_n cx dX2_sum_65 rfl ?_
        refine g_imul cx dX2_sum_66 ?_
        exact g_wi cx hE dX2_sum_67 rfl rfl hP h
      · have h := zifn c3 h
        by_cases c4 : x1 = 12
        · have h := zifp c4 h
          refine g_tabIn cx (tgt := 94) (off := 93) dX2_sum_1 (by rw [c4]; decide) (by rw [c4]; decide) (by rw [c4]; rfl) rfl ?_
          refine g_iconst cx dX2_sum_94 ic_0 ?_
          exact g_wi cx hE dX2_sum_95 rfl rfl hP h
        · have h := zifn c4 h
          by_cases c5 : x1 = 13
          · have h := zifp c5 h
            refine g_tabIn cx (tgt := 94) (off := 93) dX2_sum_1 (by rw [c5]; decide) (by rw [c5]; decide) (by rw [c5]; rfl) rfl ?_
            refine g_iconst cx dX2_sum_94 ic_0 ?_
            exact g_wi cx hE dX2_sum_95 rfl rfl hP h
          · have h := zifn c5 h
            by_cases c6 : x1 = 14
            · have h := zifp c6 h
              refine g_tabIn cx (tgt := 68) (off := 67) dX2_sum_1 (by rw [c6]; decide) (by rw [c6]; decide) (by rw [c6]; rfl) rfl ?_
              refine g_iload_n cx dX2_sum_68 rfl ?_
              refine g_iload_n cx dX2_sum_69 rfl ?_
              refine g_iand cx dX2_sum_70 ?_
              exact g_wi cx hE dX2_sum_71 rfl rfl hP h
            · have h := zifn c6 h
              by_cases c7 : x1 = 15
              · have h := zifp c7 h
                refine g_tabIn cx (tgt := 72) (off := 71) dX2_sum_1 (by rw [c7]; decide) (by rw [c7]; decide) (by rw [c7]; rfl) rfl ?_
                refine g_iload_n cx dX2_sum_72 rfl ?_
                refine g_iload_n cx dX2_sum_73 rfl ?_
                refine g_ior cx dX2_sum_74 ?_
                exact g_wi cx hE dX2_sum_75 rfl rfl hP h
              · have h := zifn c7 h
                by_cases c8 : x1 = 16
                · have h := zifp c8 h
                  refine g_tabIn cx (tgt := 76) (off := 75) dX2_sum_1 (by rw [c8]; decide) (by rw [c8]; decide) (by rw [c8]; rfl) rfl ?_
                  refine g_iload_n cx dX2_sum_76 rfl ?_
                  refine g_iload_n cx dX2_sum_77 rfl ?_
                  refine g_ixor cx dX2_sum_78 ?_
                  exact g_wi cx hE dX2_sum_79 rfl rfl hP h
                · have h := zifn c8 h
                  by_cases c9 : x1 = 17
                  · have h := zifp c9 h
                    refine g_tabIn cx (tgt := 80) (off := 79) dX2_sum_1 (by rw [c9]; decide) (by rw [c9]; decide) (by rw [c9]; rfl) rfl ?_
                    refine g_iload_n cx dX2_sum_80 rfl ?_
                    refine g_iload_n cx dX2_sum_81 rfl ?_
                    refine g_bipush cx dX2_sum_82 bp_31 ?_
                    refine g_iand cx dX2_sum_84 ?_
                    refine g_ishl cx dX2_sum_85 ?_
                    exact g_wi cx hE dX2_sum_86 rfl rfl hP h
                  · have h := zifn c9 h
                    by_cases c10 : x1 = 18
                    · have h := zifp c10 h
                      refine g_tabIn cx (tgt := 87) (off := 86) dX2_sum_1 (by rw [c10]; decide) (by rw [c10]; decide) (by rw [c10]; rfl) rfl ?_
                      refine g_iload_n cx dX2_sum_87 rfl ?_
                      refine g_iload_n cx dX2_sum_88 rfl ?_
                      refine g_bipush cx dX2_sum_89 bp_31 ?_
                      refine g_iand cx dX2_sum_91 ?_
                      refine g_ishr cx dX2_sum_92 ?_
                      exact g_wi cx hE dX2_sum_93 rfl rfl hP h
                    · have h := zifn c10 h
                      refine g_tabOut cx (tgt := 94) dX2_sum_1 (by have q0 : (x1 : Int32).toInt ≠ 9 := i32ne c1; have q1 : (x1 : Int32).toInt ≠ 10 := i32ne c2; have q2 : (x1 : Int32).toInt ≠ 11 := i32ne c3; have q3 : (x1 : Int32).toInt ≠ 12 := i32ne c4; have q4 : (x1 : Int32).toInt ≠ 13 := i32ne c5; have q5 : (x1 : Int32).toInt ≠ 14 := i32ne c6; have q6 : (x1 : Int32).toInt ≠ 15 := i32ne c7; have q7 : (x1 : Int32).toInt ≠ 16 := i32ne c8; have q8 : (x1 : Int32).toInt ≠ 17 := i32ne c9; have q9 : (x1 : Int32).toInt ≠ 18 := i32ne c10; omega) rfl ?_
                      refine g_iconst cx dX2_sum_94 ic_0 ?_
                      exact g_wi cx hE dX2_sum_95 rfl rfl hP h
def j_X2_doSum_50 (K : zI → zP → Prop) (y1 : Nat) (y2 : Int32) (y3 : Int32) (y4 : Int32) (I : zI) (P : zP) : Prop := if y3 = 0 then (w_X2_throwAt y1 101 I P (fun (I9 : zI) (P9 : zP) => (K I9 P9))) else (if y2 = 12 then (¬ y3 = 0 ∧ (SHy[y1]? = some (0, 6) ∧ (w_X0_push y1 (y4 / y3) I P (fun (I8 : zI) (P8 : zP) => (K I8 P8))))) else (¬ y3 = 0 ∧ (SHy[y1]? = some (0, 6) ∧ (w_X0_push y1 (y4 - y4 / y3 * y3) I P (fun (I5 : zI) (P5 : zP) => (K I5 P5))))))
theorem gj_X2_doSum_50 {κ : zX} (cx : Cx yX2_doSum cX2_doSum 5 none 1 22 κ) {K : zI → zP → Prop} (hE : zEnd (zKv K) 0 0 κ) {y1 : Nat} {y2 : Int32} {y3 : Int32} {y4 : Int32} {I : zI} {P : zP} (hP : PSt P) (h : j_X2_doSum_50 K y1 y2 y3 y4 I P) : Gx κ 50 [.ref 114, .ref y1, .int y2, .int y3, .int y4] [] SHy I P 0 0 := by
  unfold j_X2_doSum_50 at h
  refine g_iload_n cx dX2_doSum_50 rfl ?_
  refine g_if_ne cx (tgt := 64) dX2_doSum_51 rfl (fun c1 => ?_) (fun c1 => ?_)
  · have h := zifn c1 h
    refine g_aload_n cx dX2_doSum_64 rfl ?_
    refine g_iload_n cx dX2_doSum_65 rfl ?_
    refine g_bipush cx dX2_doSum_66 bp_12 ?_
    refine g_icmp_ne cx (tgt := 78) dX2_doSum_68 rfl (fun c2 => ?_) (fun c2 => ?_)
    · have h := zifn c2 h
      refine g_iload cx dX2_doSum_78 rfl ?_
      refine g_iload_n cx dX2_doSum_80 rfl ?_
      obtain ⟨hc3, h⟩ := h
      refine g_irem cx dX2_doSum_81 hc3 ?_
      obtain ⟨hs4, h⟩ := h
      refine g_wVv cx [.int (y4 - y4 / y3 * y3)] [] (e_X0_push hP h) mt_X0_push ml_X2_233 hs4 rfl rfl dX2_doSum_82 rfl rfl (Nat.le_of_ble_eq_true rfl) (Nat.le_of_ble_eq_true rfl) (Nat.le_of_ble_eq_true rfl) (fun I5 P5 hP h => ?_)
      exact g_wv cx hE dX2_doSum_85 rfl hP h
    · have h := zifp c2 h
      refine g_iload cx dX2_doSum_71 rfl ?_
      refine g_iload_n cx dX2_doSum_73 rfl ?_
      obtain ⟨hc6, h⟩ := h
      refine g_idiv cx dX2_doSum_74 hc6 ?_
      refine g_goto cx (tgt := 82) dX2_doSum_75 rfl ?_
      obtain ⟨hs7, h⟩ := h
      refine g_wVv cx [.int (y4 / y3)] [] (e_X0_push hP h) mt_X0_push ml_X2_233 hs7 rfl rfl dX2_doSum_82 rfl rfl (Nat.le_of_ble_eq_true rfl) (Nat.le_of_ble_eq_true rfl) (Nat.le_of_ble_eq_true rfl) (fun I8 P8 hP h => ?_)
      exact g_wv cx hE dX2_doSum_85 rfl hP h
  · have h := zifp c1 h
    refine g_aload_n cx dX2_doSum_54 rfl ?_
    refine g_aload_n cx dX2_doSum_55 rfl ?_
    refine g_bipush cx dX2_doSum_56 bp_101 ?_
    refine g_wVv cx [.ref y1, .int 101] [] (e_X2_throwAt hP h) mt_X2_throwAt ml_X2_218 rfl rfl rfl dX2_doSum_58 rfl rfl (Nat.le_of_ble_eq_true rfl) (Nat.le_of_ble_eq_true rfl) (Nat.le_of_ble_eq_true rfl) (fun I9 P9 hP h => ?_)
    refine g_goto cx (tgt := 85) dX2_doSum_61 rfl ?_
    exact g_wv cx hE dX2_doSum_85 rfl hP h
def w_X2_doSum (x1 : Nat) (x2 : Int32) (I : zI) (P : zP) (K : zI → zP → Prop) : Prop := SHy[x1]? = some (0, 6) ∧ (w_X0_pop x1 I P (fun (v2 : Int32) (I2 : zI) (P2 : zP) => (if x2 = 19 then (w_X0_push x1 (-v2) I2 P2 (fun (I9 : zI) (P9 : zP) => (K I9 P9))) else (w_X0_pop x1 I2 P2 (fun (v4 : Int32) (I4 : zI) (P4 : zP) => (if x2 = 12 then (j_X2_doSum_50 K x1 x2 v2 v4 I4 P4) else (if x2 = 13 then (j_X2_doSum_50 K x1 x2 v2 v4 I4 P4) else (w_X2_sum x2 v4 v2 I4 P4 (fun (v7 : Int32) (I7 : zI) (P7 : zP) => (w_X0_push x1 v7 I7 P7 (fun (I8 : zI) (P8 : zP) => (K I8 P8))))))))))))
theorem e_X2_doSum {x1 : Nat} {x2 : Int32} {I : zI} {P : zP} {K : zI → zP → Prop} (hP : PSt P) (h : w_X2_doSum x1 x2 I P K) : Ev yX2_doSum cX2_doSum 5 none 1 22 0 0 [.ref 114, .ref x1, .int x2] SHy I P (zKv K) := by
  refine Ev.start [.ref 114, .ref x1, .int x2, .float 0, .float 0] pn_X2 rfl (Nat.le_of_ble_eq_true rfl) rfl (fun κ cx hE => ?_)
  unfold w_X2_doSum at h
  refine g_aload_n cx dX2_doSum_0 rfl ?_
  obtain ⟨hs1, h⟩ := h
  refine g_wVi cx [] [] (e_X0_pop hP h) mt_X0_pop ml_X2_215 hs1 rfl rfl dX2_doSum_1 rfl rfl (Nat.le_of_ble_eq_true rfl) (Nat.le_of_ble_eq_true rfl) (Nat.le_of_ble_eq_true rfl) (fun v2 I2 P2 hP h => ?_)
  refine g_istore_n cx dX2_doSum_4 (Nat.le_of_ble_eq_true rfl) (Gx.L [.ref 114, .ref x1, .int x2, .int v2, .float 0] rfl ?_)
  refine g_iload_n cx dX2_doSum_5 rfl ?_
  refine g_bipush cx dX2_doSum_6 bp_19 ?_
  refine g_icmp_ne cx (tgt := 18) dX2_doSum_8 rfl (fun c3 => ?_) (fun c3 => ?_)
  · have h := zifn c3 h
    refine g_aload_n cx dX2_doSum_18 rfl ?_
    refine g_wVi cx [] [] (e_X0_pop hP h) mt_X0_pop ml_X2_215 hs1 rfl rfl dX2_doSum_19 rfl rfl (Nat.le_of_ble_eq_true rfl) (Nat.le_of_ble_eq_true rfl) (Nat.le_of_ble_eq_true rfl) (fun v4 I4 P4 hP h => ?_)
    refine g_istore cx dX2_doSum_22 (Nat.le_of_ble_eq_true rfl) (Gx.L [.ref 114, .ref x1, .int x2, .int v2, .int v4] rfl ?_)
    refine g_iload_n cx dX2_doSum_24 rfl ?_
    refine g_bipush cx dX2_doSum_25 bp_12 ?_
    refine g_icmp_eq cx (tgt := 50) dX2_doSum_27 rfl (fun c5 => ?_) (fun c5 => ?_)
    · have h := zifp c5 h
      exact gj_X2_doSum_50 cx hE hP h
    · have h := zifn c5 h
      refine g_iload_n cx dX2_doSum_30 rfl ?_
      refine g_bipush cx dX2_doSum_31 bp_13 ?_
      refine g_icmp_eq cx (tgt := 50) dX2_doSum_33 rfl (fun c6 => ?_) (fun c6 => ?_)
      · have h := zifp c6 h
        exact gj_X2_doSum_50 cx hE hP h
      · have h := zifn c6 h
        refine g_aload_n cx dX2_doSum_36 rfl ?_
        refine g_iload_n cx dX2_doSum_37 rfl ?_
        refine g_iload cx dX2_doSum_38 rfl ?_
        refine g_iload_n cx dX2_doSum_40 rfl ?_
        refine g_wSi cx [.int x2, .int v4, .int v2] [.ref x1] (e_X2_sum hP h) mt_X2_sum ml_X2_246 dX2_doSum_41 rfl rfl (Nat.le_of_ble_eq_true rfl) (Nat.le_of_ble_eq_true rfl) (Nat.le_of_ble_eq_true rfl) (fun v7 I7 P7 hP h => ?_)
        refine g_wVv cx [.int v7] [] (e_X0_push hP h) mt_X0_push ml_X2_233 hs1 rfl rfl dX2_doSum_44 rfl rfl (Nat.le_of_ble_eq_true rfl) (Nat.le_of_ble_eq_true rfl) (Nat.le_of_ble_eq_true rfl) (fun I8 P8 hP h => ?_)
        refine g_goto cx (tgt := 85) dX2_doSum_47 rfl ?_
        exact g_wv cx hE dX2_doSum_85 rfl hP h
  · have h := zifp c3 h
    refine g_aload_n cx dX2_doSum_11 rfl ?_
    refine g_iload_n cx dX2_doSum_12 rfl ?_
    refine g_ineg cx dX2_doSum_13 ?_
    refine g_wVv cx [.int (-v2)] [] (e_X0_push hP h) mt_X0_push ml_X2_233 hs1 rfl rfl dX2_doSum_14 rfl rfl (Nat.le_of_ble_eq_true rfl) (Nat.le_of_ble_eq_true rfl) (Nat.le_of_ble_eq_true rfl) (fun I9 P9 hP h => ?_)
    exact g_wv cx hE dX2_doSum_17 rfl hP h
def j_X2_whereJumped_82 (K : Int32 → zI → zP → Prop) (y1 : Nat) (y3 : Int32) (y4 : Nat) (s0 : Int32) (I : zI) (P : zP) : Prop := zbo s0 ∧ (if s0 = 0 then (K y3 (zu I 114 15 s0) P) else (SHy[y1]? = some (0, 6) ∧ (w_X9_targetAt y4 ((zu I 114 15 s0) y1 5) 0 (zu I 114 15 s0) P (fun (v4 : Int32) (I4 : zI) (P4 : zP) => (K v4 I4 P4)))))
theorem gj_X2_whereJumped_82 {κ : zX} (cx : Cx yX2_whereJumped cX2_whereJumped 7 (some .int) 2 44 κ) {K : Int32 → zI → zP → Prop} (hE : zEnd (zKi K) 0 0 κ) {y1 : Nat} {y3 : Int32} {y4 : Nat} {s0 : Int32} {I : zI} {P : zP} (hP : PSt P) (h : j_X2_whereJumped_82 K y1 y3 y4 s0 I P) : Gx κ 82 [.ref 114, .ref y1, .float 0, .int y3, .ref y4, .float 0, .float 0] [.int s0, .ref 114] SHy I P 0 0 := by
  unfold j_X2_whereJumped_82 at h
  obtain ⟨hc1, h⟩ := h
  refine g_pI cx lk_X2_52 rfl (Nat.le_of_ble_eq_true rfl) rfl dX2_whereJumped_82 fi_2_15 (zbo_n hc1) (zbo_f hc1) ?_
  refine g_aload_n cx dX2_whereJumped_85 rfl ?_
  refine g_getI cx lk_X2_52 rfl (Nat.le_of_ble_eq_true rfl) rfl dX2_whereJumped_86 (x := s0) rfl ?_
  refine g_if_eq cx (tgt := 105) dX2_whereJumped_89 rfl (fun c2 => ?_) (fun c2 => ?_)
  · have h := zifp c2 h
    refine g_iload_n cx dX2_whereJumped_105 rfl ?_
    exact g_wi cx hE dX2_whereJumped_106 rfl rfl hP h
  · have h := zifn c2 h
    refine g_aload cx dX2_whereJumped_92 rfl ?_
    refine g_aload_n cx dX2_whereJumped_94 rfl ?_
    obtain ⟨hs3, h⟩ := h
    refine g_getI cx lk_X2_150 hs3 (Nat.le_of_ble_eq_true rfl) rfl dX2_whereJumped_95 (x := ((zu I 114 15 s0) y1 5)) rfl ?_
    refine g_iconst cx dX2_whereJumped_98 ic_0 ?_
    refine g_wSi cx [.ref y4, .int ((zu I 114 15 s0) y1 5), .int 0] [] (e_X9_targetAt hP h) mt_X9_targetAt ml_X2_168 dX2_whereJumped_99 rfl rfl (Nat.le_of_ble_eq_true rfl) (Nat.le_of_ble_eq_true rfl) (Nat.le_of_ble_eq_true rfl) (fun v4 I4 P4 hP h => ?_)
    refine g_goto cx (tgt := 106) dX2_whereJumped_102 rfl ?_
    exact g_wi cx hE dX2_whereJumped_106 rfl rfl hP h
def j_X2_whereJumped_37 (K : Int32 → zI → zP → Prop) (y1 : Nat) (y4 : Nat) (y5 : Int32) (s0 : Int32) (I : zI) (P : zP) : Prop := SHy[y1]? = some (0, 6) ∧ (if s0 = 0 then (w_X9_targetAt y4 (I y1 5) 0 I P (fun (v3 : Int32) (I3 : zI) (P3 : zP) => (K v3 I3 P3))) else (w_X9_targetAt y4 (I y1 5) (y5 + 1) I P (fun (v4 : Int32) (I4 : zI) (P4 : zP) => (K v4 I4 P4))))
theorem gj_X2_whereJumped_37 {κ : zX} (cx : Cx yX2_whereJumped cX2_whereJumped 7 (some .int) 2 44 κ) {K : Int32 → zI → zP → Prop} (hE : zEnd (zKi K) 0 0 κ) {y1 : Nat} {y4 : Nat} {y5 : Int32} {s0 : Int32} {I : zI} {P : zP} (hP : PSt P) (h : j_X2_whereJumped_37 K y1 y4 y5 s0 I P) : Gx κ 37 [.float 0, .ref y1, .float 0, .float 0, .ref y4, .int y5, .float 0] [.int s0] SHy I P 0 0 := by
  unfold j_X2_whereJumped_37 at h
  refine g_istore cx dX2_whereJumped_37 (Nat.le_of_ble_eq_true rfl) (Gx.L [.float 0, .ref y1, .float 0, .float 0, .ref y4, .int y5, .int s0] rfl ?_)
  refine g_aload cx dX2_whereJumped_39 rfl ?_
  refine g_aload_n cx dX2_whereJumped_41 rfl ?_
  obtain ⟨hs1, h⟩ := h
  refine g_getI cx lk_X2_150 hs1 (Nat.le_of_ble_eq_true rfl) rfl dX2_whereJumped_42 (x := (I y1 5)) rfl ?_
  refine g_iload cx dX2_whereJumped_45 rfl ?_
  refine g_if_eq cx (tgt := 57) dX2_whereJumped_47 rfl (fun c2 => ?_) (fun c2 => ?_)
  · have h := zifp c2 h
    refine g_iconst cx dX2_whereJumped_57 ic_0 ?_
    refine g_wSi cx [.ref y4, .int (I y1 5), .int 0] [] (e_X9_targetAt hP h) mt_X9_targetAt ml_X2_168 dX2_whereJumped_58 rfl rfl (Nat.le_of_ble_eq_true rfl) (Nat.le_of_ble_eq_true rfl) (Nat.le_of_ble_eq_true rfl) (fun v3 I3 P3 hP h => ?_)
    exact g_wi cx hE dX2_whereJumped_61 rfl rfl hP h
  · have h := zifn c2 h
    refine g_iload cx dX2_whereJumped_50 rfl ?_
    refine g_iconst cx dX2_whereJumped_52 ic_1 ?_
    refine g_iadd cx dX2_whereJumped_53 ?_
    refine g_goto cx (tgt := 58) dX2_whereJumped_54 rfl ?_
    refine g_wSi cx [.ref y4, .int (I y1 5), .int (y5 + 1)] [] (e_X9_targetAt hP h) mt_X9_targetAt ml_X2_168 dX2_whereJumped_58 rfl rfl (Nat.le_of_ble_eq_true rfl) (Nat.le_of_ble_eq_true rfl) (Nat.le_of_ble_eq_true rfl) (fun v4 I4 P4 hP h => ?_)
    exact g_wi cx hE dX2_whereJumped_61 rfl rfl hP h
def j_X2_whereJumped_36 (K : Int32 → zI → zP → Prop) (y1 : Nat) (y4 : Nat) (y5 : Int32) (I : zI) (P : zP) : Prop := j_X2_whereJumped_37 K y1 y4 y5 0 I P
theorem gj_X2_whereJumped_36 {κ : zX} (cx : Cx yX2_whereJumped cX2_whereJumped 7 (some .int) 2 44 κ) {K : Int32 → zI → zP → Prop} (hE : zEnd (zKi K) 0 0 κ) {y1 : Nat} {y4 : Nat} {y5 : Int32} {I : zI} {P : zP} (hP : PSt P) (h : j_X2_whereJumped_36 K y1 y4 y5 I P) : Gx κ 36 [.float 0, .ref y1, .float 0, .float 0, .ref y4, .int y5, .float 0] [] SHy I P 0 0 := by
  unfold j_X2_whereJumped_36 at h
  refine g_iconst cx dX2_whereJumped_36 ic_0 ?_
  exact gj_X2_whereJumped_37 cx hE hP h
def w_X2_whereJumped (x1 : Nat) (x2 : Int32) (x3 : Int32) (I : zI) (P : zP) (K : Int32 → zI → zP → Prop) : Prop := SHy[x1]? = some (0, 6) ∧ (w_X0_code x1 I P (fun (v2 : Nat) (I2 : zI) (P2 : zP) => (if x2 = 33 then (w_X0_pop x1 I2 P2 (fun (v7 : Int32) (I7 : zI) (P7 : zP) => (if v7 < 0 then (j_X2_whereJumped_36 K x1 v2 v7 I7 P7) else (w_X0_operand x1 I7 P7 (fun (v9 : Int32) (I9 : zI) (P9 : zP) => (if v9 ≤ v7 then (j_X2_whereJumped_36 K x1 v2 v7 I9 P9) else (j_X2_whereJumped_37 K x1 v2 v7 1 I9 P9))))))) else (if x2 = 20 then (j_X2_whereJumped_82 K x1 x3 v2 1 I2 P2) else (w_X2_choosesJump x1 x2 I2 P2 (fun (v5 : Int32) (I5 : zI) (P5 : zP) => (if v5 = 0 then (j_X2_whereJumped_82 K x1 x3 v2 0 I5 P5) else (j_X2_whereJumped_82 K x1 x3 v2 1 I5 P5))))))))
theorem e_X2_whereJumped {x1 : Nat} {x2 : Int32} {x3 : Int32} {I : zI} {P : zP} {K : Int32 → zI → zP → Prop} (hP : PSt P) (h : w_X2_whereJumped x1 x2 x3 I P K) : Ev yX2_whereJumped cX2_whereJumped 7 (some .int) 2 44 0 0 [.ref 114, .ref x1, .int x2, .int x3] SHy I P (zKi K) := by
  refine Ev.start [.ref 114, .ref x1, .int x2, .int x3, .float 0, .float 0, .float 0] pn_X2 rfl (Nat.le_of_ble_eq_true rfl) rfl (fun κ cx hE => ?_)
  unfold w_X2_whereJumped at h
  refine g_aload_n cx dX2_whereJumped_0 rfl ?_
  obtain ⟨hs1, h⟩ := h
  refine g_wVr cx [] [] (e_X0_code hP h) mt_X0_code ml_X2_146 hs1 rfl rfl dX2_whereJumped_1 rfl rfl (Nat.le_of_ble_eq_true rfl) (Nat.le_of_ble_eq_true rfl) (Nat.le_of_ble_eq_true rfl) (fun v2 I2 P2 hP h => ?_)
  refine g_astore cx dX2_whereJumped_4 (Nat.le_of_ble_eq_true rfl) (Gx.L [.ref 114, .ref x1, .int x2, .int x3, .ref v2, .float 0, .float 0] rfl ?_)
  refine g_iload_n cx dX2_whereJumped_6 rfl ?_
  refine g_bipush cx dX2_whereJumped_7 bp_33 ?_
  refine g_icmp_ne cx (tgt := 62) dX2_whereJumped_9 rfl (fun c3 => ?_) (fun c3 => ?_)
  · have h := zifn c3 h
    refine g_aload_n cx dX2_whereJumped_62 rfl ?_
    refine g_iload_n cx dX2_whereJumped_63 rfl ?_
    refine g_bipush cx dX2_whereJumped_64 bp_20 ?_
    refine g_icmp_eq cx (tgt := 77) dX2_whereJumped_66 rfl (fun c4 => ?_) (fun c4 => ?_)
    · have h := zifp c4 h
      refine g_iconst cx dX2_whereJumped_77 ic_1 ?_
      refine g_goto cx (tgt := 82) dX2_whereJumped_78 rfl ?_
      refine (Gx.unset 2 (Gx.L [.ref 114, .ref x1, .float 0, .int x3, .ref v2, .float 0, .float 0] rfl ?_))
      exact gj_X2_whereJumped_82 cx hE hP h
    · have h := zifn c4 h
      refine g_aload_n cx dX2_whereJumped_69 rfl ?_
      refine g_iload_n cx dX2_whereJumped_70 rfl ?_
      refine g_wSi cx [.ref x1, .int x2] [.ref 114] (e_X2_choosesJump hP h) mt_X2_choosesJump ml_X2_250 dX2_whereJumped_71 rfl rfl (Nat.le_of_ble_eq_true rfl) (Nat.le_of_ble_eq_true rfl) (Nat.le_of_ble_eq_true rfl) (fun v5 I5 P5 hP h => ?_)
      refine g_if_eq cx (tgt := 81) dX2_whereJumped_74 rfl (fun c6 => ?_) (fun c6 => ?_)
      · have h := zifp c6 h
        refine g_iconst cx dX2_whereJumped_81 ic_0 ?_
        refine (Gx.unset 2 (Gx.L [.ref 114, .ref x1, .float 0, .int x3, .ref v2, .float 0, .float 0] rfl ?_))
        exact gj_X2_whereJumped_82 cx hE hP h
      · have h := zifn c6 h
        refine g_iconst cx dX2_whereJumped_77 ic_1 ?_
        refine g_goto cx (tgt := 82) dX2_whereJumped_78 rfl ?_
        refine (Gx.unset 2 (Gx.L [.ref 114, .ref x1, .float 0, .int x3, .ref v2, .float 0, .float 0] rfl ?_))
        exact gj_X2_whereJumped_82 cx hE hP h
  · have h := zifp c3 h
    refine g_aload_n cx dX2_whereJumped_12 rfl ?_
    refine g_wVi cx [] [] (e_X0_pop hP h) mt_X0_pop ml_X2_215 hs1 rfl rfl dX2_whereJumped_13 rfl rfl (Nat.le_of_ble_eq_true rfl) (Nat.le_of_ble_eq_true rfl) (Nat.le_of_ble_eq_true rfl) (fun v7 I7 P7 hP h => ?_)
    refine g_istore cx dX2_whereJumped_16 (Nat.le_of_ble_eq_true rfl) (Gx.L [.ref 114, .ref x1, .int x2, .int x3, .ref v2, .int v7, .float 0] rfl ?_)
    refine g_iload cx dX2_whereJumped_18 rfl ?_
    refine g_if_lt cx (tgt := 36) dX2_whereJumped_20 rfl (fun c8 => ?_) (fun c8 => ?_)
    · have h := zifp c8 h
      refine (Gx.unset 0 (Gx.unset 2 (Gx.unset 3 (Gx.L [.float 0, .ref x1, .float 0, .float 0, .ref v2, .int v7, .float 0] rfl ?_))))
      exact gj_X2_whereJumped_36 cx hE hP h
    · have h := zifn c8 h
      refine g_iload cx dX2_whereJumped_23 rfl ?_
      refine g_aload_n cx dX2_whereJumped_25 rfl ?_
      refine g_wVi cx [] [.int v7] (e_X0_operand hP h) mt_X0_operand ml_X2_227 hs1 rfl rfl dX2_whereJumped_26 rfl rfl (Nat.le_of_ble_eq_true rfl) (Nat.le_of_ble_eq_true rfl) (Nat.le_of_ble_eq_true rfl) (fun v9 I9 P9 hP h => ?_)
      refine g_icmp_ge cx (tgt := 36) dX2_whereJumped_29 rfl (fun c10 => ?_) (fun c10 => ?_)
      · have h := zifp c10 h
        refine (Gx.unset 0 (Gx.unset 2 (Gx.unset 3 (Gx.L [.float 0, .ref x1, .float 0, .float 0, .ref v2, .int v7, .float 0] rfl ?_))))
        exact gj_X2_whereJumped_36 cx hE hP h
      · have h := zifn c10 h
        refine g_iconst cx dX2_whereJumped_32 ic_1 ?_
        refine g_goto cx (tgt := 37) dX2_whereJumped_33 rfl ?_
        refine (Gx.unset 0 (Gx.unset 2 (Gx.unset 3 (Gx.L [.float 0, .ref x1, .float 0, .float 0, .ref v2, .int v7, .float 0] rfl ?_))))
        exact gj_X2_whereJumped_37 cx hE hP h
def w_X9_tableSize (x1 : Int32) (I : zI) (P : zP) (K : Int32 → zI → zP → Prop) : Prop := K (4 + (2 * x1)) I P
theorem e_X9_tableSize {x1 : Int32} {I : zI} {P : zP} {K : Int32 → zI → zP → Prop} (hP : PSt P) (h : w_X9_tableSize x1 I P K) : Ev yX9_tableSize cX9_tableSize 1 (some .int) 0 0 0 0 [.int x1] SHy I P (zKi K) := by
  refine Ev.start [.int x1] pn_X9 rfl (Nat.le_of_ble_eq_true rfl) rfl (fun κ cx hE => ?_)
  unfold w_X9_tableSize at h
  refine g_iconst cx dX9_tableSize_0 ic_4 ?_
  refine g_iconst cx dX9_tableSize_1 ic_2 ?_
  refine g_iload_n cx dX9_tableSize_2 rfl ?_
  refine g_imul cx dX9_tableSize_3 ?_
  refine g_iadd cx dX9_tableSize_4 ?_
  exact g_wi cx hE dX9_tableSize_5 rfl rfl hP h
def w_X9_sizeAt (x1 : Nat) (x2 : Int32) (I : zI) (P : zP) (K : Int32 → zI → zP → Prop) : Prop := w_X9_byteAt x1 x2 I P (fun (v1 : Int32) (I1 : zI) (P1 : zP) => (if v1 = 33 then (w_X9_byteAt x1 (x2 + 1) I1 P1 (fun (v4 : Int32) (I4 : zI) (P4 : zP) => (w_X9_tableSize v4 I4 P4 (fun (v5 : Int32) (I5 : zI) (P5 : zP) => (K v5 I5 P5))))) else (w_X9_fixedSize v1 I1 P1 (fun (v3 : Int32) (I3 : zI) (P3 : zP) => (K v3 I3 P3)))))
theorem e_X9_sizeAt {x1 : Nat} {x2 : Int32} {I : zI} {P : zP} {K : Int32 → zI → zP → Prop} (hP : PSt P) (h : w_X9_sizeAt x1 x2 I P K) : Ev yX9_sizeAt cX9_sizeAt 3 (some .int) 2 40 0 0 [.ref x1, .int x2] SHy I P (zKi K) := by
  refine Ev.start [.ref x1, .int x2, .float 0] pn_X9 rfl (Nat.le_of_ble_eq_true rfl) rfl (fun κ cx hE => ?_)
  unfold w_X9_sizeAt at h
  refine g_aload_n cx dX9_sizeAt_0 rfl ?_
  refine g_iload_n cx dX9_sizeAt_1 rfl ?_
  refine g_wSi cx [.ref x1, .int x2] [] (e_X9_byteAt hP h) mt_X9_byteAt ml_X9_107 dX9_sizeAt_2 rfl rfl (Nat.le_of_ble_eq_true rfl) (Nat.le_of_ble_eq_true rfl) (Nat.le_of_ble_eq_true rfl) (fun v1 I1 P1 hP h => ?_)
  refine g_istore_n cx dX9_sizeAt_5 (Nat.le_of_ble_eq_true rfl) (Gx.L [.ref x1, .int x2, .int v1] rfl ?_)
  refine g_iload_n cx dX9_sizeAt_6 rfl ?_
  refine g_bipush cx dX9_sizeAt_7 bp_33 ?_
  refine g_icmp_ne cx (tgt := 25) dX9_sizeAt_9 rfl (fun c2 => ?_) (fun c2 => ?_)
  · have h := zifn c2 h
    refine g_iload_n cx dX9_sizeAt_25 rfl ?_
    refine g_wSi cx [.int v1] [] (e_X9_fixedSize hP h) mt_X9_fixedSize ml_X9_219 dX9_sizeAt_26 rfl rfl (Nat.le_of_ble_eq_true rfl) (Nat.le_of_ble_eq_true rfl) (Nat.le_of_ble_eq_true rfl) (fun v3 I3 P3 hP h => ?_)
    exact g_wi cx hE dX9_sizeAt_29 rfl rfl hP h
  · have h := zifp c2 h
    refine g_aload_n cx dX9_sizeAt_12 rfl ?_
    refine g_iload_n cx dX9_sizeAt_13 rfl ?_
    refine g_iconst cx dX9_sizeAt_14 ic_1 ?_
    refine g_iadd cx dX9_sizeAt_15 ?_
    refine g_wSi cx [.ref x1, .int (x2 + 1)] [] (e_X9_byteAt hP h) mt_X9_byteAt ml_X9_107 dX9_sizeAt_16 rfl rfl (Nat.le_of_ble_eq_true rfl) (Nat.le_of_ble_eq_true rfl) (Nat.le_of_ble_eq_true rfl) (fun v4 I4 P4 hP h => ?_)
    refine g_wSi cx [.int v4] [] (e_X9_tableSize hP h) mt_X9_tableSize ml_X9_216 dX9_sizeAt_19 rfl rfl (Nat.le_of_ble_eq_true rfl) (Nat.le_of_ble_eq_true rfl) (Nat.le_of_ble_eq_true rfl) (fun v5 I5 P5 hP h => ?_)
    refine g_goto cx (tgt := 29) dX9_sizeAt_22 rfl ?_
    exact g_wi cx hE dX9_sizeAt_29 rfl rfl hP h
def j_X2_doInstruction_110 (K : zI → zP → Prop) (y1 : Nat) (y3 : Int32) (I : zI) (P : zP) : Prop := if (I 114 10) = 0 then (w_X2_passBehind y1 I P (fun (I2 : zI) (P2 : zP) => (SHy[y1]? = some (0, 6) ∧ (K (zu I2 y1 5 y3) P2)))) else (K I P)
theorem gj_X2_doInstruction_110 {κ : zX} (cx : Cx yX2_doInstruction cX2_doInstruction 5 none 4 92 κ) {K : zI → zP → Prop} (hE : zEnd (zKv K) 0 0 κ) {y1 : Nat} {y3 : Int32} {I : zI} {P : zP} (hP : PSt P) (h : j_X2_doInstruction_110 K y1 y3 I P) : Gx κ 110 [.ref 114, .ref y1, .float 0, .int y3, .float 0] [] SHy I P 0 0 := by
  unfold j_X2_doInstruction_110 at h
  refine g_aload_n cx dX2_doInstruction_110 rfl ?_
  refine g_getI cx lk_X2_37 rfl (Nat.le_of_ble_eq_true rfl) rfl dX2_doInstruction_111 (x := (I 114 10)) rfl ?_
  refine g_if_ne cx (tgt := 127) dX2_doInstruction_114 rfl (fun c1 => ?_) (fun c1 => ?_)
  · have h := zifn c1 h
    exact g_wv cx hE dX2_doInstruction_127 rfl hP h
  · have h := zifp c1 h
    refine g_aload_n cx dX2_doInstruction_117 rfl ?_
    refine g_aload_n cx dX2_doInstruction_118 rfl ?_
    refine g_wVv cx [.ref y1] [] (e_X2_passBehind hP h) mt_X2_passBehind ml_X2_224 rfl rfl rfl dX2_doInstruction_119 rfl rfl (Nat.le_of_ble_eq_true rfl) (Nat.le_of_ble_eq_true rfl) (Nat.le_of_ble_eq_true rfl) (fun I2 P2 hP h => ?_)
    refine g_aload_n cx dX2_doInstruction_122 rfl ?_
    refine g_iload_n cx dX2_doInstruction_123 rfl ?_
    obtain ⟨hs3, h⟩ := h
    refine g_pI cx lk_X2_150 hs3 (Nat.le_of_ble_eq_true rfl) rfl dX2_doInstruction_124 fi_0_5 rfl rfl ?_
    exact g_wv cx hE dX2_doInstruction_127 rfl hP h
def w_X2_doInstruction (x1 : Nat) (x2 : Int32) (I : zI) (P : zP) (K : zI → zP → Prop) : Prop := SHy[x1]? = some (0, 6) ∧ (w_X0_code x1 I P (fun (v2 : Nat) (I2 : zI) (P2 : zP) => (w_X9_sizeAt v2 (I2 x1 5) I2 P2 (fun (v3 : Int32) (I3 : zI) (P3 : zP) => (if 8 < x2 then (if 19 < x2 then (if 33 < x2 then (if x2 = 41 then (w_X0_pop x1 I3 P3 (fun (v9 : Int32) (I9 : zI) (P9 : zP) => (if v9 < 1 then (w_X2_throwAt x1 100 I9 P9 (fun (I11 : zI) (P11 : zP) => (j_X2_doInstruction_110 K x1 ((I x1 5) + v3) I11 P11))) else (if 99 < v9 then (w_X2_throwAt x1 100 I9 P9 (fun (I13 : zI) (P13 : zP) => (j_X2_doInstruction_110 K x1 ((I x1 5) + v3) I13 P13))) else (w_X2_throwAt x1 v9 I9 P9 (fun (I14 : zI) (P14 : zP) => (j_X2_doInstruction_110 K x1 ((I x1 5) + v3) I14 P14))))))) else (w_X2_doMemory x1 x2 I3 P3 (fun (I8 : zI) (P8 : zP) => (j_X2_doInstruction_110 K x1 ((I x1 5) + v3) I8 P8)))) else (w_X2_whereJumped x1 x2 ((I x1 5) + v3) I3 P3 (fun (v15 : Int32) (I15 : zI) (P15 : zP) => (j_X2_doInstruction_110 K x1 v15 I15 P15)))) else (w_X2_doSum x1 x2 I3 P3 (fun (I16 : zI) (P16 : zP) => (j_X2_doInstruction_110 K x1 ((I x1 5) + v3) I16 P16)))) else (w_X2_doMove x1 x2 I3 P3 (fun (I17 : zI) (P17 : zP) => (j_X2_doInstruction_110 K x1 ((I x1 5) + v3) I17 P17))))))))
theorem e_X2_doInstruction {x1 : Nat} {x2 : Int32} {I : zI} {P : zP} {K : zI → zP → Prop} (hP : PSt P) (h : w_X2_doInstruction x1 x2 I P K) : Ev yX2_doInstruction cX2_doInstruction 5 none 4 92 0 0 [.ref 114, .ref x1, .int x2] SHy I P (zKv K) := by
  refine Ev.start [.ref 114, .ref x1, .int x2, .float 0, .float 0] pn_X2 rfl (Nat.le_of_ble_eq_true rfl) rfl (fun κ cx hE => ?_)
  unfold w_X2_doInstruction at h
  refine g_aload_n cx dX2_doInstruction_0 rfl ?_
  obtain ⟨hs1, h⟩ := h
  refine g_getI cx lk_X2_150 hs1 (Nat.le_of_ble_eq_true rfl) rfl dX2_doInstruction_1 (x := (I x1 5)) rfl ?_
  refine g_aload_n cx dX2_doInstruction_4 rfl ?_
  refine g_wVr cx [] [.int (I x1 5)] (e_X0_code hP h) mt_X0_code ml_X2_146 hs1 rfl rfl dX2_doInstruction_5 rfl rfl (Nat.le_of_ble_eq_true rfl) (Nat.le_of_ble_eq_true rfl) (Nat.le_of_ble_eq_true rfl) (fun v2 I2 P2 hP h => ?_)
  refine g_aload_n cx dX2_doInstruction_8 rfl ?_
  refine g_getI cx lk_X2_150 hs1 (Nat.le_of_ble_eq_true rfl) rfl dX2_doInstruction_9 (x := (I2 x1 5)) rfl ?_
  refine g_wSi cx [.ref v2, .int (I2 x1 5)] [.int (I x1 5)] (e_X9_sizeAt hP h) mt_X9_sizeAt ml_X2_202 dX2_doInstruction_12 rfl rfl (Nat.le_of_ble_eq_true rfl) (Nat.le_of_ble_eq_true rfl) (Nat.le_of_ble_eq_true rfl) (fun v3 I3 P3 hP h => ?_)
  refine g_iadd cx dX2_doInstruction_15 ?_
  refine g_istore_n cx dX2_doInstruction_16 (Nat.le_of_ble_eq_true rfl) (Gx.L [.ref 114, .ref x1, .int x2, .int ((I x1 5) + v3), .float 0] rfl ?_)
  refine g_iload_n cx dX2_doInstruction_17 rfl ?_
  refine g_bipush cx dX2_doInstruction_18 bp_8 ?_
  refine g_icmp_gt cx (tgt := 32) dX2_doInstruction_20 rfl (fun c4 => ?_) (fun c4 => ?_)
  · have h := zifp c4 h
    refine g_iload_n cx dX2_doInstruction_32 rfl ?_
    refine g_bipush cx dX2_doInstruction_33 bp_19 ?_
    refine g_icmp_gt cx (tgt := 47) dX2_doInstruction_35 rfl (fun c5 => ?_) (fun c5 => ?_)
    · have h := zifp c5 h
      refine g_iload_n cx dX2_doInstruction_47 rfl ?_
      refine g_bipush cx dX2_doInstruction_48 bp_33 ?_
      refine g_icmp_gt cx (tgt := 64) dX2_doInstruction_50 rfl (fun c6 => ?_) (fun c6 => ?_)
      · have h := zifp c6 h
        refine g_iload_n cx dX2_doInstruction_64 rfl ?_
        refine g_bipush cx dX2_doInstruction_65 bp_41 ?_
        refine g_icmp_ne cx (tgt := 104) dX2_doInstruction_67 rfl (fun c7 => ?_) (fun c7 => ?_)
        · have h := zifn c7 h
          refine g_aload_n cx dX2_doInstruction_104 rfl ?_
          refine g_aload_n cx dX2_doInstruction_105 rfl ?_
          refine g_iload_n cx dX2_doInstruction_106 rfl ?_
          refine g_wVv cx [.ref x1, .int x2] [] (e_X2_doMemory hP h) mt_X2_doMemory ml_X2_221 rfl rfl rfl dX2_doInstruction_107 rfl rfl (Nat.le_of_ble_eq_true rfl) (Nat.le_of_ble_eq_true rfl) (Nat.le_of_ble_eq_true rfl) (fun I8 P8 hP h => ?_)
          refine (Gx.unset 2 (Gx.L [.ref 114, .ref x1, .float 0, .int ((I x1 5) + v3), .float 0] rfl ?_))
          exact gj_X2_doInstruction_110 cx hE hP h
        · have h := zifp c7 h
          refine g_aload_n cx dX2_doInstruction_70 rfl ?_
          refine g_wVi cx [] [] (e_X0_pop hP h) mt_X0_pop ml_X2_215 hs1 rfl rfl dX2_doInstruction_71 rfl rfl (Nat.le_of_ble_eq_true rfl) (Nat.le_of_ble_eq_true rfl) (Nat.le_of_ble_eq_true rfl) (fun v9 I9 P9 hP h => ?_)
          refine g_istore cx dX2_doInstruction_74 (Nat.le_of_ble_eq_true rfl) (Gx.L [.ref 114, .ref x1, .int x2, .int ((I x1 5) + v3), .int v9] rfl ?_)
          refine g_aload_n cx dX2_doInstruction_76 rfl ?_
          refine g_aload_n cx dX2_doInstruction_77 rfl ?_
          refine g_iload cx dX2_doInstruction_78 rfl ?_
          refine g_iconst cx dX2_doInstruction_80 ic_1 ?_
          refine g_icmp_lt cx (tgt := 96) dX2_doInstruction_81 rfl (fun c10 => ?_) (fun c10 => ?_)
          · have h := zifp c10 h
            refine g_bipush cx dX2_doInstruction_96 bp_100 ?_
            refine g_wVv cx [.ref x1, .int 100] [] (e_X2_throwAt hP h) mt_X2_throwAt ml_X2_218 rfl rfl rfl dX2_doInstruction_98 rfl rfl (Nat.le_of_ble_eq_true rfl) (Nat.le_of_ble_eq_true rfl) (Nat.le_of_ble_eq_true rfl) (fun I11 P11 hP h => ?_)
            refine g_goto cx (tgt := 110) dX2_doInstruction_101 rfl ?_
            refine (Gx.unset 2 (Gx.unset 4 (Gx.L [.ref 114, .ref x1, .float 0, .int ((I x1 5) + v3), .float 0] rfl ?_)))
            exact gj_X2_doInstruction_110 cx hE hP h
          · have h := zifn c10 h
            refine g_iload cx dX2_doInstruction_84 rfl ?_
            refine g_bipush cx dX2_doInstruction_86 bp_99 ?_
            refine g_icmp_gt cx (tgt := 96) dX2_doInstruction_88 rfl (fun c12 => ?_) (fun c12 => ?_)
            · have h := zifp c12 h
              refine g_bipush cx dX2_doInstruction_96 bp_100 ?_
              refine g_wVv cx [.ref x1, .int 100] [] (e_X2_throwAt hP h) mt_X2_throwAt ml_X2_218 rfl rfl rfl dX2_doInstruction_98 rfl rfl (Nat.le_of_ble_eq_true rfl) (Nat.le_of_ble_eq_true rfl) (Nat.le_of_ble_eq_true rfl) (fun I13 P13 hP h => ?_)
              refine g_goto cx (tgt := 110) dX2_doInstruction_101 rfl ?_
              refine (Gx.unset 2 (Gx.unset 4 (Gx.L [.ref 114, .ref x1, .float 0, .int ((I x1 5) + v3), .float 0] rfl ?_)))
              exact gj_X2_doInstruction_110 cx hE hP h
            · have h := zifn c12 h
              refine g_iload cx dX2_doInstruction_91 rfl ?_
              refine g_goto cx (tgt := 98) dX2_doInstruction_93 rfl ?_
              refine g_wVv cx [.ref x1, .int v9] [] (e_X2_throwAt hP h) mt_X2_throwAt ml_X2_218 rfl rfl rfl dX2_doInstruction_98 rfl rfl (Nat.le_of_ble_eq_true rfl) (Nat.le_of_ble_eq_true rfl) (Nat.le_of_ble_eq_true rfl) (fun I14 P14 hP h => ?_)
              refine g_goto cx (tgt := 110) dX2_doInstruction_101 rfl ?_
              refine (Gx.unset 2 (Gx.unset 4 (Gx.L [.ref 114, .ref x1, .float 0, .int ((I x1 5) + v3), .float 0] rfl ?_)))
              exact gj_X2_doInstruction_110 cx hE hP h
      · have h := zifn c6 h
        refine g_aload_n cx dX2_doInstruction_53 rfl ?_
        refine g_aload_n cx dX2_doInstruction_54 rfl ?_
        refine g_iload_n cx dX2_doInstruction_55 rfl ?_
        refine g_iload_n cx dX2_doInstruction_56 rfl ?_
        refine g_wVi cx [.ref x1, .int x2, .int ((I x1 5) + v3)] [] (e_X2_whereJumped hP h) mt_X2_whereJumped ml_X2_211 rfl rfl rfl dX2_doInstruction_57 rfl rfl (Nat.le_of_ble_eq_true rfl) (Nat.le_of_ble_eq_true rfl) (Nat.le_of_ble_eq_true rfl) (fun v15 I15 P15 hP h => ?_)
        refine g_istore_n cx dX2_doInstruction_60 (Nat.le_of_ble_eq_true rfl) (Gx.L [.ref 114, .ref x1, .int x2, .int v15, .float 0] rfl ?_)
        refine g_goto cx (tgt := 110) dX2_doInstruction_61 rfl ?_
        refine (Gx.unset 2 (Gx.L [.ref 114, .ref x1, .float 0, .int v15, .float 0] rfl ?_))
        exact gj_X2_doInstruction_110 cx hE hP h
    · have h := zifn c5 h
      refine g_aload_n cx dX2_doInstruction_38 rfl ?_
      refine g_aload_n cx dX2_doInstruction_39 rfl ?_
      refine g_iload_n cx dX2_doInstruction_40 rfl ?_
      refine g_wVv cx [.ref x1, .int x2] [] (e_X2_doSum hP h) mt_X2_doSum ml_X2_208 rfl rfl rfl dX2_doInstruction_41 rfl rfl (Nat.le_of_ble_eq_true rfl) (Nat.le_of_ble_eq_true rfl) (Nat.le_of_ble_eq_true rfl) (fun I16 P16 hP h => ?_)
      refine g_goto cx (tgt := 110) dX2_doInstruction_44 rfl ?_
      refine (Gx.unset 2 (Gx.L [.ref 114, .ref x1, .float 0, .int ((I x1 5) + v3), .float 0] rfl ?_))
      exact gj_X2_doInstruction_110 cx hE hP h
  · have h := zifn c4 h
    refine g_aload_n cx dX2_doInstruction_23 rfl ?_
    refine g_aload_n cx dX2_doInstruction_24 rfl ?_
    refine g_iload_n cx dX2_doInstruction_25 rfl ?_
    refine g_wVv cx [.ref x1, .int x2] [] (e_X2_doMove hP h) mt_X2_doMove ml_X2_205 rfl rfl rfl dX2_doInstruction_26 rfl rfl (Nat.le_of_ble_eq_true rfl) (Nat.le_of_ble_eq_true rfl) (Nat.le_of_ble_eq_true rfl) (fun I17 P17 hP h => ?_)
    refine g_goto cx (tgt := 110) dX2_doInstruction_29 rfl ?_
    refine (Gx.unset 2 (Gx.L [.ref 114, .ref x1, .float 0, .int ((I x1 5) + v3), .float 0] rfl ?_))
    exact gj_X2_doInstruction_110 cx hE hP h
def j_X2_keepOld_52 (K : zI → zP → Prop) (s0 : Int32) (I : zI) (P : zP) : Prop := w_X2_cellInt s0 (zu I 114 13 s0) P (fun (v1 : Int32) (I1 : zI) (P1 : zP) => (K (zu I1 114 14 v1) P1))
theorem gj_X2_keepOld_52 {κ : zX} (cx : Cx yX2_keepOld cX2_keepOld 3 none 1 22 κ) {K : zI → zP → Prop} (hE : zEnd (zKv K) 0 0 κ) {s0 : Int32} {I : zI} {P : zP} (hP : PSt P) (h : j_X2_keepOld_52 K s0 I P) : Gx κ 52 [.ref 114, .float 0, .float 0] [.int s0, .ref 114] SHy I P 0 0 := by
  unfold j_X2_keepOld_52 at h
  refine g_pI cx lk_X2_46 rfl (Nat.le_of_ble_eq_true rfl) rfl dX2_keepOld_52 fi_2_13 rfl rfl ?_
  refine g_aload_n cx dX2_keepOld_55 rfl ?_
  refine g_aload_n cx dX2_keepOld_56 rfl ?_
  refine g_aload_n cx dX2_keepOld_57 rfl ?_
  refine g_getI cx lk_X2_46 rfl (Nat.le_of_ble_eq_true rfl) rfl dX2_keepOld_58 (x := s0) rfl ?_
  refine g_wVi cx [.int s0] [.ref 114] (e_X2_cellInt hP h) mt_X2_cellInt ml_X2_256 rfl rfl rfl dX2_keepOld_61 rfl rfl (Nat.le_of_ble_eq_true rfl) (Nat.le_of_ble_eq_true rfl) (Nat.le_of_ble_eq_true rfl) (fun v1 I1 P1 hP h => ?_)
  refine g_pI cx lk_X2_49 rfl (Nat.le_of_ble_eq_true rfl) rfl dX2_keepOld_64 fi_2_14 rfl rfl ?_
  exact g_wv cx hE dX2_keepOld_67 rfl hP h
def w_X2_keepOld (x1 : Nat) (I : zI) (P : zP) (K : zI → zP → Prop) : Prop := SHy[x1]? = some (0, 6) ∧ (∃ v2, P x1 3 = some v2 ∧ (SHy[v2]? = some (3, 11) ∧ (∃ v5, P v2 1 = some v5 ∧ (w_X9_byteAt v5 (I 114 16) I P (fun (v7 : Int32) (I7 : zI) (P7 : zP) => (if v7 = 35 then (w_X9_byteAt v5 ((I7 114 16) + 1) I7 P7 (fun (v12 : Int32) (I12 : zI) (P12 : zP) => (w_X2_fieldCell v12 I12 P12 (fun (v13 : Int32) (I13 : zI) (P13 : zP) => (j_X2_keepOld_52 K v13 I13 P13))))) else (w_X0_peek x1 2 I7 P7 (fun (v9 : Int32) (I9 : zI) (P9 : zP) => (w_X0_peek x1 1 I9 P9 (fun (v10 : Int32) (I10 : zI) (P10 : zP) => (w_X2_rowCell v9 v10 I10 P10 (fun (v11 : Int32) (I11 : zI) (P11 : zP) => (j_X2_keepOld_52 K v11 I11 P11)))))))))))))
theorem e_X2_keepOld {x1 : Nat} {I : zI} {P : zP} {K : zI → zP → Prop} (hP : PSt P) (h : w_X2_keepOld x1 I P K) : Ev yX2_keepOld cX2_keepOld 3 none 1 22 0 0 [.ref 114, .ref x1] SHy I P (zKv K) := by
  refine Ev.start [.ref 114, .ref x1, .float 0] pn_X2 rfl (Nat.le_of_ble_eq_true rfl) rfl (fun κ cx hE => ?_)
  unfold w_X2_keepOld at h
  refine g_aload_n cx dX2_keepOld_0 rfl ?_
  obtain ⟨hs1, h⟩ := h
  obtain ⟨v2, hv3, h⟩ := h
  refine g_getR cx lk_X2_289 hs1 (Nat.le_of_ble_eq_true rfl) rfl dX2_keepOld_1 hv3 ?_
  obtain ⟨hs4, h⟩ := h
  obtain ⟨v5, hv6, h⟩ := h
  refine g_getR cx lk_X2_351 hs4 (Nat.le_of_ble_eq_true rfl) rfl dX2_keepOld_4 hv6 ?_
  refine g_astore_n cx dX2_keepOld_7 (Nat.le_of_ble_eq_true rfl) (Gx.L [.ref 114, .ref x1, .ref v5] rfl ?_)
  refine g_aload_n cx dX2_keepOld_8 rfl ?_
  refine g_aload_n cx dX2_keepOld_9 rfl ?_
  refine g_aload_n cx dX2_keepOld_10 rfl ?_
  refine g_getI cx lk_X2_56 rfl (Nat.le_of_ble_eq_true rfl) rfl dX2_keepOld_11 (x := (I 114 16)) rfl ?_
  refine g_wSi cx [.ref v5, .int (I 114 16)] [.ref 114] (e_X9_byteAt hP h) mt_X9_byteAt ml_X2_153 dX2_keepOld_14 rfl rfl (Nat.le_of_ble_eq_true rfl) (Nat.le_of_ble_eq_true rfl) (Nat.le_of_ble_eq_true rfl) (fun v7 I7 P7 hP h => ?_)
  refine g_bipush cx dX2_keepOld_17 bp_35 ?_
  refine g_icmp_ne cx (tgt := 38) dX2_keepOld_19 rfl (fun c8 => ?_) (fun c8 => ?_)
  · have h := zifn c8 h
    refine g_aload_n cx dX2_keepOld_38 rfl ?_
    refine g_aload_n cx dX2_keepOld_39 rfl ?_
    refine g_iconst cx dX2_keepOld_40 ic_2 ?_
    refine g_wVi cx [.int 2] [.ref 114, .ref 114] (e_X0_peek hP h) mt_X0_peek ml_X2_243 hs1 rfl rfl dX2_keepOld_41 rfl rfl (Nat.le_of_ble_eq_true rfl) (Nat.le_of_ble_eq_true rfl) (Nat.le_of_ble_eq_true rfl) (fun v9 I9 P9 hP h => ?_)
    refine g_aload_n cx dX2_keepOld_44 rfl ?_
    refine g_iconst cx dX2_keepOld_45 ic_1 ?_
    refine g_wVi cx [.int 1] [.int v9, .ref 114, .ref 114] (e_X0_peek hP h) mt_X0_peek ml_X2_243 hs1 rfl rfl dX2_keepOld_46 rfl rfl (Nat.le_of_ble_eq_true rfl) (Nat.le_of_ble_eq_true rfl) (Nat.le_of_ble_eq_true rfl) (fun v10 I10 P10 hP h => ?_)
    refine g_wVi cx [.int v9, .int v10] [.ref 114] (e_X2_rowCell hP h) mt_X2_rowCell ml_X2_280 rfl rfl rfl dX2_keepOld_49 rfl rfl (Nat.le_of_ble_eq_true rfl) (Nat.le_of_ble_eq_true rfl) (Nat.le_of_ble_eq_true rfl) (fun v11 I11 P11 hP h => ?_)
    refine (Gx.unset 1 (Gx.unset 2 (Gx.L [.ref 114, .float 0, .float 0] rfl ?_)))
    exact gj_X2_keepOld_52 cx hE hP h
  · have h := zifp c8 h
    refine g_aload_n cx dX2_keepOld_22 rfl ?_
    refine g_aload_n cx dX2_keepOld_23 rfl ?_
    refine g_getI cx lk_X2_56 rfl (Nat.le_of_ble_eq_true rfl) rfl dX2_keepOld_24 (x := (I7 114 16)) rfl ?_
    refine g_iconst cx dX2_keepOld_27 ic_1 ?_
    refine g_iadd cx dX2_keepOld_28 ?_
    refine g_wSi cx [.ref v5, .int ((I7 114 16) + 1)] [.ref 114] (e_X9_byteAt hP h) mt_X9_byteAt ml_X2_153 dX2_keepOld_29 rfl rfl (Nat.le_of_ble_eq_true rfl) (Nat.le_of_ble_eq_true rfl) (Nat.le_of_ble_eq_true rfl) (fun v12 I12 P12 hP h => ?_)
    refine g_wSi cx [.int v12] [.ref 114] (e_X2_fieldCell hP h) mt_X2_fieldCell ml_X2_253 dX2_keepOld_32 rfl rfl (Nat.le_of_ble_eq_true rfl) (Nat.le_of_ble_eq_true rfl) (Nat.le_of_ble_eq_true rfl) (fun v13 I13 P13 hP h => ?_)
    refine g_goto cx (tgt := 52) dX2_keepOld_35 rfl ?_
    refine (Gx.unset 1 (Gx.unset 2 (Gx.L [.ref 114, .float 0, .float 0] rfl ?_)))
    exact gj_X2_keepOld_52 cx hE hP h
def w_X4_yOf (x1 : Int32) (I : zI) (P : zP) (K : Int32 → zI → zP → Prop) : Prop := if x1 < 0 then (K 0 I P) else (if 24 ≤ x1 then (K 0 I P) else (vp_in x1 24 ∧ (K (I 113 ((x1).toNatClampNeg)) I P)))
theorem e_X4_yOf {x1 : Int32} {I : zI} {P : zP} {K : Int32 → zI → zP → Prop} (hP : PSt P) (h : w_X4_yOf x1 I P K) : Ev yX4_yOf cX4_yOf 2 (some .int) 0 0 0 0 [.ref 108, .int x1] SHy I P (zKi K) := by
  refine Ev.start [.ref 108, .int x1] pn_X4 rfl (Nat.le_of_ble_eq_true rfl) rfl (fun κ cx hE => ?_)
  unfold w_X4_yOf at h
  refine g_iload_n cx dX4_yOf_0 rfl ?_
  refine g_if_lt cx (tgt := 19) dX4_yOf_1 rfl (fun c1 => ?_) (fun c1 => ?_)
  · have h := zifp c1 h
    refine g_iconst cx dX4_yOf_19 ic_0 ?_
    exact g_wi cx hE dX4_yOf_20 rfl rfl hP h
  · have h := zifn c1 h
    refine g_iload_n cx dX4_yOf_4 rfl ?_
    refine g_bipush cx dX4_yOf_5 bp_24 ?_
    refine g_icmp_ge cx (tgt := 19) dX4_yOf_7 rfl (fun c2 => ?_) (fun c2 => ?_)
    · have h := zifp c2 h
      refine g_iconst cx dX4_yOf_19 ic_0 ?_
      exact g_wi cx hE dX4_yOf_20 rfl rfl hP h
    · have h := zifn c2 h
      refine g_aload_n cx dX4_yOf_10 rfl ?_
      refine g_getR cx lk_X4_24 rfl (Nat.le_of_ble_eq_true rfl) rfl dX4_yOf_11 (v := 113) (pst hP 108 rfl) ?_
      refine g_iload_n cx dX4_yOf_14 rfl ?_
      obtain ⟨hc3, h⟩ := h
      refine g_iald cx dX4_yOf_15 rfl hc3 (x := (I 113 ((x1).toNatClampNeg))) rfl ?_
      refine g_goto cx (tgt := 20) dX4_yOf_16 rfl ?_
      exact g_wi cx hE dX4_yOf_20 rfl rfl hP h
def w_X2_passFault (x1 : Nat) (x2 : Int32) (I : zI) (P : zP) (K : zI → zP → Prop) : Prop := if x2 < 0 then (K I P) else (if x2 < 24 then (vp_in x2 24 ∧ (vp_in x2 24 ∧ (vp_in x2 24 ∧ (w_X4_xOf x2 (zu I 118 ((x2).toNatClampNeg) ((I 118 ((x2).toNatClampNeg)) + 1)) P (fun (v6 : Int32) (I6 : zI) (P6 : zP) => (if ((zu I 118 ((x2).toNatClampNeg) ((I 118 ((x2).toNatClampNeg)) + 1)) 118 ((x2).toNatClampNeg)) = v6 then (w_X4_yOf x2 I6 P6 (fun (v8 : Int32) (I8 : zI) (P8 : zP) => (w_X2_throwAt x1 v8 I8 P8 (fun (I9 : zI) (P9 : zP) => (K I9 P9))))) else (K I6 P6))))))) else (K I P))
theorem e_X2_passFault {x1 : Nat} {x2 : Int32} {I : zI} {P : zP} {K : zI → zP → Prop} (hP : PSt P) (h : w_X2_passFault x1 x2 I P K) : Ev yX2_passFault cX2_passFault 3 none 1 22 0 0 [.ref 114, .ref x1, .int x2] SHy I P (zKv K) := by
  refine Ev.start [.ref 114, .ref x1, .int x2] pn_X2 rfl (Nat.le_of_ble_eq_true rfl) rfl (fun κ cx hE => ?_)
  unfold w_X2_passFault at h
  refine g_iload_n cx dX2_passFault_0 rfl ?_
  refine g_if_lt cx (tgt := 10) dX2_passFault_1 rfl (fun c1 => ?_) (fun c1 => ?_)
  · have h := zifp c1 h
    exact g_wv cx hE dX2_passFault_10 rfl hP h
  · have h := zifn c1 h
    refine g_iload_n cx dX2_passFault_4 rfl ?_
    refine g_bipush cx dX2_passFault_5 bp_24 ?_
    refine g_icmp_lt cx (tgt := 11) dX2_passFault_7 rfl (fun c2 => ?_) (fun c2 => ?_)
    · have h := zifp c2 h
      refine g_aload_n cx dX2_passFault_11 rfl ?_
      refine g_getR cx lk_X2_24 rfl (Nat.le_of_ble_eq_true rfl) rfl dX2_passFault_12 (v := 118) (pst hP 115 rfl) ?_
      refine g_iload_n cx dX2_passFault_15 rfl ?_
      refine g_dup2 cx dX2_passFault_16 rfl rfl ?_
      obtain ⟨hc3, h⟩ := h
      refine g_iald cx dX2_passFault_17 rfl hc3 (x := (I 118 ((x2).toNatClampNeg))) rfl ?_
      refine g_iconst cx dX2_passFault_18 ic_1 ?_
      refine g_iadd cx dX2_passFault_19 ?_
      obtain ⟨hc4, h⟩ := h
      refine g_iast cx dX2_passFault_20 rfl hc4 ?_
      refine g_aload_n cx dX2_passFault_21 rfl ?_
      refine g_getR cx lk_X2_24 rfl (Nat.le_of_ble_eq_true rfl) rfl dX2_passFault_22 (v := 118) (pst hP 115 rfl) ?_
      refine g_iload_n cx dX2_passFault_25 rfl ?_
      obtain ⟨hc5, h⟩ := h
      refine g_iald cx dX2_passFault_26 rfl hc5 (x := ((zu I 118 ((x2).toNatClampNeg) ((I 118 ((x2).toNatClampNeg)) + 1)) 118 ((x2).toNatClampNeg))) rfl ?_
      refine g_aload_n cx dX2_passFault_27 rfl ?_
      refine g_getR cx lk_X2_63 rfl (Nat.le_of_ble_eq_true rfl) rfl dX2_passFault_28 (v := 108) (pst hP 117 rfl) ?_
      refine g_iload_n cx dX2_passFault_31 rfl ?_
      refine g_wVi cx [.int x2] [.int ((zu I 118 ((x2).toNatClampNeg) ((I 118 ((x2).toNatClampNeg)) + 1)) 118 ((x2).toNatClampNeg))] (e_X4_xOf hP h) mt_X4_xOf ml_X2_345 rfl rfl rfl dX2_passFault_32 rfl rfl (Nat.le_of_ble_eq_true rfl) (Nat.le_of_ble_eq_true rfl) (Nat.le_of_ble_eq_true rfl) (fun v6 I6 P6 hP h => ?_)
      refine g_icmp_ne cx (tgt := 51) dX2_passFault_35 rfl (fun c7 => ?_) (fun c7 => ?_)
      · have h := zifn c7 h
        exact g_wv cx hE dX2_passFault_51 rfl hP h
      · have h := zifp c7 h
        refine g_aload_n cx dX2_passFault_38 rfl ?_
        refine g_aload_n cx dX2_passFault_39 rfl ?_
        refine g_aload_n cx dX2_passFault_40 rfl ?_
        refine g_getR cx lk_X2_63 rfl (Nat.le_of_ble_eq_true rfl) rfl dX2_passFault_41 (v := 108) (pst hP 117 rfl) ?_
        refine g_iload_n cx dX2_passFault_44 rfl ?_
        refine g_wVi cx [.int x2] [.ref x1, .ref 114] (e_X4_yOf hP h) mt_X4_yOf ml_X2_348 rfl rfl rfl dX2_passFault_45 rfl rfl (Nat.le_of_ble_eq_true rfl) (Nat.le_of_ble_eq_true rfl) (Nat.le_of_ble_eq_true rfl) (fun v8 I8 P8 hP h => ?_)
        refine g_wVv cx [.ref x1, .int v8] [] (e_X2_throwAt hP h) mt_X2_throwAt ml_X2_218 rfl rfl rfl dX2_passFault_48 rfl rfl (Nat.le_of_ble_eq_true rfl) (Nat.le_of_ble_eq_true rfl) (Nat.le_of_ble_eq_true rfl) (fun I9 P9 hP h => ?_)
        exact g_wv cx hE dX2_passFault_51 rfl hP h
    · have h := zifn c2 h
      exact g_wv cx hE dX2_passFault_10 rfl hP h
def j_X2_doWovenOp_190 (K : zI → zP → Prop) (y1 : Nat) (y2 : Int32) (I : zI) (P : zP) : Prop := if (I 114 10) = 0 then (SHy[y1]? = some (0, 6) ∧ (if y2 = 49 then (K (zu I y1 5 ((I y1 5) + 3)) P) else (K (zu I y1 5 ((I y1 5) + 2)) P))) else (K I P)
theorem gj_X2_doWovenOp_190 {κ : zX} (cx : Cx yX2_doWovenOp cX2_doWovenOp 4 none 2 45 κ) {K : zI → zP → Prop} (hE : zEnd (zKv K) 0 0 κ) {y1 : Nat} {y2 : Int32} {I : zI} {P : zP} (hP : PSt P) (h : j_X2_doWovenOp_190 K y1 y2 I P) : Gx κ 190 [.ref 114, .ref y1, .int y2, .float 0] [] SHy I P 0 0 := by
  unfold j_X2_doWovenOp_190 at h
  refine g_aload_n cx dX2_doWovenOp_190 rfl ?_
  refine g_getI cx lk_X2_37 rfl (Nat.le_of_ble_eq_true rfl) rfl dX2_doWovenOp_191 (x := (I 114 10)) rfl ?_
  refine g_if_ne cx (tgt := 217) dX2_doWovenOp_194 rfl (fun c1 => ?_) (fun c1 => ?_)
  · have h := zifn c1 h
    exact g_wv cx hE dX2_doWovenOp_217 rfl hP h
  · have h := zifp c1 h
    refine g_aload_n cx dX2_doWovenOp_197 rfl ?_
    refine g_dup cx dX2_doWovenOp_198 rfl ?_
    obtain ⟨hs2, h⟩ := h
    refine g_getI cx lk_X2_150 hs2 (Nat.le_of_ble_eq_true rfl) rfl dX2_doWovenOp_199 (x := (I y1 5)) rfl ?_
    refine g_iload_n cx dX2_doWovenOp_202 rfl ?_
    refine g_bipush cx dX2_doWovenOp_203 bp_49 ?_
    refine g_icmp_ne cx (tgt := 212) dX2_doWovenOp_205 rfl (fun c3 => ?_) (fun c3 => ?_)
    · have h := zifn c3 h
      refine g_iconst cx dX2_doWovenOp_212 ic_2 ?_
      refine g_iadd cx dX2_doWovenOp_213 ?_
      refine g_pI cx lk_X2_150 hs2 (Nat.le_of_ble_eq_true rfl) rfl dX2_doWovenOp_214 fi_0_5 rfl rfl ?_
      exact g_wv cx hE dX2_doWovenOp_217 rfl hP h
    · have h := zifp c3 h
      refine g_iconst cx dX2_doWovenOp_208 ic_3 ?_
      refine g_goto cx (tgt := 213) dX2_doWovenOp_209 rfl ?_
      refine g_iadd cx dX2_doWovenOp_213 ?_
      refine g_pI cx lk_X2_150 hs2 (Nat.le_of_ble_eq_true rfl) rfl dX2_doWovenOp_214 fi_0_5 rfl rfl ?_
      exact g_wv cx hE dX2_doWovenOp_217 rfl hP h
def w_X2_doWovenOp (x1 : Nat) (x2 : Int32) (I : zI) (P : zP) (K : zI → zP → Prop) : Prop := SHy[x1]? = some (0, 6) ∧ (w_X0_operand x1 I P (fun (v2 : Int32) (I2 : zI) (P2 : zP) => (if x2 = 48 then (∃ v4, P2 114 6 = some v4 ∧ (SHy[v4]? = some (6, 13) ∧ (w_X6_addRecord v4 v2 0 I2 P2 (fun (I7 : zI) (P7 : zP) => (j_X2_doWovenOp_190 K x1 x2 I7 P7))))) else (if x2 = 49 then (∃ v9, P2 114 6 = some v9 ∧ (w_X0_code x1 I2 P2 (fun (v11 : Nat) (I11 : zI) (P11 : zP) => (w_X9_byteAt v11 ((I11 x1 5) + 2) I11 P11 (fun (v12 : Int32) (I12 : zI) (P12 : zP) => (SHy[v9]? = some (6, 13) ∧ (w_X6_addRecord v9 v2 v12 I12 P12 (fun (I14 : zI) (P14 : zP) => (j_X2_doWovenOp_190 K x1 x2 I14 P14))))))))) else (if x2 = 50 then (w_X2_noteArguments x1 v2 I2 P2 (fun (I16 : zI) (P16 : zP) => (j_X2_doWovenOp_190 K x1 x2 I16 P16))) else (if x2 = 51 then (∃ v18, P2 114 6 = some v18 ∧ (w_X0_peek x1 0 I2 P2 (fun (v20 : Int32) (I20 : zI) (P20 : zP) => (SHy[v18]? = some (6, 13) ∧ (w_X6_addRecord v18 v2 v20 I20 P20 (fun (I22 : zI) (P22 : zP) => (j_X2_doWovenOp_190 K x1 x2 I22 P22))))))) else (if x2 = 52 then (∃ v24, P2 114 6 = some v24 ∧ (w_X0_peek x1 0 I2 P2 (fun (v26 : Int32) (I26 : zI) (P26 : zP) => (SHy[v24]? = some (6, 13) ∧ (w_X6_addRecord v24 v2 (-v26) I26 P26 (fun (I28 : zI) (P28 : zP) => (j_X2_doWovenOp_190 K x1 x2 I28 P28))))))) else (if x2 = 53 then (w_X2_keepOld x1 I2 P2 (fun (I30 : zI) (P30 : zP) => (j_X2_doWovenOp_190 K x1 x2 I30 P30))) else (if x2 = 54 then (w_X2_noteStore v2 I2 P2 (fun (I32 : zI) (P32 : zP) => (j_X2_doWovenOp_190 K x1 x2 I32 P32))) else (if x2 = 55 then (∃ v34, P2 114 6 = some v34 ∧ (w_X0_peek x1 0 I2 P2 (fun (v36 : Int32) (I36 : zI) (P36 : zP) => (SHy[v34]? = some (6, 13) ∧ (w_X6_addRecord v34 v2 v36 I36 P36 (fun (I38 : zI) (P38 : zP) => (j_X2_doWovenOp_190 K x1 x2 I38 P38))))))) else (if x2 = 56 then (w_X2_passFault x1 v2 I2 P2 (fun (I40 : zI) (P40 : zP) => (j_X2_doWovenOp_190 K x1 x2 I40 P40))) else (if x2 = 57 then (w_X2_replaceTop x1 v2 I2 P2 (fun (I42 : zI) (P42 : zP) => (j_X2_doWovenOp_190 K x1 x2 I42 P42))) else (w_X0_pop x1 I2 P2 (fun (v43 : Int32) (I43 : zI) (P43 : zP) => (j_X2_doWovenOp_190 K x1 x2 (zu (zu I43 114 10 v43) 114 9 ((I43 114 9) - 1)) P43)))))))))))))))
theorem e_X2_doWovenOp {x1 : Nat} {x2 : Int32} {I : zI} {P : zP} {K : zI → zP → Prop} (hP : PSt P) (h : w_X2_doWovenOp x1 x2 I P K) : Ev yX2_doWovenOp cX2_doWovenOp 4 none 2 45 0 0 [.ref 114, .ref x1, .int x2] SHy I P (zKv K) := by
  refine Ev.start [.ref 114, .ref x1, .int x2, .float 0] pn_X2 rfl (Nat.le_of_ble_eq_true rfl) rfl (fun κ cx hE => ?_)
  unfold w_X2_doWovenOp at h
  refine g_aload_n cx dX2_doWovenOp_0 rfl ?_
  obtain ⟨hs1, h⟩ := h
  refine g_wVi cx [] [] (e_X0_operand hP h) mt_X0_operand ml_X2_227 hs1 rfl rfl dX2_doWovenOp_1 rfl rfl (Nat.le_of_ble_eq_true rfl) (Nat.le_of_ble_eq_true rfl) (Nat.le_of_ble_eq_true rfl) (fun v2 I2 P2 hP h => ?_)
  refine g_istore_n cx dX2_doWovenOp_4 (Nat.le_of_ble_eq_true rfl) (Gx.L [.ref 114, .ref x1, .int x2, .int v2] rfl ?_)
  refine g_iload_n cx dX2_doWovenOp_5 rfl ?_
  by_cases c3 : x2 = 48
  · have h := zifp c3 h
    refine g_tabIn cx (tgt := 60) (off := 54) dX2_doWovenOp_6 (by rw [c3]; decide) (by rw [c3]; decide) (by rw [c3]; rfl) rfl ?_
    refine g_aload_n cx dX2_doWovenOp_60 rfl ?_
    obtain ⟨v4, hv5, h⟩ := h
    refine g_getR cx lk_X2_67 rfl (Nat.le_of_ble_eq_true rfl) rfl dX2_doWovenOp_61 hv5 ?_
    refine g_iload_n cx dX2_doWovenOp_64 rfl ?_
    refine g_iconst cx dX2_doWovenOp_65 ic_0 ?_
    obtain ⟨hs6, h⟩ := h
    refine g_wVv cx [.int v2, .int 0] [] (e_X6_addRecord hP h) mt_X6_addRecord ml_X2_324 hs6 rfl rfl dX2_doWovenOp_66 rfl rfl (Nat.le_of_ble_eq_true rfl) (Nat.le_of_ble_eq_true rfl) (Nat.le_of_ble_eq_true rfl) (fun I7 P7 hP h => ?_)
    refine g_goto cx (tgt := 190) dX2_doWovenOp_69 rfl ?_
    refine (Gx.unset 3 (Gx.L [.ref 114, .ref x1, .int x2, .float 0] rfl ?_))
    exact gj_X2_doWovenOp_190 cx hE hP h
  · have h := zifn c3 h
    by_cases c8 : x2 = 49
    · have h := zifp c8 h
      refine g_tabIn cx (tgt := 72) (off := 66) dX2_doWovenOp_6 (by rw [c8]; decide) (by rw [c8]; decide) (by rw [c8]; rfl) rfl ?_
      refine g_aload_n cx dX2_doWovenOp_72 rfl ?_
      obtain ⟨v9, hv10, h⟩ := h
      refine g_getR cx lk_X2_67 rfl (Nat.le_of_ble_eq_true rfl) rfl dX2_doWovenOp_73 hv10 ?_
      refine g_iload_n cx dX2_doWovenOp_76 rfl ?_
      refine g_aload_n cx dX2_doWovenOp_77 rfl ?_
      refine g_wVr cx [] [.int v2, .ref v9] (e_X0_code hP h) mt_X0_code ml_X2_146 hs1 rfl rfl dX2_doWovenOp_78 rfl rfl (Nat.le_of_ble_eq_true rfl) (Nat.le_of_ble_eq_true rfl) (Nat.le_of_ble_eq_true rfl) (fun v11 I11 P11 hP h => ?_)
      refine g_aload_n cx dX2_doWovenOp_81 rfl ?_
      refine g_getI cx lk_X2_150 hs1 (Nat.le_of_ble_eq_true rfl) rfl dX2_doWovenOp_82 (x := (I11 x1 5)) rfl ?_
      refine g_iconst cx dX2_doWovenOp_85 ic_2 ?_
      refine g_iadd cx dX2_doWovenOp_86 ?_
      refine g_wSi cx [.ref v11, .int ((I11 x1 5) + 2)] [.int v2, .ref v9] (e_X9_byteAt hP h) mt_X9_byteAt ml_X2_153 dX2_doWovenOp_87 rfl rfl (Nat.le_of_ble_eq_true rfl) (Nat.le_of_ble_eq_true rfl) (Nat.le_of_ble_eq_true rfl) (fun v12 I12 P12 hP h => ?_)
      obtain ⟨hs13, h⟩ := h
      refine g_wVv cx [.int v2, .int v12] [] (e_X6_addRecord hP h) mt_X6_addRecord ml_X2_324 hs13 rfl rfl dX2_doWovenOp_90 rfl rfl (Nat.le_of_ble_eq_true rfl) (Nat.le_of_ble_eq_true rfl) (Nat.le_of_ble_eq_true rfl) (fun I14 P14 hP h => ?_)
      refine g_goto cx (tgt := 190) dX2_doWovenOp_93 rfl ?_
      refine (Gx.unset 3 (Gx.L [.ref 114, .ref x1, .int x2, .float 0] rfl ?_))
      exact gj_X2_doWovenOp_190 cx hE hP h
    · have h := zifn c8 h
      by_cases c15 : x2 = 50
      · have h := zifp c15 h
        refine g_tabIn cx (tgt := 96) (off := 90) dX2_doWovenOp_6 (by rw [c15]; decide) (by rw [c15]; decide) (by rw [c15]; rfl) rfl ?_
        refine g_aload_n cx dX2_doWovenOp_96 rfl ?_
        refine g_aload_n cx dX2_doWovenOp_97 rfl ?_
        refine g_iload_n cx dX2_doWovenOp_98 rfl ?_
        refine g_wVv cx [.ref x1, .int v2] [] (e_X2_noteArguments hP h) mt_X2_noteArguments ml_X2_327 rfl rfl rfl dX2_doWovenOp_99 rfl rfl (Nat.le_of_ble_eq_true rfl) (Nat.le_of_ble_eq_true rfl) (Nat.le_of_ble_eq_true rfl) (fun I16 P16 hP h => ?_)
        refine g_goto cx (tgt := 190) dX2_doWovenOp_102 rfl ?_
        refine (Gx.unset 3 (Gx.L [.ref 114, .ref x1, .int x2, .float 0] rfl ?_))
        exact gj_X2_doWovenOp_190 cx hE hP h
      · have h := zifn c15 h
        by_cases c17 : x2 = 51
        · have h := zifp c17 h
          refine g_tabIn cx (tgt := 105) (off := 99) dX2_doWovenOp_6 (by rw [c17]; decide) (by rw [c17]; decide) (by rw [c17]; rfl) rfl ?_
          refine g_aload_n cx dX2_doWovenOp_105 rfl ?_
          obtain ⟨v18, hv19, h⟩ := h
          refine g_getR cx lk_X2_67 rfl (Nat.le_of_ble_eq_true rfl) rfl dX2_doWovenOp_106 hv19 ?_
          refine g_iload_n cx dX2_doWovenOp_109 rfl ?_
          refine g_aload_n cx dX2_doWovenOp_110 rfl ?_
          refine g_iconst cx dX2_doWovenOp_111 ic_0 ?_
          refine g_wVi cx [.int 0] [.int v2, .ref v18] (e_X0_peek hP h) mt_X0_peek ml_X2_243 hs1 rfl rfl dX2_doWovenOp_112 rfl rfl (Nat.le_of_ble_eq_true rfl) (Nat.le_of_ble_eq_true rfl) (Nat.le_of_ble_eq_true rfl) (fun v20 I20 P20 hP h => ?_)
          obtain ⟨hs21, h⟩ := h
          refine g_wVv cx [.int v2, .int v20] [] (e_X6_addRecord hP h) mt_X6_addRecord ml_X2_324 hs21 rfl rfl dX2_doWovenOp_115 rfl rfl (Nat.le_of_ble_eq_true rfl) (Nat.le_of_ble_eq_true rfl) (Nat.le_of_ble_eq_true rfl) (fun I22 P22 hP h => ?_)
          refine g_goto cx (tgt := 190) dX2_doWovenOp_118 rfl ?_
          refine (Gx.unset 3 (Gx.L [.ref 114, .ref x1, .int x2, .float 0] rfl ?_))
          exact gj_X2_doWovenOp_190 cx hE hP h
        · have h := zifn c17 h
          by_cases c23 : x2 = 52
          · have h := zifp c23 h
            refine g_tabIn cx (tgt := 121) (off := 115) dX2_doWovenOp_6 (by rw [c23]; decide) (by rw [c23]; decide) (by rw [c23]; rfl) rfl ?_
            refine g_aload_n cx dX2_doWovenOp_121 rfl ?_
            obtain ⟨v24, hv25, h⟩ := h
            refine g_getR cx lk_X2_67 rfl (Nat.le_of_ble_eq_true rfl) rfl dX2_doWovenOp_122 hv25 ?_
            refine g_iload_n cx dX2_doWovenOp_125 rfl ?_
            refine g_aload_n cx dX2_doWovenOp_126 rfl ?_
            refine g_iconst cx dX2_doWovenOp_127 ic_0 ?_
            refine g_wVi cx [.int 0] [.int v2, .ref v24] (e_X0_peek hP h) mt_X0_peek ml_X2_243 hs1 rfl rfl dX2_doWovenOp_128 rfl rfl (Nat.le_of_ble_eq_true rfl) (Nat.le_of_ble_eq_true rfl) (Nat.le_of_ble_eq_true rfl) (fun v26 I26 P26 hP h => ?_)
            refine g_ineg cx dX2_doWovenOp_131 ?_
            obtain ⟨hs27, h⟩ := h
            refine g_wVv cx [.int v2, .int (-v26)] [] (e_X6_addRecord hP h) mt_X6_addRecord ml_X2_324 hs27 rfl rfl dX2_doWovenOp_132 rfl rfl (Nat.le_of_ble_eq_true rfl) (Nat.le_of_ble_eq_true rfl) (Nat.le_of_ble_eq_true rfl) (fun I28 P28 hP h => ?_)
            refine g_goto cx (tgt := 190) dX2_doWovenOp_135 rfl ?_
            refine (Gx.unset 3 (Gx.L [.ref 114, .ref x1, .int x2, .float 0] rfl ?_))
            exact gj_X2_doWovenOp_190 cx hE hP h
          · have h := zifn c23 h
            by_cases c29 : x2 = 53
            · have h := zifp c29 h
              refine g_tabIn cx (tgt := 138) (off := 132) dX2_doWovenOp_6 (by rw [c29]; decide) (by rw [c29]; decide) (by rw [c29]; rfl) rfl ?_
              refine g_aload_n cx dX2_doWovenOp_138 rfl ?_
              refine g_aload_n cx dX2_doWovenOp_139 rfl ?_
              refine g_wVv cx [.ref x1] [] (e_X2_keepOld hP h) mt_X2_keepOld ml_X2_336 rfl rfl rfl dX2_doWovenOp_140 rfl rfl (Nat.le_of_ble_eq_true rfl) (Nat.le_of_ble_eq_true rfl) (Nat.le_of_ble_eq_true rfl) (fun I30 P30 hP h => ?_)
              refine g_goto cx (tgt := 190) dX2_doWovenOp_143 rfl ?_
              refine (Gx.unset 3 (Gx.L [.ref 114, .ref x1, .int x2, .float 0] rfl ?_))
              exact gj_X2_doWovenOp_190 cx hE hP h
            · have h := zifn c29 h
              by_cases c31 : x2 = 54
              · have h := zifp c31 h
                refine g_tabIn cx (tgt := 146) (off := 140) dX2_doWovenOp_6 (by rw [c31]; decide) (by rw [c31]; decide) (by rw [c31]; rfl) rfl ?_
                refine g_aload_n cx dX2_doWovenOp_146 rfl ?_
                refine g_iload_n cx dX2_doWovenOp_147 rfl ?_
                refine g_wVv cx [.int v2] [] (e_X2_noteStore hP h) mt_X2_noteStore ml_X2_339 rfl rfl rfl dX2_doWovenOp_148 rfl rfl (Nat.le_of_ble_eq_true rfl) (Nat.le_of_ble_eq_true rfl) (Nat.le_of_ble_eq_true rfl) (fun I32 P32 hP h => ?_)
                refine g_goto cx (tgt := 190) dX2_doWovenOp_151 rfl ?_
                refine (Gx.unset 3 (Gx.L [.ref 114, .ref x1, .int x2, .float 0] rfl ?_))
                exact gj_X2_doWovenOp_190 cx hE hP h
              · have h := zifn c31 h
                by_cases c33 : x2 = 55
                · have h := zifp c33 h
                  refine g_tabIn cx (tgt := 105) (off := 99) dX2_doWovenOp_6 (by rw [c33]; decide) (by rw [c33]; decide) (by rw [c33]; rfl) rfl ?_
                  refine g_aload_n cx dX2_doWovenOp_105 rfl ?_
                  obtain ⟨v34, hv35, h⟩ := h
                  refine g_getR cx lk_X2_67 rfl (Nat.le_of_ble_eq_true rfl) rfl dX2_doWovenOp_106 hv35 ?_
                  refine g_iload_n cx dX2_doWovenOp_109 rfl ?_
                  refine g_aload_n cx dX2_doWovenOp_110 rfl ?_
                  refine g_iconst cx dX2_doWovenOp_111 ic_0 ?_
                  refine g_wVi cx [.int 0] [.int v2, .ref v34] (e_X0_peek hP h) mt_X0_peek ml_X2_243 hs1 rfl rfl dX2_doWovenOp_112 rfl rfl (Nat.le_of_ble_eq_true rfl) (Nat.le_of_ble_eq_true rfl) (Nat.le_of_ble_eq_true rfl) (fun v36 I36 P36 hP h => ?_)
                  obtain ⟨hs37, h⟩ := h
                  refine g_wVv cx [.int v2, .int v36] [] (e_X6_addRecord hP h) mt_X6_addRecord ml_X2_324 hs37 rfl rfl dX2_doWovenOp_115 rfl rfl (Nat.le_of_ble_eq_true rfl) (Nat.le_of_ble_eq_true rfl) (Nat.le_of_ble_eq_true rfl) (fun I38 P38 hP h => ?_)
                  refine g_goto cx (tgt := 190) dX2_doWovenOp_118 rfl ?_
                  refine (Gx.unset 3 (Gx.L [.ref 114, .ref x1, .int x2, .float 0] rfl ?_))
                  exact gj_X2_doWovenOp_190 cx hE hP h
                · have h := zifn c33 h
                  by_cases c39 : x2 = 56
                  · have h := zifp c39 h
                    refine g_tabIn cx (tgt := 154) (off := 148) dX2_doWovenOp_6 (by rw [c39]; decide) (by rw [c39]; decide) (by rw [c39]; rfl) rfl ?_
                    refine g_aload_n cx dX2_doWovenOp_154 rfl ?_
                    refine g_aload_n cx dX2_doWovenOp_155 rfl ?_
                    refine g_iload_n cx dX2_doWovenOp_156 rfl ?_
                    refine g_wVv cx [.ref x1, .int v2] [] (e_X2_passFault hP h) mt_X2_passFault ml_X2_333 rfl rfl rfl dX2_doWovenOp_157 rfl rfl (Nat.le_of_ble_eq_true rfl) (Nat.le_of_ble_eq_true rfl) (Nat.le_of_ble_eq_true rfl) (fun I40 P40 hP h => ?_)
                    refine g_goto cx (tgt := 190) dX2_doWovenOp_160 rfl ?_
                    refine (Gx.unset 3 (Gx.L [.ref 114, .ref x1, .int x2, .float 0] rfl ?_))
                    exact gj_X2_doWovenOp_190 cx hE hP h
                  · have h := zifn c39 h
                    by_cases c41 : x2 = 57
                    · have h := zifp c41 h
                      refine g_tabIn cx (tgt := 163) (off := 157) dX2_doWovenOp_6 (by rw [c41]; decide) (by rw [c41]; decide) (by rw [c41]; rfl) rfl ?_
                      refine g_aload_n cx dX2_doWovenOp_163 rfl ?_
                      refine g_aload_n cx dX2_doWovenOp_164 rfl ?_
                      refine g_iload_n cx dX2_doWovenOp_165 rfl ?_
                      refine g_wVv cx [.ref x1, .int v2] [] (e_X2_replaceTop hP h) mt_X2_replaceTop ml_X2_342 rfl rfl rfl dX2_doWovenOp_166 rfl rfl (Nat.le_of_ble_eq_true rfl) (Nat.le_of_ble_eq_true rfl) (Nat.le_of_ble_eq_true rfl) (fun I42 P42 hP h => ?_)
                      refine g_goto cx (tgt := 190) dX2_doWovenOp_169 rfl ?_
                      refine (Gx.unset 3 (Gx.L [.ref 114, .ref x1, .int x2, .float 0] rfl ?_))
                      exact gj_X2_doWovenOp_190 cx hE hP h
                    · have h := zifn c41 h
                      refine g_tabOut cx (tgt := 172) dX2_doWovenOp_6 (by have q0 : (x2 : Int32).toInt ≠ 48 := i32ne c3; have q1 : (x2 : Int32).toInt ≠ 49 := i32ne c8; have q2 : (x2 : Int32).toInt ≠ 50 := i32ne c15; have q3 : (x2 : Int32).toInt ≠ 51 := i32ne c17; have q4 : (x2 : Int32).toInt ≠ 52 := i32ne c23; have q5 : (x2 : Int32).toInt ≠ 53 := i32ne c29; have q6 : (x2 : Int32).toInt ≠ 54 := i32ne c31; have q7 : (x2 : Int32).toInt ≠ 55 := i32ne c33; have q8 : (x2 : Int32).toInt ≠ 56 := i32ne c39; have q9 : (x2 : Int32).toInt ≠ 57 := i32ne c41; omega) rfl ?_
                      refine g_aload_n cx dX2_doWovenOp_172 rfl ?_
                      refine g_aload_n cx dX2_doWovenOp_173 rfl ?_
                      refine g_wVi cx [] [.ref 114] (e_X0_pop hP h) mt_X0_pop ml_X2_215 hs1 rfl rfl dX2_doWovenOp_174 rfl rfl (Nat.le_of_ble_eq_true rfl) (Nat.le_of_ble_eq_true rfl) (Nat.le_of_ble_eq_true rfl) (fun v43 I43 P43 hP h => ?_)
                      refine g_pI cx lk_X2_37 rfl (Nat.le_of_ble_eq_true rfl) rfl dX2_doWovenOp_177 fi_2_10 rfl rfl ?_
                      refine g_aload_n cx dX2_doWovenOp_180 rfl ?_
                      refine g_dup cx dX2_doWovenOp_181 rfl ?_
                      refine g_getI cx lk_X2_34 rfl (Nat.le_of_ble_eq_true rfl) rfl dX2_doWovenOp_182 (x := (I43 114 9)) rfl ?_
                      refine g_iconst cx dX2_doWovenOp_185 ic_1 ?_
                      refine g_isub cx dX2_doWovenOp_186 ?_
                      refine g_pI cx lk_X2_34 rfl (Nat.le_of_ble_eq_true rfl) rfl dX2_doWovenOp_187 fi_2_9 rfl rfl ?_
                      refine (Gx.unset 3 (Gx.L [.ref 114, .ref x1, .int x2, .float 0] rfl ?_))
                      exact gj_X2_doWovenOp_190 cx hE hP h
def l_X2_noteAll_12 (K : zI → zP → Prop) : Nat → Nat → Int32 → Int32 → Int32 → Int32 → zI → zP → Prop
  | 0, _, _, _, _, _, _, _ => False
  | n + 1, y1, y2, y3, y4, y5, I, P => SHy[y1]? = some (0, 6) ∧ (∃ v2, P y1 3 = some v2 ∧ (SHy[v2]? = some (3, 11) ∧ (∃ v5, P v2 6 = some v5 ∧ (SHy[v5]? = some (8, 11) ∧ (if (I v5 10) ≤ y5 then (K I P) else (w_X4_sortOf y5 I P (fun (v9 : Int32) (I9 : zI) (P9 : zP) => (if v9 = y2 then (∃ v11, P9 y1 3 = some v11 ∧ (SHy[v11]? = some (3, 11) ∧ (w_X4_isAt y5 (I9 v11 0) y3 I9 P9 (fun (v14 : Int32) (I14 : zI) (P14 : zP) => (if v14 = 0 then ((l_X2_noteAll_12 K n) y1 y2 y3 y4 (y5 + 1) I14 P14) else (∃ v16, P14 114 6 = some v16 ∧ (SHy[v16]? = some (6, 13) ∧ (w_X6_addRecord v16 y5 y4 I14 P14 (fun (I19 : zI) (P19 : zP) => ((l_X2_noteAll_12 K n) y1 y2 y3 y4 (y5 + 1) I19 P19)))))))))) else ((l_X2_noteAll_12 K n) y1 y2 y3 y4 (y5 + 1) I9 P9)))))))))
theorem gl_X2_noteAll_12 {κ : zX} (cx : Cx yX2_noteAll cX2_noteAll 6 none 1 23 κ) {K : zI → zP → Prop} (hE : zEnd (zKv K) 0 0 κ) : ∀ (n : Nat) (y1 : Nat) (y2 : Int32) (y3 : Int32) (y4 : Int32) (y5 : Int32) (I : zI) (P : zP), PSt P → l_X2_noteAll_12 K n y1 y2 y3 y4 y5 I P → Gx κ 12 [.ref 114, .ref y1, .int y2, .int y3, .int y4, .int y5] [] SHy I P 0 0 := by
  intro n
  induction n with
  | zero =>
    intro y1 y2 y3 y4 y5 I P hP h
    rw [l_X2_noteAll_12] at h
    exact False.elim h
  | succ n ih =>
    intro y1 y2 y3 y4 y5 I P hP h
    rw [l_X2_noteAll_12] at h
    refine g_iload cx dX2_noteAll_12 rfl ?_
    refine g_aload_n cx dX2_noteAll_14 rfl ?_
    obtain ⟨hs1, h⟩ := h
    obtain ⟨v2, hv3, h⟩ := h
    refine g_getR cx lk_X2_289 hs1 (Nat.le_of_ble_eq_true rfl) rfl dX2_noteAll_15 hv3 ?_
    obtain ⟨hs4, h⟩ := h
    obtain ⟨v5, hv6, h⟩ := h
    refine g_getR cx lk_X2_130 hs4 (Nat.le_of_ble_eq_true rfl) rfl dX2_noteAll_18 hv6 ?_
    obtain ⟨hs7, h⟩ := h
    refine g_getI cx lk_X2_312 hs7 (Nat.le_of_ble_eq_true rfl) rfl dX2_noteAll_21 (x := (I v5 10)) rfl ?_
    refine g_icmp_ge cx (tgt := 77) dX2_noteAll_24 rfl (fun c8 => ?_) (fun c8 => ?_)
    · have h := zifp c8 h
      exact g_wv cx hE dX2_noteAll_77 rfl hP h
    · have h := zifn c8 h
      refine g_aload_n cx dX2_noteAll_27 rfl ?_
      refine g_getR cx lk_X2_63 rfl (Nat.le_of_ble_eq_true rfl) rfl dX2_noteAll_28 (v := 108) (pst hP 117 rfl) ?_
      refine g_iload cx dX2_noteAll_31 rfl ?_
      refine g_wVi cx [.int y5] [] (e_X4_sortOf hP h) mt_X4_sortOf ml_X2_315 rfl rfl rfl dX2_noteAll_33 rfl rfl (Nat.le_of_ble_eq_true rfl) (Nat.le_of_ble_eq_true rfl) (Nat.le_of_ble_eq_true rfl) (fun v9 I9 P9 hP h => ?_)
      refine g_iload_n cx dX2_noteAll_36 rfl ?_
      refine g_icmp_ne cx (tgt := 71) dX2_noteAll_37 rfl (fun c10 => ?_) (fun c10 => ?_)
      · have h := zifn c10 h
        refine g_iinc cx (v := (y5 + 1)) dX2_noteAll_71 rfl rfl (Nat.le_of_ble_eq_true rfl) (Gx.L [.ref 114, .ref y1, .int y2, .int y3, .int y4, .int (y5 + 1)] rfl ?_)
        refine g_goto cx (tgt := 12) dX2_noteAll_74 rfl ?_
        exact ih _ _ _ _ _ _ _ hP h
      · have h := zifp c10 h
        refine g_aload_n cx dX2_noteAll_40 rfl ?_
        refine g_getR cx lk_X2_63 rfl (Nat.le_of_ble_eq_true rfl) rfl dX2_noteAll_41 (v := 108) (pst hP 117 rfl) ?_
        refine g_iload cx dX2_noteAll_44 rfl ?_
        refine g_aload_n cx dX2_noteAll_46 rfl ?_
        obtain ⟨v11, hv12, h⟩ := h
        refine g_getR cx lk_X2_289 hs1 (Nat.le_of_ble_eq_true rfl) rfl dX2_noteAll_47 hv12 ?_
        obtain ⟨hs13, h⟩ := h
        refine g_getI cx lk_X2_293 hs13 (Nat.le_of_ble_eq_true rfl) rfl dX2_noteAll_50 (x := (I9 v11 0)) rfl ?_
        refine g_iload_n cx dX2_noteAll_53 rfl ?_
        refine g_wVi cx [.int y5, .int (I9 v11 0), .int y3] [] (e_X4_isAt hP h) mt_X4_isAt ml_X2_320 rfl rfl rfl dX2_noteAll_54 rfl rfl (Nat.le_of_ble_eq_true rfl) (Nat.le_of_ble_eq_true rfl) (Nat.le_of_ble_eq_true rfl) (fun v14 I14 P14 hP h => ?_)
        refine g_if_eq cx (tgt := 71) dX2_noteAll_57 rfl (fun c15 => ?_) (fun c15 => ?_)
        · have h := zifp c15 h
          refine g_iinc cx (v := (y5 + 1)) dX2_noteAll_71 rfl rfl (Nat.le_of_ble_eq_true rfl) (Gx.L [.ref 114, .ref y1, .int y2, .int y3, .int y4, .int (y5 + 1)] rfl ?_)
          refine g_goto cx (tgt := 12) dX2_noteAll_74 rfl ?_
          exact ih _ _ _ _ _ _ _ hP h
        · have h := zifn c15 h
          refine g_aload_n cx dX2_noteAll_60 rfl ?_
          obtain ⟨v16, hv17, h⟩ := h
          refine g_getR cx lk_X2_67 rfl (Nat.le_of_ble_eq_true rfl) rfl dX2_noteAll_61 hv17 ?_
          refine g_iload cx dX2_noteAll_64 rfl ?_
          refine g_iload cx dX2_noteAll_66 rfl ?_
          obtain ⟨hs18, h⟩ := h
          refine g_wVv cx [.int y5, .int y4] [] (e_X6_addRecord hP h) mt_X6_addRecord ml_X2_324 hs18 rfl rfl dX2_noteAll_68 rfl rfl (Nat.le_of_ble_eq_true rfl) (Nat.le_of_ble_eq_true rfl) (Nat.le_of_ble_eq_true rfl) (fun I19 P19 hP h => ?_)
          refine g_iinc cx (v := (y5 + 1)) dX2_noteAll_71 rfl rfl (Nat.le_of_ble_eq_true rfl) (Gx.L [.ref 114, .ref y1, .int y2, .int y3, .int y4, .int (y5 + 1)] rfl ?_)
          refine g_goto cx (tgt := 12) dX2_noteAll_74 rfl ?_
          exact ih _ _ _ _ _ _ _ hP h
def w_X2_noteAll (x1 : Nat) (x2 : Int32) (x3 : Int32) (x4 : Int32) (I : zI) (P : zP) (K : zI → zP → Prop) : Prop := w_X2_isWatched x1 I P (fun (v1 : Int32) (I1 : zI) (P1 : zP) => (if v1 = 0 then (K I1 P1) else (∃ n9, l_X2_noteAll_12 K n9 x1 x2 x3 x4 0 I1 P1)))
theorem e_X2_noteAll {x1 : Nat} {x2 : Int32} {x3 : Int32} {x4 : Int32} {I : zI} {P : zP} {K : zI → zP → Prop} (hP : PSt P) (h : w_X2_noteAll x1 x2 x3 x4 I P K) : Ev yX2_noteAll cX2_noteAll 6 none 1 23 0 0 [.ref 114, .ref x1, .int x2, .int x3, .int x4] SHy I P (zKv K) := by
  refine Ev.start [.ref 114, .ref x1, .int x2, .int x3, .int x4, .float 0] pn_X2 rfl (Nat.le_of_ble_eq_true rfl) rfl (fun κ cx hE => ?_)
  unfold w_X2_noteAll at h
  refine g_aload_n cx dX2_noteAll_0 rfl ?_
  refine g_aload_n cx dX2_noteAll_1 rfl ?_
  refine g_wVi cx [.ref x1] [] (e_X2_isWatched hP h) mt_X2_isWatched ml_X2_306 rfl rfl rfl dX2_noteAll_2 rfl rfl (Nat.le_of_ble_eq_true rfl) (Nat.le_of_ble_eq_true rfl) (Nat.le_of_ble_eq_true rfl) (fun v1 I1 P1 hP h => ?_)
  refine g_if_ne cx (tgt := 9) dX2_noteAll_5 rfl (fun c2 => ?_) (fun c2 => ?_)
  · have h := zifn c2 h
    refine g_iconst cx dX2_noteAll_9 ic_0 ?_
    refine g_istore cx dX2_noteAll_10 (Nat.le_of_ble_eq_true rfl) (Gx.L [.ref 114, .ref x1, .int x2, .int x3, .int x4, .int 0] rfl ?_)
    obtain ⟨n9, h⟩ := h
    exact gl_X2_noteAll_12 cx hE n9 _ _ _ _ _ _ _ hP h
  · have h := zifp c2 h
    exact g_wv cx hE dX2_noteAll_8 rfl hP h
def j_X2_passAhead_134 (K : zI → zP → Prop) (y1 : Nat) (I : zI) (P : zP) : Prop := w_X2_keepOld y1 I P (fun (I1 : zI) (P1 : zP) => (K I1 P1))
theorem gj_X2_passAhead_134 {κ : zX} (cx : Cx yX2_passAhead cX2_passAhead 4 none 2 48 κ) {K : zI → zP → Prop} (hE : zEnd (zKv K) 0 0 κ) {y1 : Nat} {I : zI} {P : zP} (hP : PSt P) (h : j_X2_passAhead_134 K y1 I P) : Gx κ 134 [.ref 114, .ref y1, .float 0, .float 0] [] SHy I P 0 0 := by
  unfold j_X2_passAhead_134 at h
  refine g_aload_n cx dX2_passAhead_134 rfl ?_
  refine g_aload_n cx dX2_passAhead_135 rfl ?_
  refine g_wVv cx [.ref y1] [] (e_X2_keepOld hP h) mt_X2_keepOld ml_X2_336 rfl rfl rfl dX2_passAhead_136 rfl rfl (Nat.le_of_ble_eq_true rfl) (Nat.le_of_ble_eq_true rfl) (Nat.le_of_ble_eq_true rfl) (fun I1 P1 hP h => ?_)
  exact g_wv cx hE dX2_passAhead_139 rfl hP h
def j_X2_passAhead_93 (K : zI → zP → Prop) (y1 : Nat) (y2 : Int32) (I : zI) (P : zP) : Prop := if (I 114 10) = 0 then (if y2 = 42 then (SHy[y1]? = some (0, 6) ∧ (w_X0_peek y1 0 I P (fun (v6 : Int32) (I6 : zI) (P6 : zP) => (w_X2_noteAll y1 3 0 v6 I6 P6 (fun (I7 : zI) (P7 : zP) => (K I7 P7)))))) else (if y2 = 35 then (j_X2_passAhead_134 K y1 I P) else (if y2 = 39 then (j_X2_passAhead_134 K y1 I P) else (K I P)))) else (K I P)
theorem gj_X2_passAhead_93 {κ : zX} (cx : Cx yX2_passAhead cX2_passAhead 4 none 2 48 κ) {K : zI → zP → Prop} (hE : zEnd (zKv K) 0 0 κ) {y1 : Nat} {y2 : Int32} {I : zI} {P : zP} (hP : PSt P) (h : j_X2_passAhead_93 K y1 y2 I P) : Gx κ 93 [.ref 114, .ref y1, .int y2, .float 0] [] SHy I P 0 0 := by
  unfold j_X2_passAhead_93 at h
  refine g_aload_n cx dX2_passAhead_93 rfl ?_
  refine g_getI cx lk_X2_37 rfl (Nat.le_of_ble_eq_true rfl) rfl dX2_passAhead_94 (x := (I 114 10)) rfl ?_
  refine g_if_eq cx (tgt := 101) dX2_passAhead_97 rfl (fun c1 => ?_) (fun c1 => ?_)
  · have h := zifp c1 h
    refine g_iload_n cx dX2_passAhead_101 rfl ?_
    refine g_bipush cx dX2_passAhead_102 bp_42 ?_
    refine g_icmp_ne cx (tgt := 122) dX2_passAhead_104 rfl (fun c2 => ?_) (fun c2 => ?_)
    · have h := zifn c2 h
      refine g_iload_n cx dX2_passAhead_122 rfl ?_
      refine g_bipush cx dX2_passAhead_123 bp_35 ?_
      refine g_icmp_eq cx (tgt := 134) dX2_passAhead_125 rfl (fun c3 => ?_) (fun c3 => ?_)
      · have h := zifp c3 h
        refine (Gx.unset 2 (Gx.L [.ref 114, .ref y1, .float 0, .float 0] rfl ?_))
        exact gj_X2_passAhead_134 cx hE hP h
      · have h := zifn c3 h
        refine g_iload_n cx dX2_passAhead_128 rfl ?_
        refine g_bipush cx dX2_passAhead_129 bp_39 ?_
        refine g_icmp_ne cx (tgt := 139) dX2_passAhead_131 rfl (fun c4 => ?_) (fun c4 => ?_)
        · have h := zifn c4 h
          exact g_wv cx hE dX2_passAhead_139 rfl hP h
        · have h := zifp c4 h
          refine (Gx.unset 2 (Gx.L [.ref 114, .ref y1, .float 0, .float 0] rfl ?_))
          exact gj_X2_passAhead_134 cx hE hP h
    · have h := zifp c2 h
      refine g_aload_n cx dX2_passAhead_107 rfl ?_
      refine g_aload_n cx dX2_passAhead_108 rfl ?_
      refine g_iconst cx dX2_passAhead_109 ic_3 ?_
      refine g_iconst cx dX2_passAhead_110 ic_0 ?_
      refine g_aload_n cx dX2_passAhead_111 rfl ?_
      refine g_iconst cx dX2_passAhead_112 ic_0 ?_
      obtain ⟨hs5, h⟩ := h
      refine g_wVi cx [.int 0] [.int 0, .int 3, .ref y1, .ref 114] (e_X0_peek hP h) mt_X0_peek ml_X2_243 hs5 rfl rfl dX2_passAhead_113 rfl rfl (Nat.le_of_ble_eq_true rfl) (Nat.le_of_ble_eq_true rfl) (Nat.le_of_ble_eq_true rfl) (fun v6 I6 P6 hP h => ?_)
      refine g_wVv cx [.ref y1, .int 3, .int 0, .int v6] [] (e_X2_noteAll hP h) mt_X2_noteAll ml_X2_300 rfl rfl rfl dX2_passAhead_116 rfl rfl (Nat.le_of_ble_eq_true rfl) (Nat.le_of_ble_eq_true rfl) (Nat.le_of_ble_eq_true rfl) (fun I7 P7 hP h => ?_)
      refine g_goto cx (tgt := 139) dX2_passAhead_119 rfl ?_
      exact g_wv cx hE dX2_passAhead_139 rfl hP h
  · have h := zifn c1 h
    exact g_wv cx hE dX2_passAhead_100 rfl hP h
def l_X2_passAhead_2 (K : zI → zP → Prop) : Nat → Nat → Int32 → Int32 → zI → zP → Prop
  | 0, _, _, _, _, _ => False
  | n + 1, y1, y2, y3, I, P => SHy[y1]? = some (0, 6) ∧ (∃ v2, P y1 3 = some v2 ∧ (SHy[v2]? = some (3, 11) ∧ (∃ v5, P v2 6 = some v5 ∧ (SHy[v5]? = some (8, 11) ∧ (if (I v5 10) ≤ y3 then (j_X2_passAhead_93 K y1 y2 I P) else (if (I 114 10) = 0 then (∃ v10, P y1 3 = some v10 ∧ (SHy[v10]? = some (3, 11) ∧ (w_X4_isAt y3 (I v10 0) (I y1 5) I P (fun (v13 : Int32) (I13 : zI) (P13 : zP) => (if v13 = 0 then ((l_X2_passAhead_2 K n) y1 y2 (y3 + 1) I13 P13) else (w_X4_sortOf y3 I13 P13 (fun (v15 : Int32) (I15 : zI) (P15 : zP) => (if v15 = 0 then (∃ v20, P15 114 6 = some v20 ∧ (SHy[v20]? = some (6, 13) ∧ (w_X6_addRecord v20 y3 0 I15 P15 (fun (I23 : zI) (P23 : zP) => ((l_X2_passAhead_2 K n) y1 y2 (y3 + 1) I23 P23))))) else (w_X4_sortOf y3 I15 P15 (fun (v17 : Int32) (I17 : zI) (P17 : zP) => (if v17 = 6 then (w_X2_passFault y1 y3 I17 P17 (fun (I19 : zI) (P19 : zP) => ((l_X2_passAhead_2 K n) y1 y2 (y3 + 1) I19 P19))) else ((l_X2_passAhead_2 K n) y1 y2 (y3 + 1) I17 P17)))))))))))) else (j_X2_passAhead_93 K y1 y2 I P)))))))
theorem gl_X2_passAhead_2 {κ : zX} (cx : Cx yX2_passAhead cX2_passAhead 4 none 2 48 κ) {K : zI → zP → Prop} (hE : zEnd (zKv K) 0 0 κ) : ∀ (n : Nat) (y1 : Nat) (y2 : Int32) (y3 : Int32) (I : zI) (P : zP), PSt P → l_X2_passAhead_2 K n y1 y2 y3 I P → Gx κ 2 [.ref 114, .ref y1, .int y2, .int y3] [] SHy I P 0 0 := by
  intro n
  induction n with
  | zero =>
    intro y1 y2 y3 I P hP h
    rw [l_X2_passAhead_2] at h
    exact False.elim h
  | succ n ih =>
    intro y1 y2 y3 I P hP h
    rw [l_X2_passAhead_2] at h
    refine g_iload_n cx dX2_passAhead_2 rfl ?_
    refine g_aload_n cx dX2_passAhead_3 rfl ?_
    obtain ⟨hs1, h⟩ := h
    obtain ⟨v2, hv3, h⟩ := h
    refine g_getR cx lk_X2_289 hs1 (Nat.le_of_ble_eq_true rfl) rfl dX2_passAhead_4 hv3 ?_
    obtain ⟨hs4, h⟩ := h
    obtain ⟨v5, hv6, h⟩ := h
    refine g_getR cx lk_X2_130 hs4 (Nat.le_of_ble_eq_true rfl) rfl dX2_passAhead_7 hv6 ?_
    obtain ⟨hs7, h⟩ := h
    refine g_getI cx lk_X2_312 hs7 (Nat.le_of_ble_eq_true rfl) rfl dX2_passAhead_10 (x := (I v5 10)) rfl ?_
    refine g_icmp_ge cx (tgt := 93) dX2_passAhead_13 rfl (fun c8 => ?_) (fun c8 => ?_)
    · have h := zifp c8 h
      refine (Gx.unset 3 (Gx.L [.ref 114, .ref y1, .int y2, .float 0] rfl ?_))
      exact gj_X2_passAhead_93 cx hE hP h
    · have h := zifn c8 h
      refine g_aload_n cx dX2_passAhead_16 rfl ?_
      refine g_getI cx lk_X2_37 rfl (Nat.le_of_ble_eq_true rfl) rfl dX2_passAhead_17 (x := (I 114 10)) rfl ?_
      refine g_if_ne cx (tgt := 93) dX2_passAhead_20 rfl (fun c9 => ?_) (fun c9 => ?_)
      · have h := zifn c9 h
        refine (Gx.unset 3 (Gx.L [.ref 114, .ref y1, .int y2, .float 0] rfl ?_))
        exact gj_X2_passAhead_93 cx hE hP h
      · have h := zifp c9 h
        refine g_aload_n cx dX2_passAhead_23 rfl ?_
        refine g_getR cx lk_X2_63 rfl (Nat.le_of_ble_eq_true rfl) rfl dX2_passAhead_24 (v := 108) (pst hP 117 rfl) ?_
        refine g_iload_n cx dX2_passAhead_27 rfl ?_
        refine g_aload_n cx dX2_passAhead_28 rfl ?_
        obtain ⟨v10, hv11, h⟩ := h
        refine g_getR cx lk_X2_289 hs1 (Nat.le_of_ble_eq_true rfl) rfl dX2_passAhead_29 hv11 ?_
        obtain ⟨hs12, h⟩ := h
        refine g_getI cx lk_X2_293 hs12 (Nat.le_of_ble_eq_true rfl) rfl dX2_passAhead_32 (x := (I v10 0)) rfl ?_
        refine g_aload_n cx dX2_passAhead_35 rfl ?_
        refine g_getI cx lk_X2_150 hs1 (Nat.le_of_ble_eq_true rfl) rfl dX2_passAhead_36 (x := (I y1 5)) rfl ?_
        refine g_wVi cx [.int y3, .int (I v10 0), .int (I y1 5)] [] (e_X4_isAt hP h) mt_X4_isAt ml_X2_320 rfl rfl rfl dX2_passAhead_39 rfl rfl (Nat.le_of_ble_eq_true rfl) (Nat.le_of_ble_eq_true rfl) (Nat.le_of_ble_eq_true rfl) (fun v13 I13 P13 hP h => ?_)
        refine g_if_eq cx (tgt := 87) dX2_passAhead_42 rfl (fun c14 => ?_) (fun c14 => ?_)
        · have h := zifp c14 h
          refine g_iinc cx (v := (y3 + 1)) dX2_passAhead_87 rfl rfl (Nat.le_of_ble_eq_true rfl) (Gx.L [.ref 114, .ref y1, .int y2, .int (y3 + 1)] rfl ?_)
          refine g_goto cx (tgt := 2) dX2_passAhead_90 rfl ?_
          exact ih _ _ _ _ _ hP h
        · have h := zifn c14 h
          refine g_aload_n cx dX2_passAhead_45 rfl ?_
          refine g_getR cx lk_X2_63 rfl (Nat.le_of_ble_eq_true rfl) rfl dX2_passAhead_46 (v := 108) (pst hP 117 rfl) ?_
          refine g_iload_n cx dX2_passAhead_49 rfl ?_
          refine g_wVi cx [.int y3] [] (e_X4_sortOf hP h) mt_X4_sortOf ml_X2_315 rfl rfl rfl dX2_passAhead_50 rfl rfl (Nat.le_of_ble_eq_true rfl) (Nat.le_of_ble_eq_true rfl) (Nat.le_of_ble_eq_true rfl) (fun v15 I15 P15 hP h => ?_)
          refine g_if_ne cx (tgt := 68) dX2_passAhead_53 rfl (fun c16 => ?_) (fun c16 => ?_)
          · have h := zifn c16 h
            refine g_aload_n cx dX2_passAhead_68 rfl ?_
            refine g_getR cx lk_X2_63 rfl (Nat.le_of_ble_eq_true rfl) rfl dX2_passAhead_69 (v := 108) (pst hP 117 rfl) ?_
            refine g_iload_n cx dX2_passAhead_72 rfl ?_
            refine g_wVi cx [.int y3] [] (e_X4_sortOf hP h) mt_X4_sortOf ml_X2_315 rfl rfl rfl dX2_passAhead_73 rfl rfl (Nat.le_of_ble_eq_true rfl) (Nat.le_of_ble_eq_true rfl) (Nat.le_of_ble_eq_true rfl) (fun v17 I17 P17 hP h => ?_)
            refine g_bipush cx dX2_passAhead_76 bp_6 ?_
            refine g_icmp_ne cx (tgt := 87) dX2_passAhead_78 rfl (fun c18 => ?_) (fun c18 => ?_)
            · have h := zifn c18 h
              refine g_iinc cx (v := (y3 + 1)) dX2_passAhead_87 rfl rfl (Nat.le_of_ble_eq_true rfl) (Gx.L [.ref 114, .ref y1, .int y2, .int (y3 + 1)] rfl ?_)
              refine g_goto cx (tgt := 2) dX2_passAhead_90 rfl ?_
              exact ih _ _ _ _ _ hP h
            · have h := zifp c18 h
              refine g_aload_n cx dX2_passAhead_81 rfl ?_
              refine g_aload_n cx dX2_passAhead_82 rfl ?_
              refine g_iload_n cx dX2_passAhead_83 rfl ?_
              refine g_wVv cx [.ref y1, .int y3] [] (e_X2_passFault hP h) mt_X2_passFault ml_X2_333 rfl rfl rfl dX2_passAhead_84 rfl rfl (Nat.le_of_ble_eq_true rfl) (Nat.le_of_ble_eq_true rfl) (Nat.le_of_ble_eq_true rfl) (fun I19 P19 hP h => ?_)
              refine g_iinc cx (v := (y3 + 1)) dX2_passAhead_87 rfl rfl (Nat.le_of_ble_eq_true rfl) (Gx.L [.ref 114, .ref y1, .int y2, .int (y3 + 1)] rfl ?_)
              refine g_goto cx (tgt := 2) dX2_passAhead_90 rfl ?_
              exact ih _ _ _ _ _ hP h
          · have h := zifp c16 h
            refine g_aload_n cx dX2_passAhead_56 rfl ?_
            obtain ⟨v20, hv21, h⟩ := h
            refine g_getR cx lk_X2_67 rfl (Nat.le_of_ble_eq_true rfl) rfl dX2_passAhead_57 hv21 ?_
            refine g_iload_n cx dX2_passAhead_60 rfl ?_
            refine g_iconst cx dX2_passAhead_61 ic_0 ?_
            obtain ⟨hs22, h⟩ := h
            refine g_wVv cx [.int y3, .int 0] [] (e_X6_addRecord hP h) mt_X6_addRecord ml_X2_324 hs22 rfl rfl dX2_passAhead_62 rfl rfl (Nat.le_of_ble_eq_true rfl) (Nat.le_of_ble_eq_true rfl) (Nat.le_of_ble_eq_true rfl) (fun I23 P23 hP h => ?_)
            refine g_goto cx (tgt := 87) dX2_passAhead_65 rfl ?_
            refine g_iinc cx (v := (y3 + 1)) dX2_passAhead_87 rfl rfl (Nat.le_of_ble_eq_true rfl) (Gx.L [.ref 114, .ref y1, .int y2, .int (y3 + 1)] rfl ?_)
            refine g_goto cx (tgt := 2) dX2_passAhead_90 rfl ?_
            exact ih _ _ _ _ _ hP h
def w_X2_passAhead (x1 : Nat) (x2 : Int32) (I : zI) (P : zP) (K : zI → zP → Prop) : Prop := ∃ n9, l_X2_passAhead_2 K n9 x1 x2 0 I P
theorem e_X2_passAhead {x1 : Nat} {x2 : Int32} {I : zI} {P : zP} {K : zI → zP → Prop} (hP : PSt P) (h : w_X2_passAhead x1 x2 I P K) : Ev yX2_passAhead cX2_passAhead 4 none 2 48 0 0 [.ref 114, .ref x1, .int x2] SHy I P (zKv K) := by
  refine Ev.start [.ref 114, .ref x1, .int x2, .float 0] pn_X2 rfl (Nat.le_of_ble_eq_true rfl) rfl (fun κ cx hE => ?_)
  unfold w_X2_passAhead at h
  refine g_iconst cx dX2_passAhead_0 ic_0 ?_
  refine g_istore_n cx dX2_passAhead_1 (Nat.le_of_ble_eq_true rfl) (Gx.L [.ref 114, .ref x1, .int x2, .int 0] rfl ?_)
  obtain ⟨n9, h⟩ := h
  exact gl_X2_passAhead_2 cx hE n9 _ _ _ _ _ hP h
