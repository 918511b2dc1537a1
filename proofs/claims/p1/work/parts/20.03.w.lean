def j_X10_plain_47 (K : zI → zP → Prop) (y1 : Int32) (y2 : Int32) (y3 : Int32) (y4 : Int32) (s0 : Int32) (s1 : Int32) (I : zI) (P : zP) : Prop := if y3 = 1 then (w_X10_s8 y4 I P (fun (v2 : Int32) (I2 : zI) (P2 : zP) => (w_X10_give v2 I2 P2 (fun (I3 : zI) (P3 : zP) => (K I3 P3))))) else (if y3 = 2 then (w_X10_octetAt y1 (y2 + 2) I P (fun (v5 : Int32) (I5 : zI) (P5 : zP) => (w_X10_octetAt y1 (y2 + 3) I5 P5 (fun (v6 : Int32) (I6 : zI) (P6 : zP) => (w_X10_octetAt y1 (y2 + 4) I6 P6 (fun (v7 : Int32) (I7 : zI) (P7 : zP) => (w_X10_give (((((y4 : Int32) <<< ((24 : Int32) &&& 31)) ||| ((v5 : Int32) <<< ((16 : Int32) &&& 31))) ||| ((v6 : Int32) <<< ((8 : Int32) &&& 31))) ||| v7) I7 P7 (fun (I8 : zI) (P8 : zP) => (K I8 P8))))))))) else (if y3 = 3 then (vp_in (s1 + s0) 144 ∧ (w_X10_give (I 199 (((s1 + s0)).toNatClampNeg)) I P (fun (I11 : zI) (P11 : zP) => (K I11 P11)))) else (if y3 = 4 then (w_X10_take I P (fun (v13 : Int32) (I13 : zI) (P13 : zP) => (vp_in (s1 + s0) 144 ∧ (K (zu I13 199 (((s1 + s0)).toNatClampNeg) v13) P13)))) else (if y3 = 5 then (vp_in (s1 + s0) 144 ∧ (w_X10_octetAt y1 (y2 + 2) I P (fun (v17 : Int32) (I17 : zI) (P17 : zP) => (w_X10_s8 v17 I17 P17 (fun (v18 : Int32) (I18 : zI) (P18 : zP) => (vp_in (s1 + s0) 144 ∧ (K (zu I18 199 (((s1 + s0)).toNatClampNeg) ((I 199 (((s1 + s0)).toNatClampNeg)) + v18)) P18))))))) else (if y3 = 6 then (w_X10_top 0 I P (fun (v21 : Int32) (I21 : zI) (P21 : zP) => (w_X10_give v21 I21 P21 (fun (I22 : zI) (P22 : zP) => (K I22 P22))))) else (if y3 = 7 then (w_X10_take I P (fun (v24 : Int32) (I24 : zI) (P24 : zP) => (K I24 P24))) else (if y3 = 8 then (w_X10_swap I P (fun (I26 : zI) (P26 : zP) => (K I26 P26))) else (if y3 = 9 then (w_X10_other y3 I P (fun (I28 : zI) (P28 : zP) => (K I28 P28))) else (if y3 = 10 then (w_X10_other y3 I P (fun (I30 : zI) (P30 : zP) => (K I30 P30))) else (if y3 = 11 then (w_X10_other y3 I P (fun (I32 : zI) (P32 : zP) => (K I32 P32))) else (if y3 = 12 then (w_X10_other y3 I P (fun (I34 : zI) (P34 : zP) => (K I34 P34))) else (if y3 = 13 then (w_X10_other y3 I P (fun (I36 : zI) (P36 : zP) => (K I36 P36))) else (if y3 = 14 then (w_X10_other y3 I P (fun (I38 : zI) (P38 : zP) => (K I38 P38))) else (if y3 = 15 then (w_X10_other y3 I P (fun (I40 : zI) (P40 : zP) => (K I40 P40))) else (if y3 = 16 then (w_X10_other y3 I P (fun (I42 : zI) (P42 : zP) => (K I42 P42))) else (if y3 = 17 then (w_X10_other y3 I P (fun (I44 : zI) (P44 : zP) => (K I44 P44))) else (if y3 = 18 then (w_X10_other y3 I P (fun (I46 : zI) (P46 : zP) => (K I46 P46))) else (if y3 = 19 then (w_X10_take I P (fun (v48 : Int32) (I48 : zI) (P48 : zP) => (w_X10_give (-v48) I48 P48 (fun (I49 : zI) (P49 : zP) => (K I49 P49))))) else (if y3 = 20 then (w_X10_other y3 I P (fun (I51 : zI) (P51 : zP) => (K I51 P51))) else (if y3 = 21 then (w_X10_other y3 I P (fun (I53 : zI) (P53 : zP) => (K I53 P53))) else (if y3 = 22 then (w_X10_other y3 I P (fun (I55 : zI) (P55 : zP) => (K I55 P55))) else (if y3 = 23 then (w_X10_other y3 I P (fun (I57 : zI) (P57 : zP) => (K I57 P57))) else (if y3 = 24 then (w_X10_other y3 I P (fun (I59 : zI) (P59 : zP) => (K I59 P59))) else (if y3 = 25 then (w_X10_other y3 I P (fun (I61 : zI) (P61 : zP) => (K I61 P61))) else (if y3 = 26 then (w_X10_other y3 I P (fun (I63 : zI) (P63 : zP) => (K I63 P63))) else (if y3 = 27 then (w_X10_other y3 I P (fun (I65 : zI) (P65 : zP) => (K I65 P65))) else (if y3 = 28 then (w_X10_other y3 I P (fun (I67 : zI) (P67 : zP) => (K I67 P67))) else (if y3 = 29 then (w_X10_other y3 I P (fun (I69 : zI) (P69 : zP) => (K I69 P69))) else (if y3 = 30 then (w_X10_other y3 I P (fun (I71 : zI) (P71 : zP) => (K I71 P71))) else (if y3 = 31 then (w_X10_other y3 I P (fun (I73 : zI) (P73 : zP) => (K I73 P73))) else (if y3 = 32 then (w_X10_other y3 I P (fun (I75 : zI) (P75 : zP) => (K I75 P75))) else (if y3 = 33 then (w_X10_other y3 I P (fun (I77 : zI) (P77 : zP) => (K I77 P77))) else (if y3 = 34 then (vp_in y4 8 ∧ (w_X10_give (I 203 ((y4).toNatClampNeg)) I P (fun (I80 : zI) (P80 : zP) => (K I80 P80)))) else (if y3 = 35 then (w_X10_take I P (fun (v82 : Int32) (I82 : zI) (P82 : zP) => (vp_in y4 8 ∧ (K (zu I82 203 ((y4).toNatClampNeg) v82) P82)))) else (if y3 = 36 then (w_X10_other y3 I P (fun (I85 : zI) (P85 : zP) => (K I85 P85))) else (if y3 = 37 then (w_X10_other y3 I P (fun (I87 : zI) (P87 : zP) => (K I87 P87))) else (if y3 = 38 then (w_X10_other y3 I P (fun (I89 : zI) (P89 : zP) => (K I89 P89))) else (if y3 = 39 then (w_X10_other y3 I P (fun (I91 : zI) (P91 : zP) => (K I91 P91))) else (if y3 = 40 then (w_X10_other y3 I P (fun (I93 : zI) (P93 : zP) => (K I93 P93))) else (if y3 = 41 then (w_X10_other y3 I P (fun (I95 : zI) (P95 : zP) => (K I95 P95))) else (if y3 = 42 then (w_X10_other y3 I P (fun (I97 : zI) (P97 : zP) => (K I97 P97))) else (if y3 = 43 then (w_X10_take I P (fun (v99 : Int32) (I99 : zI) (P99 : zP) => (w_X10_marks v99 I99 P99 (fun (I100 : zI) (P100 : zP) => (K I100 P100))))) else (w_X10_other y3 I P (fun (I101 : zI) (P101 : zP) => (K I101 P101)))))))))))))))))))))))))))))))))))))))))))))
theorem gj_X10_plain_47 {κ : zX} (cx : Cx yX10_plain cX10_plain 6 none 3 68 κ) {K : zI → zP → Prop} (hE : zEnd (zKv K) 0 0 κ) {y1 : Int32} {y2 : Int32} {y3 : Int32} {y4 : Int32} {s0 : Int32} {s1 : Int32} {I : zI} {P : zP} (hP : PSt P) (h : j_X10_plain_47 K y1 y2 y3 y4 s0 s1 I P) : Gx κ 47 [.ref 155, .int y1, .int y2, .int y3, .int y4, .float 0] [.int s0, .int s1] SHy I P 0 0 := by
  unfold j_X10_plain_47 at h
  refine g_iadd cx dX10_plain_47 ?_
  refine g_istore cx dX10_plain_48 (Nat.le_of_ble_eq_true rfl) (Gx.L [.ref 155, .int y1, .int y2, .int y3, .int y4, .int (s1 + s0)] rfl ?_)
  refine g_iload_n cx dX10_plain_50 rfl ?_
  by_cases c1 : y3 = 1
  · have h := zifp c1 h
    refine g_tabIn cx (tgt := 236) (off := 185) dX10_plain_51 (by rw [c1]; decide) (by rw [c1]; decide) (by rw [c1]; rfl) rfl ?_
    refine g_aload_n cx dX10_plain_236 rfl ?_
    refine g_iload cx dX10_plain_237 rfl ?_
    refine g_wSi cx [.int y4] [.ref 155] (e_X10_s8 hP h) mt_X10_s8 ml_X10_229 dX10_plain_239 rfl rfl (Nat.le_of_ble_eq_true rfl) (Nat.le_of_ble_eq_true rfl) (Nat.le_of_ble_eq_true rfl) (fun v2 I2 P2 hP h => ?_)
    refine g_wVv cx [.int v2] [] (e_X10_give hP h) mt_X10_give ml_X10_510 rfl rfl rfl dX10_plain_242 rfl rfl (Nat.le_of_ble_eq_true rfl) (Nat.le_of_ble_eq_true rfl) (Nat.le_of_ble_eq_true rfl) (fun I3 P3 hP h => ?_)
    refine g_goto cx (tgt := 428) dX10_plain_245 rfl ?_
    exact g_wv cx hE dX10_plain_428 rfl hP h
  · have h := zifn c1 h
    by_cases c4 : y3 = 2
    · have h := zifp c4 h
      refine g_tabIn cx (tgt := 248) (off := 197) dX10_plain_51 (by rw [c4]; decide) (by rw [c4]; decide) (by rw [c4]; rfl) rfl ?_
      refine g_aload_n cx dX10_plain_248 rfl ?_
      refine g_iload cx dX10_plain_249 rfl ?_
      refine g_bipush cx dX10_plain_251 bp_24 ?_
      refine g_ishl cx dX10_plain_253 ?_
      refine g_aload_n cx dX10_plain_254 rfl ?_
      refine g_iload_n cx dX10_plain_255 rfl ?_
      refine g_iload_n cx dX10_plain_256 rfl ?_
      refine g_iconst cx dX10_plain_257 ic_2 ?_
      refine g_iadd cx dX10_plain_258 ?_
      refine g_wVi cx [.int y1, .int (y2 + 2)] [.int ((y4 : Int32) <<< ((24 : Int32) &&& 31)), .ref 155] (e_X10_octetAt hP h) mt_X10_octetAt ml_X10_448 rfl rfl rfl dX10_plain_259 rfl rfl (Nat.le_of_ble_eq_true rfl) (Nat.le_of_ble_eq_true rfl) (Nat.le_of_ble_eq_true rfl) (fun v5 I5 P5 hP h => ?_)
      refine g_bipush cx dX10_plain_262 bp_16 ?_
      refine g_ishl cx dX10_plain_264 ?_
      refine g_ior cx dX10_plain_265 ?_
      refine g_aload_n cx dX10_plain_266 rfl ?_
      refine g_iload_n cx dX10_plain_267 rfl ?_
      refine g_iload_n cx dX10_plain_268 rfl ?_
      refine g_iconst cx dX10_plain_269 ic_3 ?_
      refine g_iadd cx dX10_plain_270 ?_
      refine g_wVi cx [.int y1, .int (y2 + 3)] [.int (((y4 : Int32) <<< ((24 : Int32) &&& 31)) ||| ((v5 : Int32) <<< ((16 : Int32) &&& 31))), .ref 155] (e_X10_octetAt hP h) mt_X10_octetAt ml_X10_448 rfl rfl rfl dX10_plain_271 rfl rfl (Nat.le_of_ble_eq_true rfl) (Nat.le_of_ble_eq_true rfl) (Nat.le_of_ble_eq_true rfl) (fun v6 I6 P6 hP h => ?_)
      refine g_bipush cx dX10_plain_274 bp_8 ?_
      refine g_ishl cx dX10_plain_276 ?_
      refine g_ior cx dX10_plain_277 ?_
      refine g_aload_n cx dX10_plain_278 rfl ?_
      refine g_iload_n cx dX10_plain_279 rfl ?_
      refine Gx.N 280 rfl ?_
      refine g_iload_n cx dX10_plain_280 rfl ?_
      refine g_iconst cx dX10_plain_281 ic_4 ?_
      refine g_iadd cx dX10_plain_282 ?_
      refine g_wVi cx [.int y1, .int (y2 + 4)] [.int ((((y4 : Int32) <<< ((24 : Int32) &&& 31)) ||| ((v5 : Int32) <<< ((16 : Int32) &&& 31))) ||| ((v6 : Int32) <<< ((8 : Int32) &&& 31))), .ref 155] (e_X10_octetAt hP h) mt_X10_octetAt ml_X10_448 rfl rfl rfl dX10_plain_283 rfl rfl (Nat.le_of_ble_eq_true rfl) (Nat.le_of_ble_eq_true rfl) (Nat.le_of_ble_eq_true rfl) (fun v7 I7 P7 hP h => ?_)
      refine g_ior cx dX10_plain_286 ?_
      refine g_wVv cx [.int (((((y4 : Int32) <<< ((24 : Int32) &&& 31)) ||| ((v5 : Int32) <<< ((16 : Int32) &&& 31))) ||| ((v6 : Int32) <<< ((8 : Int32) &&& 31))) ||| v7)] [] (e_X10_give hP h) mt_X10_give ml_X10_510 rfl rfl rfl dX10_plain_287 rfl rfl (Nat.le_of_ble_eq_true rfl) (Nat.le_of_ble_eq_true rfl) (Nat.le_of_ble_eq_true rfl) (fun I8 P8 hP h => ?_)
      refine g_goto cx (tgt := 428) dX10_plain_290 rfl ?_
      exact g_wv cx hE dX10_plain_428 rfl hP h
    · have h := zifn c4 h
      by_cases c9 : y3 = 3
      · have h := zifp c9 h
        refine g_tabIn cx (tgt := 293) (off := 242) dX10_plain_51 (by rw [c9]; decide) (by rw [c9]; decide) (by rw [c9]; rfl) rfl ?_
        refine g_aload_n cx dX10_plain_293 rfl ?_
        refine g_aload_n cx dX10_plain_294 rfl ?_
        refine g_getR cx lk_X10_144 rfl (Nat.le_of_ble_eq_true rfl) rfl dX10_plain_295 (v := 199) (pst hP 198 rfl) ?_
        refine g_iload cx dX10_plain_298 rfl ?_
        obtain ⟨hc10, h⟩ := h
        refine g_iald cx dX10_plain_300 rfl hc10 (x := (I 199 (((s1 + s0)).toNatClampNeg))) rfl ?_
        refine g_wVv cx [.int (I 199 (((s1 + s0)).toNatClampNeg))] [] (e_X10_give hP h) mt_X10_give ml_X10_510 rfl rfl rfl dX10_plain_301 rfl rfl (Nat.le_of_ble_eq_true rfl) (Nat.le_of_ble_eq_true rfl) (Nat.le_of_ble_eq_true rfl) (fun I11 P11 hP h => ?_)
        refine g_goto cx (tgt := 428) dX10_plain_304 rfl ?_
        exact g_wv cx hE dX10_plain_428 rfl hP h
      · have h := zifn c9 h
        by_cases c12 : y3 = 4
        · have h := zifp c12 h
          refine g_tabIn cx (tgt := 307) (off := 256) dX10_plain_51 (by rw [c12]; decide) (by rw [c12]; decide) (by rw [c12]; rfl) rfl ?_
          refine g_aload_n cx dX10_plain_307 rfl ?_
          refine g_getR cx lk_X10_144 rfl (Nat.le_of_ble_eq_true rfl) rfl dX10_plain_308 (v := 199) (pst hP 198 rfl) ?_
          refine g_iload cx dX10_plain_311 rfl ?_
          refine g_aload_n cx dX10_plain_313 rfl ?_
          refine g_wVi cx [] [.int (s1 + s0), .ref 199] (e_X10_take hP h) mt_X10_take ml_X10_498 rfl rfl rfl dX10_plain_314 rfl rfl (Nat.le_of_ble_eq_true rfl) (Nat.le_of_ble_eq_true rfl) (Nat.le_of_ble_eq_true rfl) (fun v13 I13 P13 hP h => ?_)
          obtain ⟨hc14, h⟩ := h
          refine g_iast cx dX10_plain_317 rfl hc14 ?_
          refine g_goto cx (tgt := 428) dX10_plain_318 rfl ?_
          exact g_wv cx hE dX10_plain_428 rfl hP h
        · have h := zifn c12 h
          by_cases c15 : y3 = 5
          · have h := zifp c15 h
            refine g_tabIn cx (tgt := 321) (off := 270) dX10_plain_51 (by rw [c15]; decide) (by rw [c15]; decide) (by rw [c15]; rfl) rfl ?_
            refine g_aload_n cx dX10_plain_321 rfl ?_
            refine g_getR cx lk_X10_144 rfl (Nat.le_of_ble_eq_true rfl) rfl dX10_plain_322 (v := 199) (pst hP 198 rfl) ?_
            refine g_iload cx dX10_plain_325 rfl ?_
            refine g_dup2 cx dX10_plain_327 rfl rfl ?_
            obtain ⟨hc16, h⟩ := h
            refine g_iald cx dX10_plain_328 rfl hc16 (x := (I 199 (((s1 + s0)).toNatClampNeg))) rfl ?_
            refine g_aload_n cx dX10_plain_329 rfl ?_
            refine g_iload_n cx dX10_plain_330 rfl ?_
            refine g_iload_n cx dX10_plain_331 rfl ?_
            refine g_iconst cx dX10_plain_332 ic_2 ?_
            refine g_iadd cx dX10_plain_333 ?_
            refine g_wVi cx [.int y1, .int (y2 + 2)] [.int (I 199 (((s1 + s0)).toNatClampNeg)), .int (s1 + s0), .ref 199] (e_X10_octetAt hP h) mt_X10_octetAt ml_X10_448 rfl rfl rfl dX10_plain_334 rfl rfl (Nat.le_of_ble_eq_true rfl) (Nat.le_of_ble_eq_true rfl) (Nat.le_of_ble_eq_true rfl) (fun v17 I17 P17 hP h => ?_)
            refine g_wSi cx [.int v17] [.int (I 199 (((s1 + s0)).toNatClampNeg)), .int (s1 + s0), .ref 199] (e_X10_s8 hP h) mt_X10_s8 ml_X10_229 dX10_plain_337 rfl rfl (Nat.le_of_ble_eq_true rfl) (Nat.le_of_ble_eq_true rfl) (Nat.le_of_ble_eq_true rfl) (fun v18 I18 P18 hP h => ?_)
            refine g_iadd cx dX10_plain_340 ?_
            obtain ⟨hc19, h⟩ := h
            refine g_iast cx dX10_plain_341 rfl hc19 ?_
            refine g_goto cx (tgt := 428) dX10_plain_342 rfl ?_
            exact g_wv cx hE dX10_plain_428 rfl hP h
          · have h := zifn c15 h
            by_cases c20 : y3 = 6
            · have h := zifp c20 h
              refine g_tabIn cx (tgt := 345) (off := 294) dX10_plain_51 (by rw [c20]; decide) (by rw [c20]; decide) (by rw [c20]; rfl) rfl ?_
              refine g_aload_n cx dX10_plain_345 rfl ?_
              refine g_aload_n cx dX10_plain_346 rfl ?_
              refine g_iconst cx dX10_plain_347 ic_0 ?_
              refine g_wVi cx [.int 0] [.ref 155] (e_X10_top hP h) mt_X10_top ml_X10_474 rfl rfl rfl dX10_plain_348 rfl rfl (Nat.le_of_ble_eq_true rfl) (Nat.le_of_ble_eq_true rfl) (Nat.le_of_ble_eq_true rfl) (fun v21 I21 P21 hP h => ?_)
              refine g_wVv cx [.int v21] [] (e_X10_give hP h) mt_X10_give ml_X10_510 rfl rfl rfl dX10_plain_351 rfl rfl (Nat.le_of_ble_eq_true rfl) (Nat.le_of_ble_eq_true rfl) (Nat.le_of_ble_eq_true rfl) (fun I22 P22 hP h => ?_)
              refine g_goto cx (tgt := 428) dX10_plain_354 rfl ?_
              exact g_wv cx hE dX10_plain_428 rfl hP h
            · have h := zifn c20 h
              by_cases c23 : y3 = 7
              · have h := zifp c23 h
                refine g_tabIn cx (tgt := 357) (off := 306) dX10_plain_51 (by rw [c23]; decide) (by rw [c23]; decide) (by rw [c23]; rfl) rfl ?_
                refine g_aload_n cx dX10_plain_357 rfl ?_
                refine g_wVi cx [] [] (e_X10_take hP h) mt_X10_take ml_X10_498 rfl rfl rfl dX10_plain_358 rfl rfl (Nat.le_of_ble_eq_true rfl) (Nat.le_of_ble_eq_true rfl) (Nat.le_of_ble_eq_true rfl) (fun v24 I24 P24 hP h => ?_)
                refine g_pop cx dX10_plain_361 rfl ?_
                refine g_goto cx (tgt := 428) dX10_plain_362 rfl ?_
                exact g_wv cx hE dX10_plain_428 rfl hP h
              · have h := zifn c23 h
                by_cases c25 : y3 = 8
                · have h := zifp c25 h
                  refine g_tabIn cx (tgt := 365) (off := 314) dX10_plain_51 (by rw [c25]; decide) (by rw [c25]; decide) (by rw [c25]; rfl) rfl ?_
                  refine g_aload_n cx dX10_plain_365 rfl ?_
                  refine g_wVv cx [] [] (e_X10_swap hP h) mt_X10_swap ml_X10_527 rfl rfl rfl dX10_plain_366 rfl rfl (Nat.le_of_ble_eq_true rfl) (Nat.le_of_ble_eq_true rfl) (Nat.le_of_ble_eq_true rfl) (fun I26 P26 hP h => ?_)
                  refine g_goto cx (tgt := 428) dX10_plain_369 rfl ?_
                  exact g_wv cx hE dX10_plain_428 rfl hP h
                · have h := zifn c25 h
                  by_cases c27 : y3 = 9
                  · have h := zifp c27 h
                    refine g_tabIn cx (tgt := 423) (off := 372) dX10_plain_51 (by rw [c27]; decide) (by rw [c27]; decide) (by rw [c27]; rfl) rfl ?_
                    refine g_aload_n cx dX10_plain_423 rfl ?_
                    refine g_iload_n cx dX10_plain_424 rfl ?_
                    refine g_wVv cx [.int y3] [] (e_X10_other hP h) mt_X10_other ml_X10_533 rfl rfl rfl dX10_plain_425 rfl rfl (Nat.le_of_ble_eq_true rfl) (Nat.le_of_ble_eq_true rfl) (Nat.le_of_ble_eq_true rfl) (fun I28 P28 hP h => ?_)
                    exact g_wv cx hE dX10_plain_428 rfl hP h
                  · have h := zifn c27 h
                    by_cases c29 : y3 = 10
                    · have h := zifp c29 h
                      refine g_tabIn cx (tgt := 423) (off := 372) dX10_plain_51 (by rw [c29]; decide) (by rw [c29]; decide) (by rw [c29]; rfl) rfl ?_
                      refine g_aload_n cx dX10_plain_423 rfl ?_
                      refine g_iload_n cx dX10_plain_424 rfl ?_
                      refine g_wVv cx [.int y3] [] (e_X10_other hP h) mt_X10_other ml_X10_533 rfl rfl rfl dX10_plain_425 rfl rfl (Nat.le_of_ble_eq_true rfl) (Nat.le_of_ble_eq_true rfl) (Nat.le_of_ble_eq_true rfl) (fun I30 P30 hP h => ?_)
                      exact g_wv cx hE dX10_plain_428 rfl hP h
                    · have h := zifn c29 h
                      by_cases c31 : y3 = 11
                      · have h := zifp c31 h
                        refine g_tabIn cx (tgt := 423) (off := 372) dX10_plain_51 (by rw [c31]; decide) (by rw [c31]; decide) (by rw [c31]; rfl) rfl ?_
                        refine g_aload_n cx dX10_plain_423 rfl ?_
                        refine g_iload_n cx dX10_plain_424 rfl ?_
                        refine g_wVv cx [.int y3] [] (e_X10_other hP h) mt_X10_other ml_X10_533 rfl rfl rfl dX10_plain_425 rfl rfl (Nat.le_of_ble_eq_true rfl) (Nat.le_of_ble_eq_true rfl) (Nat.le_of_ble_eq_true rfl) (fun I32 P32 hP h => ?_)
                        exact g_wv cx hE dX10_plain_428 rfl hP h
                      · have h := zifn c31 h
                        by_cases c33 : y3 = 12
                        · have h := zifp c33 h
                          refine g_tabIn cx (tgt := 423) (off := 372) dX10_plain_51 (by rw [c33]; decide) (by rw [c33]; decide) (by rw [c33]; rfl) rfl ?_
                          refine g_aload_n cx dX10_plain_423 rfl ?_
                          refine g_iload_n cx dX10_plain_424 rfl ?_
                          refine g_wVv cx [.int y3] [] (e_X10_other hP h) mt_X10_other ml_X10_533 rfl rfl rfl dX10_plain_425 rfl rfl (Nat.le_of_ble_eq_true rfl) (Nat.le_of_ble_eq_true rfl) (Nat.le_of_ble_eq_true rfl) (fun I34 P34 hP h => ?_)
                          exact g_wv cx hE dX10_plain_428 rfl hP h
                        · have h := zifn c33 h
                          by_cases c35 : y3 = 13
                          · have h := zifp c35 h
                            refine g_tabIn cx (tgt := 423) (off := 372) dX10_plain_51 (by rw [c35]; decide) (by rw [c35]; decide) (by rw [c35]; rfl) rfl ?_
                            refine g_aload_n cx dX10_plain_423 rfl ?_
                            refine g_iload_n cx dX10_plain_424 rfl ?_
                            refine g_wVv cx [.int y3] [] (e_X10_other hP h) mt_X10_other ml_X10_533 rfl rfl rfl dX10_plain_425 rfl rfl (Nat.le_of_ble_eq_true rfl) (Nat.le_of_ble_eq_true rfl) (Nat.le_of_ble_eq_true rfl) (fun I36 P36 hP h => ?_)
                            exact g_wv cx hE dX10_plain_428 rfl hP h
                          · have h := zifn c35 h
                            by_cases c37 : y3 = 14
                            · have h := zifp c37 h
                              refine g_tabIn cx (tgt := 423) (off := 372) dX10_plain_51 (by rw [c37]; decide) (by rw [c37]; decide) (by rw [c37]; rfl) rfl ?_
                              refine g_aload_n cx dX10_plain_423 rfl ?_
                              refine g_iload_n cx dX10_plain_424 rfl ?_
                              refine g_wVv cx [.int y3] [] (e_X10_other hP h) mt_X10_other ml_X10_533 rfl rfl rfl dX10_plain_425 rfl rfl (Nat.le_of_ble_eq_true rfl) (Nat.le_of_ble_eq_true rfl) (Nat.le_of_ble_eq_true rfl) (fun I38 P38 hP h => ?_)
                              exact g_wv cx hE dX10_plain_428 rfl hP h
                            · have h := zifn c37 h
                              by_cases c39 : y3 = 15
                              · have h := zifp c39 h
                                refine g_tabIn cx (tgt := 423) (off := 372) dX10_plain_51 (by rw [c39]; decide) (by rw [c39]; decide) (by rw [c39]; rfl) rfl ?_
                                refine g_aload_n cx dX10_plain_423 rfl ?_
                                refine g_iload_n cx dX10_plain_424 rfl ?_
                                refine g_wVv cx [.int y3] [] (e_X10_other hP h) mt_X10_other ml_X10_533 rfl rfl rfl dX10_plain_425 rfl rfl (Nat.le_of_ble_eq_true rfl) (Nat.le_of_ble_eq_true rfl) (Nat.le_of_ble_eq_true rfl) (fun I40 P40 hP h => ?_)
                                exact g_wv cx hE dX10_plain_428 rfl hP h
                              · have h := zifn c39 h
                                by_cases c41 : y3 = 16
                                · have h := zifp c41 h
                                  refine g_tabIn cx (tgt := 423) (off := 372) dX10_plain_51 (by rw [c41]; decide) (by rw [c41]; decide) (by rw [c41]; rfl) rfl ?_
                                  refine g_aload_n cx dX10_plain_423 rfl ?_
                                  refine g_iload_n cx dX10_plain_424 rfl ?_
                                  refine g_wVv cx [.int y3] [] (e_X10_other hP h) mt_X10_other ml_X10_533 rfl rfl rfl dX10_plain_425 rfl rfl (Nat.le_of_ble_eq_true rfl) (Nat.le_of_ble_eq_true rfl) (Nat.le_of_ble_eq_true rfl) (fun I42 P42 hP h => ?_)
                                  exact g_wv cx hE dX10_plain_428 rfl hP h
                                · have h := zifn c41 h
                                  by_cases c43 : y3 = 17
                                  · have h := zifp c43 h
                                    refine g_tabIn cx (tgt := 423) (off := 372) dX10_plain_51 (by rw [c43]; decide) (by rw [c43]; decide) (by rw [c43]; rfl) rfl ?_
                                    refine g_aload_n cx dX10_plain_423 rfl ?_
                                    refine g_iload_n cx dX10_plain_424 rfl ?_
                                    refine g_wVv cx [.int y3] [] (e_X10_other hP h) mt_X10_other ml_X10_533 rfl rfl rfl dX10_plain_425 rfl rfl (Nat.le_of_ble_eq_true rfl) (Nat.le_of_ble_eq_true rfl) (Nat.le_of_ble_eq_true rfl) (fun I44 P44 hP h => ?_)
                                    exact g_wv cx hE dX10_plain_428 rfl hP h
                                  · have h := zifn c43 h
                                    by_cases c45 : y3 = 18
                                    · have h := zifp c45 h
                                      refine g_tabIn cx (tgt := 423) (off := 372) dX10_plain_51 (by rw [c45]; decide) (by rw [c45]; decide) (by rw [c45]; rfl) rfl ?_
                                      refine g_aload_n cx dX10_plain_423 rfl ?_
                                      refine g_iload_n cx dX10_plain_424 rfl ?_
                                      refine g_wVv cx [.int y3] [] (e_X10_other hP h) mt_X10_other ml_X10_533 rfl rfl rfl dX10_plain_425 rfl rfl (Nat.le_of_ble_eq_true rfl) (Nat.le_of_ble_eq_true rfl) (Nat.le_of_ble_eq_true rfl) (fun I46 P46 hP h => ?_)
                                      exact g_wv cx hE dX10_plain_428 rfl hP h
                                    · have h := zifn c45 h
                                      by_cases c47 : y3 = 19
                                      · have h := zifp c47 h
                                        refine g_tabIn cx (tgt := 372) (off := 321) dX10_plain_51 (by rw [c47]; decide) (by rw [c47]; decide) (by rw [c47]; rfl) rfl ?_
                                        refine g_aload_n cx dX10_plain_372 rfl ?_
                                        refine g_aload_n cx dX10_plain_373 rfl ?_
                                        refine g_wVi cx [] [.ref 155] (e_X10_take hP h) mt_X10_take ml_X10_498 rfl rfl rfl dX10_plain_374 rfl rfl (Nat.le_of_ble_eq_true rfl) (Nat.le_of_ble_eq_true rfl) (Nat.le_of_ble_eq_true rfl) (fun v48 I48 P48 hP h => ?_)
                                        refine g_ineg cx dX10_plain_377 ?_
                                        refine g_wVv cx [.int (-v48)] [] (e_X10_give hP h) mt_X10_give ml_X10_510 rfl rfl rfl dX10_plain_378 rfl rfl (Nat.le_of_ble_eq_true rfl) (Nat.le_of_ble_eq_true rfl) (Nat.le_of_ble_eq_true rfl) (fun I49 P49 hP h => ?_)
                                        refine g_goto cx (tgt := 428) dX10_plain_381 rfl ?_
                                        exact g_wv cx hE dX10_plain_428 rfl hP h
                                      · have h := zifn c47 h
                                        by_cases c50 : y3 = 20
                                        · have h := zifp c50 h
                                          refine g_tabIn cx (tgt := 423) (off := 372) dX10_plain_51 (by rw [c50]; decide) (by rw [c50]; decide) (by rw [c50]; rfl) rfl ?_
                                          refine g_aload_n cx dX10_plain_423 rfl ?_
                                          refine g_iload_n cx dX10_plain_424 rfl ?_
                                          refine g_wVv cx [.int y3] [] (e_X10_other hP h) mt_X10_other ml_X10_533 rfl rfl rfl dX10_plain_425 rfl rfl (Nat.le_of_ble_eq_true rfl) (Nat.le_of_ble_eq_true rfl) (Nat.le_of_ble_eq_true rfl) (fun I51 P51 hP h => ?_)
                                          exact g_wv cx hE dX10_plain_428 rfl hP h
                                        · have h := zifn c50 h
                                          by_cases c52 : y3 = 21
                                          · have h := zifp c52 h
                                            refine g_tabIn cx (tgt := 423) (off := 372) dX10_plain_51 (by rw [c52]; decide) (by rw [c52]; decide) (by rw [c52]; rfl) rfl ?_
                                            refine g_aload_n cx dX10_plain_423 rfl ?_
                                            refine g_iload_n cx dX10_plain_424 rfl ?_
                                            refine g_wVv cx [.int y3] [] (e_X10_other hP h) mt_X10_other ml_X10_533 rfl rfl rfl dX10_plain_425 rfl rfl (Nat.le_of_ble_eq_true rfl) (Nat.le_of_ble_eq_true rfl) (Nat.le_of_ble_eq_true rfl) (fun I53 P53 hP h => ?_)
                                            exact g_wv cx hE dX10_plain_428 rfl hP h
                                          · have h := zifn c52 h
                                            by_cases c54 : y3 = 22
                                            · have h := zifp c54 h
                                              refine g_tabIn cx (tgt := 423) (off := 372) dX10_plain_51 (by rw [c54]; decide) (by rw [c54]; decide) (by rw [c54]; rfl) rfl ?_
                                              refine g_aload_n cx dX10_plain_423 rfl ?_
                                              refine g_iload_n cx dX10_plain_424 rfl ?_
                                              refine g_wVv cx [.int y3] [] (e_X10_other hP h) mt_X10_other ml_X10_533 rfl rfl rfl dX10_plain_425 rfl rfl (Nat.le_of_ble_eq_true rfl) (Nat.le_of_ble_eq_true rfl) (Nat.le_of_ble_eq_true rfl) (fun I55 P55 hP h => ?_)
                                              exact g_wv cx hE dX10_plain_428 rfl hP h
                                            · have h := zifn c54 h
                                              by_cases c56 : y3 = 23
                                              · have h := zifp c56 h
                                                refine g_tabIn cx (tgt := 423) (off := 372) dX10_plain_51 (by rw [c56]; decide) (by rw [c56]; decide) (by rw [c56]; rfl) rfl ?_
                                                refine g_aload_n cx dX10_plain_423 rfl ?_
                                                refine g_iload_n cx dX10_plain_424 rfl ?_
                                                refine g_wVv cx [.int y3] [] (e_X10_other hP h) mt_X10_other ml_X10_533 rfl rfl rfl dX10_plain_425 rfl rfl (Nat.le_of_ble_eq_true rfl) (Nat.le_of_ble_eq_true rfl) (Nat.le_of_ble_eq_true rfl) (fun I57 P57 hP h => ?_)
                                                exact g_wv cx hE dX10_plain_428 rfl hP h
                                              · have h := zifn c56 h
                                                by_cases c58 : y3 = 24
                                                · have h := zifp c58 h
                                                  refine g_tabIn cx (tgt := 423) (off := 372) dX10_plain_51 (by rw [c58]; decide) (by rw [c58]; decide) (by rw [c58]; rfl) rfl ?_
                                                  refine g_aload_n cx dX10_plain_423 rfl ?_
                                                  refine g_iload_n cx dX10_plain_424 rfl ?_
                                                  refine g_wVv cx [.int y3] [] (e_X10_other hP h) mt_X10_other ml_X10_533 rfl rfl rfl dX10_plain_425 rfl rfl (Nat.le_of_ble_eq_true rfl) (Nat.le_of_ble_eq_true rfl) (Nat.le_of_ble_eq_true rfl) (fun I59 P59 hP h => ?_)
                                                  exact g_wv cx hE dX10_plain_428 rfl hP h
                                                · have h := zifn c58 h
                                                  by_cases c60 : y3 = 25
                                                  · have h := zifp c60 h
                                                    refine g_tabIn cx (tgt := 423) (off := 372) dX10_plain_51 (by rw [c60]; decide) (by rw [c60]; decide) (by rw [c60]; rfl) rfl ?_
                                                    refine g_aload_n cx dX10_plain_423 rfl ?_
                                                    refine g_iload_n cx dX10_plain_424 rfl ?_
                                                    refine g_wVv cx [.int y3] [] (e_X10_other hP h) mt_X10_other ml_X10_533 rfl rfl rfl dX10_plain_425 rfl rfl (Nat.le_of_ble_eq_true rfl) (Nat.le_of_ble_eq_true rfl) (Nat.le_of_ble_eq_true rfl) (fun I61 P61 hP h => ?_)
                                                    exact g_wv cx hE dX10_plain_428 rfl hP h
                                                  · have h := zifn c60 h
                                                    by_cases c62 : y3 = 26
                                                    · have h := zifp c62 h
                                                      refine g_tabIn cx (tgt := 423) (off := 372) dX10_plain_51 (by rw [c62]; decide) (by rw [c62]; decide) (by rw [c62]; rfl) rfl ?_
                                                      refine g_aload_n cx dX10_plain_423 rfl ?_
                                                      refine g_iload_n cx dX10_plain_424 rfl ?_
                                                      refine g_wVv cx [.int y3] [] (e_X10_other hP h) mt_X10_other ml_X10_533 rfl rfl rfl dX10_plain_425 rfl rfl (Nat.le_of_ble_eq_true rfl) (Nat.le_of_ble_eq_true rfl) (Nat.le_of_ble_eq_true rfl) (fun I63 P63 hP h => ?_)
                                                      exact g_wv cx hE dX10_plain_428 rfl hP h
                                                    · have h := zifn c62 h
                                                      by_cases c64 : y3 = 27
                                                      · have h := zifp c64 h
                                                        refine g_tabIn cx (tgt := 423) (off := 372) dX10_plain_51 (by rw [c64]; decide) (by rw [c64]; decide) (by rw [c64]; rfl) rfl ?_
                                                        refine g_aload_n cx dX10_plain_423 rfl ?_
                                                        refine g_iload_n cx dX10_plain_424 rfl ?_
                                                        refine g_wVv cx [.int y3] [] (e_X10_other hP h) mt_X10_other ml_X10_533 rfl rfl rfl dX10_plain_425 rfl rfl (Nat.le_of_ble_eq_true rfl) (Nat.le_of_ble_eq_true rfl) (Nat.le_of_ble_eq_true rfl) (fun I65 P65 hP h => ?_)
                                                        exact g_wv cx hE dX10_plain_428 rfl hP h
                                                      · have h := zifn c64 h
                                                        by_cases c66 : y3 = 28
                                                        · have h := zifp c66 h
                                                          refine g_tabIn cx (tgt := 423) (off := 372) dX10_plain_51 (by rw [c66]; decide) (by rw [c66]; decide) (by rw [c66]; rfl) rfl ?_
                                                          refine g_aload_n cx dX10_plain_423 rfl ?_
                                                          refine g_iload_n cx dX10_plain_424 rfl ?_
                                                          refine g_wVv cx [.int y3] [] (e_X10_other hP h) mt_X10_other ml_X10_533 rfl rfl rfl dX10_plain_425 rfl rfl (Nat.le_of_ble_eq_true rfl) (Nat.le_of_ble_eq_true rfl) (Nat.le_of_ble_eq_true rfl) (fun I67 P67 hP h => ?_)
                                                          exact g_wv cx hE dX10_plain_428 rfl hP h
                                                        · have h := zifn c66 h
                                                          by_cases c68 : y3 = 29
                                                          · have h := zifp c68 h
                                                            refine g_tabIn cx (tgt := 423) (off := 372) dX10_plain_51 (by rw [c68]; decide) (by rw [c68]; decide) (by rw [c68]; rfl) rfl ?_
                                                            refine g_aload_n cx dX10_plain_423 rfl ?_
                                                            refine g_iload_n cx dX10_plain_424 rfl ?_
                                                            refine g_wVv cx [.int y3] [] (e_X10_other hP h) mt_X10_other ml_X10_533 rfl rfl rfl dX10_plain_425 rfl rfl (Nat.le_of_ble_eq_true rfl) (Nat.le_of_ble_eq_true rfl) (Nat.le_of_ble_eq_true rfl) (fun I69 P69 hP h => ?_)
                                                            exact g_wv cx hE dX10_plain_428 rfl hP h
                                                          · have h := zifn c68 h
                                                            by_cases c70 : y3 = 30
                                                            · have h := zifp c70 h
                                                              refine g_tabIn cx (tgt := 423) (off := 372) dX10_plain_51 (by rw [c70]; decide) (by rw [c70]; decide) (by rw [c70]; rfl) rfl ?_
                                                              refine g_aload_n cx dX10_plain_423 rfl ?_
                                                              refine g_iload_n cx dX10_plain_424 rfl ?_
                                                              refine g_wVv cx [.int y3] [] (e_X10_other hP h) mt_X10_other ml_X10_533 rfl rfl rfl dX10_plain_425 rfl rfl (Nat.le_of_ble_eq_true rfl) (Nat.le_of_ble_eq_true rfl) (Nat.le_of_ble_eq_true rfl) (fun I71 P71 hP h => ?_)
                                                              exact g_wv cx hE dX10_plain_428 rfl hP h
                                                            · have h := zifn c70 h
                                                              by_cases c72 : y3 = 31
                                                              · have h := zifp c72 h
                                                                refine g_tabIn cx (tgt := 423) (off := 372) dX10_plain_51 (by rw [c72]; decide) (by rw [c72]; decide) (by rw [c72]; rfl) rfl ?_
                                                                refine g_aload_n cx dX10_plain_423 rfl ?_
                                                                refine g_iload_n cx dX10_plain_424 rfl ?_
                                                                refine g_wVv cx [.int y3] [] (e_X10_other hP h) mt_X10_other ml_X10_533 rfl rfl rfl dX10_plain_425 rfl rfl (Nat.le_of_ble_eq_true rfl) (Nat.le_of_ble_eq_true rfl) (Nat.le_of_ble_eq_true rfl) (fun I73 P73 hP h => ?_)
                                                                exact g_wv cx hE dX10_plain_428 rfl hP h
                                                              · have h := zifn c72 h
                                                                by_cases c74 : y3 = 32
                                                                · have h := zifp c74 h
                                                                  refine g_tabIn cx (tgt := 423) (off := 372) dX10_plain_51 (by rw [c74]; decide) (by rw [c74]; decide) (by rw [c74]; rfl) rfl ?_
                                                                  refine g_aload_n cx dX10_plain_423 rfl ?_
                                                                  refine g_iload_n cx dX10_plain_424 rfl ?_
                                                                  refine g_wVv cx [.int y3] [] (e_X10_other hP h) mt_X10_other ml_X10_533 rfl rfl rfl dX10_plain_425 rfl rfl (Nat.le_of_ble_eq_true rfl) (Nat.le_of_ble_eq_true rfl) (Nat.le_of_ble_eq_true rfl) (fun I75 P75 hP h => ?_)
                                                                  exact g_wv cx hE dX10_plain_428 rfl hP h
                                                                · have h := zifn c74 h
                                                                  by_cases c76 : y3 = 33
                                                                  · have h := zifp c76 h
                                                                    refine g_tabIn cx (tgt := 423) (off := 372) dX10_plain_51 (by rw [c76]; decide) (by rw [c76]; decide) (by rw [c76]; rfl) rfl ?_
                                                                    refine g_aload_n cx dX10_plain_423 rfl ?_
                                                                    refine g_iload_n cx dX10_plain_424 rfl ?_
                                                                    refine g_wVv cx [.int y3] [] (e_X10_other hP h) mt_X10_other ml_X10_533 rfl rfl rfl dX10_plain_425 rfl rfl (Nat.le_of_ble_eq_true rfl) (Nat.le_of_ble_eq_true rfl) (Nat.le_of_ble_eq_true rfl) (fun I77 P77 hP h => ?_)
                                                                    exact g_wv cx hE dX10_plain_428 rfl hP h
                                                                  · have h := zifn c76 h
                                                                    by_cases c78 : y3 = 34
                                                                    · have h := zifp c78 h
                                                                      refine g_tabIn cx (tgt := 384) (off := 333) dX10_plain_51 (by rw [c78]; decide) (by rw [c78]; decide) (by rw [c78]; rfl) rfl ?_
                                                                      refine g_aload_n cx dX10_plain_384 rfl ?_
                                                                      refine g_aload_n cx dX10_plain_385 rfl ?_
                                                                      refine g_getR cx lk_X10_156 rfl (Nat.le_of_ble_eq_true rfl) rfl dX10_plain_386 (v := 203) (pst hP 202 rfl) ?_
                                                                      refine g_iload cx dX10_plain_389 rfl ?_
                                                                      obtain ⟨hc79, h⟩ := h
                                                                      refine g_iald cx dX10_plain_391 rfl hc79 (x := (I 203 ((y4).toNatClampNeg))) rfl ?_
                                                                      refine g_wVv cx [.int (I 203 ((y4).toNatClampNeg))] [] (e_X10_give hP h) mt_X10_give ml_X10_510 rfl rfl rfl dX10_plain_392 rfl rfl (Nat.le_of_ble_eq_true rfl) (Nat.le_of_ble_eq_true rfl) (Nat.le_of_ble_eq_true rfl) (fun I80 P80 hP h => ?_)
                                                                      refine g_goto cx (tgt := 428) dX10_plain_395 rfl ?_
                                                                      exact g_wv cx hE dX10_plain_428 rfl hP h
                                                                    · have h := zifn c78 h
                                                                      by_cases c81 : y3 = 35
                                                                      · have h := zifp c81 h
                                                                        refine g_tabIn cx (tgt := 398) (off := 347) dX10_plain_51 (by rw [c81]; decide) (by rw [c81]; decide) (by rw [c81]; rfl) rfl ?_
                                                                        refine g_aload_n cx dX10_plain_398 rfl ?_
                                                                        refine g_getR cx lk_X10_156 rfl (Nat.le_of_ble_eq_true rfl) rfl dX10_plain_399 (v := 203) (pst hP 202 rfl) ?_
                                                                        refine g_iload cx dX10_plain_402 rfl ?_
                                                                        refine g_aload_n cx dX10_plain_404 rfl ?_
                                                                        refine g_wVi cx [] [.int y4, .ref 203] (e_X10_take hP h) mt_X10_take ml_X10_498 rfl rfl rfl dX10_plain_405 rfl rfl (Nat.le_of_ble_eq_true rfl) (Nat.le_of_ble_eq_true rfl) (Nat.le_of_ble_eq_true rfl) (fun v82 I82 P82 hP h => ?_)
                                                                        obtain ⟨hc83, h⟩ := h
                                                                        refine g_iast cx dX10_plain_408 rfl hc83 ?_
                                                                        refine g_goto cx (tgt := 428) dX10_plain_409 rfl ?_
                                                                        exact g_wv cx hE dX10_plain_428 rfl hP h
                                                                      · have h := zifn c81 h
                                                                        by_cases c84 : y3 = 36
                                                                        · have h := zifp c84 h
                                                                          refine g_tabIn cx (tgt := 423) (off := 372) dX10_plain_51 (by rw [c84]; decide) (by rw [c84]; decide) (by rw [c84]; rfl) rfl ?_
                                                                          refine g_aload_n cx dX10_plain_423 rfl ?_
                                                                          refine g_iload_n cx dX10_plain_424 rfl ?_
                                                                          refine g_wVv cx [.int y3] [] (e_X10_other hP h) mt_X10_other ml_X10_533 rfl rfl rfl dX10_plain_425 rfl rfl (Nat.le_of_ble_eq_true rfl) (Nat.le_of_ble_eq_true rfl) (Nat.le_of_ble_eq_true rfl) (fun I85 P85 hP h => ?_)
                                                                          exact g_wv cx hE dX10_plain_428 rfl hP h
                                                                        · have h := zifn c84 h
                                                                          by_cases c86 : y3 = 37
                                                                          · have h := zifp c86 h
                                                                            refine g_tabIn cx (tgt := 423) (off := 372) dX10_plain_51 (by rw [c86]; decide) (by rw [c86]; decide) (by rw [c86]; rfl) rfl ?_
                                                                            refine g_aload_n cx dX10_plain_423 rfl ?_
                                                                            refine g_iload_n cx dX10_plain_424 rfl ?_
                                                                            refine g_wVv cx [.int y3] [] (e_X10_other hP h) mt_X10_other ml_X10_533 rfl rfl rfl dX10_plain_425 rfl rfl (Nat.le_of_ble_eq_true rfl) (Nat.le_of_ble_eq_true rfl) (Nat.le_of_ble_eq_true rfl) (fun I87 P87 hP h => ?_)
                                                                            exact g_wv cx hE dX10_plain_428 rfl hP h
                                                                          · have h := zifn c86 h
                                                                            by_cases c88 : y3 = 38
                                                                            · have h := zifp c88 h
                                                                              refine g_tabIn cx (tgt := 423) (off := 372) dX10_plain_51 (by rw [c88]; decide) (by rw [c88]; decide) (by rw [c88]; rfl) rfl ?_
                                                                              refine g_aload_n cx dX10_plain_423 rfl ?_
                                                                              refine g_iload_n cx dX10_plain_424 rfl ?_
                                                                              refine g_wVv cx [.int y3] [] (e_X10_other hP h) mt_X10_other ml_X10_533 rfl rfl rfl dX10_plain_425 rfl rfl (Nat.le_of_ble_eq_true rfl) (Nat.le_of_ble_eq_true rfl) (Nat.le_of_ble_eq_true rfl) (fun I89 P89 hP h => ?_)
                                                                              exact g_wv cx hE dX10_plain_428 rfl hP h
                                                                            · have h := zifn c88 h
                                                                              by_cases c90 : y3 = 39
                                                                              · have h := zifp c90 h
                                                                                refine g_tabIn cx (tgt := 423) (off := 372) dX10_plain_51 (by rw [c90]; decide) (by rw [c90]; decide) (by rw [c90]; rfl) rfl ?_
                                                                                refine g_aload_n cx dX10_plain_423 rfl ?_
                                                                                refine g_iload_n cx dX10_plain_424 rfl ?_
                                                                                refine g_wVv cx [.int y3] [] (e_X10_other hP h) mt_X10_other ml_X10_533 rfl rfl rfl dX10_plain_425 rfl rfl (Nat.le_of_ble_eq_true rfl) (Nat.le_of_ble_eq_true rfl) (Nat.le_of_ble_eq_true rfl) (fun I91 P91 hP h => ?_)
                                                                                exact g_wv cx hE dX10_plain_428 rfl hP h
                                                                              · have h := zifn c90 h
                                                                                by_cases c92 : y3 = 40
                                                                                · have h := zifp c92 h
                                                                                  refine g_tabIn cx (tgt := 423) (off := 372) dX10_plain_51 (by rw [c92]; decide) (by rw [c92]; decide) (by rw [c92]; rfl) rfl ?_
                                                                                  refine g_aload_n cx dX10_plain_423 rfl ?_
                                                                                  refine g_iload_n cx dX10_plain_424 rfl ?_
                                                                                  refine g_wVv cx [.int y3] [] (e_X10_other hP h) mt_X10_other ml_X10_533 rfl rfl rfl dX10_plain_425 rfl rfl (Nat.le_of_ble_eq_true rfl) (Nat.le_of_ble_eq_true rfl) (Nat.le_of_ble_eq_true rfl) (fun I93 P93 hP h => ?_)
                                                                                  exact g_wv cx hE dX10_plain_428 rfl hP h
                                                                                · have h := zifn c92 h
                                                                                  by_cases c94 : y3 = 41
                                                                                  · have h := zifp c94 h
                                                                                    refine g_tabIn cx (tgt := 423) (off := 372) dX10_plain_51 (by rw [c94]; decide) (by rw [c94]; decide) (by rw [c94]; rfl) rfl ?_
                                                                                    refine g_aload_n cx dX10_plain_423 rfl ?_
                                                                                    refine g_iload_n cx dX10_plain_424 rfl ?_
                                                                                    refine g_wVv cx [.int y3] [] (e_X10_other hP h) mt_X10_other ml_X10_533 rfl rfl rfl dX10_plain_425 rfl rfl (Nat.le_of_ble_eq_true rfl) (Nat.le_of_ble_eq_true rfl) (Nat.le_of_ble_eq_true rfl) (fun I95 P95 hP h => ?_)
                                                                                    exact g_wv cx hE dX10_plain_428 rfl hP h
                                                                                  · have h := zifn c94 h
                                                                                    by_cases c96 : y3 = 42
                                                                                    · have h := zifp c96 h
                                                                                      refine g_tabIn cx (tgt := 423) (off := 372) dX10_plain_51 (by rw [c96]; decide) (by rw [c96]; decide) (by rw [c96]; rfl) rfl ?_
                                                                                      refine g_aload_n cx dX10_plain_423 rfl ?_
                                                                                      refine g_iload_n cx dX10_plain_424 rfl ?_
                                                                                      refine g_wVv cx [.int y3] [] (e_X10_other hP h) mt_X10_other ml_X10_533 rfl rfl rfl dX10_plain_425 rfl rfl (Nat.le_of_ble_eq_true rfl) (Nat.le_of_ble_eq_true rfl) (Nat.le_of_ble_eq_true rfl) (fun I97 P97 hP h => ?_)
                                                                                      exact g_wv cx hE dX10_plain_428 rfl hP h
                                                                                    · have h := zifn c96 h
                                                                                      by_cases c98 : y3 = 43
                                                                                      · have h := zifp c98 h
                                                                                        refine g_tabIn cx (tgt := 412) (off := 361) dX10_plain_51 (by rw [c98]; decide) (by rw [c98]; decide) (by rw [c98]; rfl) rfl ?_
                                                                                        refine g_aload_n cx dX10_plain_412 rfl ?_
                                                                                        refine g_aload_n cx dX10_plain_413 rfl ?_
                                                                                        refine g_wVi cx [] [.ref 155] (e_X10_take hP h) mt_X10_take ml_X10_498 rfl rfl rfl dX10_plain_414 rfl rfl (Nat.le_of_ble_eq_true rfl) (Nat.le_of_ble_eq_true rfl) (Nat.le_of_ble_eq_true rfl) (fun v99 I99 P99 hP h => ?_)
                                                                                        refine g_wVv cx [.int v99] [] (e_X10_marks hP h) mt_X10_marks ml_X10_530 rfl rfl rfl dX10_plain_417 rfl rfl (Nat.le_of_ble_eq_true rfl) (Nat.le_of_ble_eq_true rfl) (Nat.le_of_ble_eq_true rfl) (fun I100 P100 hP h => ?_)
                                                                                        refine g_goto cx (tgt := 428) dX10_plain_420 rfl ?_
                                                                                        exact g_wv cx hE dX10_plain_428 rfl hP h
                                                                                      · have h := zifn c98 h
                                                                                        refine g_tabOut cx (tgt := 423) dX10_plain_51 (by have q0 : (y3 : Int32).toInt ≠ 1 := i32ne c1; have q1 : (y3 : Int32).toInt ≠ 2 := i32ne c4; have q2 : (y3 : Int32).toInt ≠ 3 := i32ne c9; have q3 : (y3 : Int32).toInt ≠ 4 := i32ne c12; have q4 : (y3 : Int32).toInt ≠ 5 := i32ne c15; have q5 : (y3 : Int32).toInt ≠ 6 := i32ne c20; have q6 : (y3 : Int32).toInt ≠ 7 := i32ne c23; have q7 : (y3 : Int32).toInt ≠ 8 := i32ne c25; have q8 : (y3 : Int32).toInt ≠ 9 := i32ne c27; have q9 : (y3 : Int32).toInt ≠ 10 := i32ne c29; have q10 : (y3 : Int32).toInt ≠ 11 := i32ne c31; have q11 : (y3 : Int32).toInt ≠ 12 := i32ne c33; have q12 : (y3 : Int32).toInt ≠ 13 := i32ne c35; have q13 : (y3 : Int32).toInt ≠ 14 := i32ne c37; have q14 : (y3 : Int32).toInt ≠ 15 := i32ne c39; have q15 : (y3 : Int32).toInt ≠ 16 := i32ne c41; have q16 : (y3 : Int32).toInt ≠ 17 := i32ne c43; have q17 : (y3 : Int32).toInt ≠ 18 := i32ne c45; have q18 : (y3 : Int32).toInt ≠ 19 := i32ne c47; have q19 : (y3 : Int32).toInt ≠ 20 := i32ne c50; have q20 : (y3 : Int32).toInt ≠ 21 := i32ne c52; have q21 : (y3 : Int32).toInt ≠ 22 := i32ne c54; have q22 : (y3 : Int32).toInt ≠ 23 := i32ne c56; have q23 : (y3 : Int32).toInt ≠ 24 := i32ne c58; have q24 : (y3 : Int32).toInt ≠ 25 := i32ne c60; have q25 : (y3 : Int32).toInt ≠ 26 := i32ne c62; have q26 : (y3 : Int32).toInt ≠ 27 := i32ne c64; have q27 : (y3 : Int32).toInt ≠ 28 := i32ne c66; have q28 : (y3 : Int32).toInt ≠ 29 := i32ne c68; have q29 : (y3 : Int32).toInt ≠ 30 := i32ne c70; have q30 : (y3 : Int32).toInt ≠ 31 := i32ne c72; have q31 : (y3 : Int32).toInt ≠ 32 := i32ne c74; have q32 : (y3 : Int32).toInt ≠ 33 := i32ne c76; have q33 : (y3 : Int32).toInt ≠ 34 := i32ne c78; have q34 : (y3 : Int32).toInt ≠ 35 := i32ne c81; have q35 : (y3 : Int32).toInt ≠ 36 := i32ne c84; have q36 : (y3 : Int32).toInt ≠ 37 := i32ne c86; have q37 : (y3 : Int32).toInt ≠ 38 := i32ne c88; have q38 : (y3 : Int32).toInt ≠ 39 := i32ne c90; have q39 : (y3 : Int32).toInt ≠ 40 := i32ne c92; have q40 : (y3 : Int32).toInt ≠ 41 := i32ne c94; have q41 : (y3 : Int32).toInt ≠ 42 := i32ne c96; have q42 : (y3 : Int32).toInt ≠ 43 := i32ne c98; omega) rfl ?_
                                                                                        refine g_aload_n cx dX10_plain_423 rfl ?_
                                                                                        refine g_iload_n cx dX10_plain_424 rfl ?_
                                                                                        refine g_wVv cx [.int y3] [] (e_X10_other hP h) mt_X10_other ml_X10_533 rfl rfl rfl dX10_plain_425 rfl rfl (Nat.le_of_ble_eq_true rfl) (Nat.le_of_ble_eq_true rfl) (Nat.le_of_ble_eq_true rfl) (fun I101 P101 hP h => ?_)
                                                                                        exact g_wv cx hE dX10_plain_428 rfl hP h
def j_X10_plain_17 (K : zI → zP → Prop) (y1 : Int32) (y2 : Int32) (y3 : Int32) (s0 : Int32) (s1 : Int32) (s2 : Int32) (I : zI) (P : zP) : Prop := w_X10_octetAt s2 (s1 + s0) I P (fun (v1 : Int32) (I1 : zI) (P1 : zP) => (w_X10_in y3 3 5 I1 P1 (fun (v2 : Int32) (I2 : zI) (P2 : zP) => (if v2 = 0 then (j_X10_plain_47 K y1 y2 y3 v1 0 (12 * ((I1 155 54) - 1)) I2 P2) else (j_X10_plain_47 K y1 y2 y3 v1 v1 (12 * ((I1 155 54) - 1)) I2 P2)))))
theorem gj_X10_plain_17 {κ : zX} (cx : Cx yX10_plain cX10_plain 6 none 3 68 κ) {K : zI → zP → Prop} (hE : zEnd (zKv K) 0 0 κ) {y1 : Int32} {y2 : Int32} {y3 : Int32} {s0 : Int32} {s1 : Int32} {s2 : Int32} {I : zI} {P : zP} (hP : PSt P) (h : j_X10_plain_17 K y1 y2 y3 s0 s1 s2 I P) : Gx κ 17 [.ref 155, .int y1, .int y2, .int y3, .float 0, .float 0] [.int s0, .int s1, .int s2, .ref 155] SHy I P 0 0 := by
  unfold j_X10_plain_17 at h
  refine g_iadd cx dX10_plain_17 ?_
  refine g_wVi cx [.int s2, .int (s1 + s0)] [] (e_X10_octetAt hP h) mt_X10_octetAt ml_X10_448 rfl rfl rfl dX10_plain_18 rfl rfl (Nat.le_of_ble_eq_true rfl) (Nat.le_of_ble_eq_true rfl) (Nat.le_of_ble_eq_true rfl) (fun v1 I1 P1 hP h => ?_)
  refine g_istore cx dX10_plain_21 (Nat.le_of_ble_eq_true rfl) (Gx.L [.ref 155, .int y1, .int y2, .int y3, .int v1, .float 0] rfl ?_)
  refine g_bipush cx dX10_plain_23 bp_12 ?_
  refine g_aload_n cx dX10_plain_25 rfl ?_
  refine g_getI cx lk_X10_415 rfl (Nat.le_of_ble_eq_true rfl) rfl dX10_plain_26 (x := (I1 155 54)) rfl ?_
  refine g_iconst cx dX10_plain_29 ic_1 ?_
  refine g_isub cx dX10_plain_30 ?_
  refine g_imul cx dX10_plain_31 ?_
  refine g_iload_n cx dX10_plain_32 rfl ?_
  refine g_iconst cx dX10_plain_33 ic_3 ?_
  refine g_iconst cx dX10_plain_34 ic_5 ?_
  refine g_wSi cx [.int y3, .int 3, .int 5] [.int (12 * ((I1 155 54) - 1))] (e_X10_in hP h) mt_X10_in ml_X10_217 dX10_plain_35 rfl rfl (Nat.le_of_ble_eq_true rfl) (Nat.le_of_ble_eq_true rfl) (Nat.le_of_ble_eq_true rfl) (fun v2 I2 P2 hP h => ?_)
  refine g_if_eq cx (tgt := 46) dX10_plain_38 rfl (fun c3 => ?_) (fun c3 => ?_)
  · have h := zifp c3 h
    refine g_iconst cx dX10_plain_46 ic_0 ?_
    exact gj_X10_plain_47 cx hE hP h
  · have h := zifn c3 h
    refine g_iload cx dX10_plain_41 rfl ?_
    refine g_goto cx (tgt := 47) dX10_plain_43 rfl ?_
    exact gj_X10_plain_47 cx hE hP h
def w_X10_plain (x1 : Int32) (x2 : Int32) (x3 : Int32) (I : zI) (P : zP) (K : zI → zP → Prop) : Prop := w_X10_sizeOf x3 0 I P (fun (v1 : Int32) (I1 : zI) (P1 : zP) => (if v1 ≤ 1 then (j_X10_plain_17 K x1 x2 x3 0 x2 x1 I1 P1) else (j_X10_plain_17 K x1 x2 x3 1 x2 x1 I1 P1)))
theorem e_X10_plain {x1 : Int32} {x2 : Int32} {x3 : Int32} {I : zI} {P : zP} {K : zI → zP → Prop} (hP : PSt P) (h : w_X10_plain x1 x2 x3 I P K) : Ev yX10_plain cX10_plain 6 none 3 68 0 0 [.ref 155, .int x1, .int x2, .int x3] SHy I P (zKv K) := by
  refine Ev.start [.ref 155, .int x1, .int x2, .int x3, .float 0, .float 0] pn_X10 rfl (Nat.le_of_ble_eq_true rfl) rfl (fun κ cx hE => ?_)
  unfold w_X10_plain at h
  refine g_aload_n cx dX10_plain_0 rfl ?_
  refine g_iload_n cx dX10_plain_1 rfl ?_
  refine g_iload_n cx dX10_plain_2 rfl ?_
  refine g_iload_n cx dX10_plain_3 rfl ?_
  refine g_iconst cx dX10_plain_4 ic_0 ?_
  refine g_wSi cx [.int x3, .int 0] [.int x2, .int x1, .ref 155] (e_X10_sizeOf hP h) mt_X10_sizeOf ml_X10_222 dX10_plain_5 rfl rfl (Nat.le_of_ble_eq_true rfl) (Nat.le_of_ble_eq_true rfl) (Nat.le_of_ble_eq_true rfl) (fun v1 I1 P1 hP h => ?_)
  refine g_iconst cx dX10_plain_8 ic_1 ?_
  refine g_icmp_le cx (tgt := 16) dX10_plain_9 rfl (fun c2 => ?_) (fun c2 => ?_)
  · have h := zifp c2 h
    refine g_iconst cx dX10_plain_16 ic_0 ?_
    exact gj_X10_plain_17 cx hE hP h
  · have h := zifn c2 h
    refine g_iconst cx dX10_plain_12 ic_1 ?_
    refine g_goto cx (tgt := 17) dX10_plain_13 rfl ?_
    exact gj_X10_plain_17 cx hE hP h
def j_X10_done_86 (K : Int32 → zI → zP → Prop) (y1 : Int32) (y2 : Int32) (s0 : Int32) (I : zI) (P : zP) : Prop := w_X10_octetAt y1 ((y2 + 2) + (2 * s0)) I P (fun (v1 : Int32) (I1 : zI) (P1 : zP) => (w_X10_octetAt y1 ((y2 + 3) + (2 * s0)) I1 P1 (fun (v2 : Int32) (I2 : zI) (P2 : zP) => (w_X10_s16 v1 v2 I2 P2 (fun (v3 : Int32) (I3 : zI) (P3 : zP) => (vp_in ((I 155 54) - 1) 12 ∧ (K 0 (zu I3 197 ((((I 155 54) - 1)).toNatClampNeg) (y2 + v3)) P3)))))))
theorem gj_X10_done_86 {κ : zX} (cx : Cx yX10_done cX10_done 9 (some .boolean) 5 115 κ) {K : Int32 → zI → zP → Prop} (hE : zEnd (zKi K) 0 0 κ) {y1 : Int32} {y2 : Int32} {s0 : Int32} {I : zI} {P : zP} (hP : PSt P) (h : j_X10_done_86 K y1 y2 s0 I P) : Gx κ 86 [.ref 155, .int y1, .int y2, .float 0, .float 0, .float 0, .float 0, .float 0, .float 0] [.int s0] SHy I P 0 0 := by
  unfold j_X10_done_86 at h
  refine g_istore cx dX10_done_86 (Nat.le_of_ble_eq_true rfl) (Gx.L [.ref 155, .int y1, .int y2, .float 0, .float 0, .float 0, .float 0, .float 0, .int s0] rfl ?_)
  refine g_aload_n cx dX10_done_88 rfl ?_
  refine g_getR cx lk_X10_138 rfl (Nat.le_of_ble_eq_true rfl) rfl dX10_done_89 (v := 197) (pst hP 196 rfl) ?_
  refine g_aload_n cx dX10_done_92 rfl ?_
  refine g_getI cx lk_X10_415 rfl (Nat.le_of_ble_eq_true rfl) rfl dX10_done_93 (x := (I 155 54)) rfl ?_
  refine g_iconst cx dX10_done_96 ic_1 ?_
  refine g_isub cx dX10_done_97 ?_
  refine g_iload_n cx dX10_done_98 rfl ?_
  refine g_aload_n cx dX10_done_99 rfl ?_
  refine g_iload_n cx dX10_done_100 rfl ?_
  refine g_iload_n cx dX10_done_101 rfl ?_
  refine g_iconst cx dX10_done_102 ic_2 ?_
  refine g_iadd cx dX10_done_103 ?_
  refine g_iconst cx dX10_done_104 ic_2 ?_
  refine g_iload cx dX10_done_105 rfl ?_
  refine g_imul cx dX10_done_107 ?_
  refine g_iadd cx dX10_done_108 ?_
  refine g_wVi cx [.int y1, .int ((y2 + 2) + (2 * s0))] [.int y2, .int ((I 155 54) - 1), .ref 197] (e_X10_octetAt hP h) mt_X10_octetAt ml_X10_448 rfl rfl rfl dX10_done_109 rfl rfl (Nat.le_of_ble_eq_true rfl) (Nat.le_of_ble_eq_true rfl) (Nat.le_of_ble_eq_true rfl) (fun v1 I1 P1 hP h => ?_)
  refine g_aload_n cx dX10_done_112 rfl ?_
  refine g_iload_n cx dX10_done_113 rfl ?_
  refine g_iload_n cx dX10_done_114 rfl ?_
  refine g_iconst cx dX10_done_115 ic_3 ?_
  refine g_iadd cx dX10_done_116 ?_
  refine g_iconst cx dX10_done_117 ic_2 ?_
  refine Gx.N 118 rfl ?_
  refine g_iload cx dX10_done_118 rfl ?_
  refine g_imul cx dX10_done_120 ?_
  refine g_iadd cx dX10_done_121 ?_
  refine g_wVi cx [.int y1, .int ((y2 + 3) + (2 * s0))] [.int v1, .int y2, .int ((I 155 54) - 1), .ref 197] (e_X10_octetAt hP h) mt_X10_octetAt ml_X10_448 rfl rfl rfl dX10_done_122 rfl rfl (Nat.le_of_ble_eq_true rfl) (Nat.le_of_ble_eq_true rfl) (Nat.le_of_ble_eq_true rfl) (fun v2 I2 P2 hP h => ?_)
  refine g_wSi cx [.int v1, .int v2] [.int y2, .int ((I 155 54) - 1), .ref 197] (e_X10_s16 hP h) mt_X10_s16 ml_X10_226 dX10_done_125 rfl rfl (Nat.le_of_ble_eq_true rfl) (Nat.le_of_ble_eq_true rfl) (Nat.le_of_ble_eq_true rfl) (fun v3 I3 P3 hP h => ?_)
  refine g_iadd cx dX10_done_128 ?_
  obtain ⟨hc4, h⟩ := h
  refine g_iast cx dX10_done_129 rfl hc4 ?_
  refine g_goto cx (tgt := 198) dX10_done_130 rfl ?_
  refine g_iconst cx dX10_done_198 ic_0 ?_
  exact g_wi cx hE dX10_done_199 rfl rfl hP h
def j_X10_done_20 (K : Int32 → zI → zP → Prop) (y1 : Int32) (y2 : Int32) (y3 : Int32) (s0 : Int32) (s1 : Int32) (s2 : Int32) (I : zI) (P : zP) : Prop := w_X10_sizeOf s1 s0 I P (fun (v1 : Int32) (I1 : zI) (P1 : zP) => (w_X10_isJump y3 I1 P1 (fun (v2 : Int32) (I2 : zI) (P2 : zP) => (if v2 = 0 then (if y3 = 33 then (w_X10_take I2 P2 (fun (v14 : Int32) (I14 : zI) (P14 : zP) => (w_X10_octetAt y1 (y2 + 1) I14 P14 (fun (v15 : Int32) (I15 : zI) (P15 : zP) => (w_X10_in v14 0 (v15 - 1) I15 P15 (fun (v16 : Int32) (I16 : zI) (P16 : zP) => (if v16 = 0 then (j_X10_done_86 K y1 y2 0 I16 P16) else (j_X10_done_86 K y1 y2 (v14 + 1) I16 P16)))))))) else (if y3 = 40 then (w_X10_octetAt y1 (y2 + 1) I2 P2 (fun (v12 : Int32) (I12 : zI) (P12 : zP) => (w_X10_call v12 I12 P12 (fun (I13 : zI) (P13 : zP) => (K 0 I13 P13))))) else (if y3 = 42 then (w_X10_gives I2 P2 (fun (I11 : zI) (P11 : zP) => (K 0 I11 P11))) else (w_X10_plain y1 y2 y3 I2 P2 (fun (I7 : zI) (P7 : zP) => (if (I7 155 65) = 0 then (vp_in ((I7 155 54) - 1) 12 ∧ (K 0 (zu I7 197 ((((I7 155 54) - 1)).toNatClampNeg) (s2 + v1)) P7)) else (vp_in ((I7 155 54) - 1) 12 ∧ (K 0 (zu I7 197 ((((I7 155 54) - 1)).toNatClampNeg) y2) P7)))))))) else (w_X10_jump_ y1 y2 y3 (s2 + v1) I2 P2 (fun (v18 : Int32) (I18 : zI) (P18 : zP) => (zbo v18 ∧ (K v18 I18 P18))))))))
theorem gj_X10_done_20 {κ : zX} (cx : Cx yX10_done cX10_done 9 (some .boolean) 5 115 κ) {K : Int32 → zI → zP → Prop} (hE : zEnd (zKi K) 0 0 κ) {y1 : Int32} {y2 : Int32} {y3 : Int32} {s0 : Int32} {s1 : Int32} {s2 : Int32} {I : zI} {P : zP} (hP : PSt P) (h : j_X10_done_20 K y1 y2 y3 s0 s1 s2 I P) : Gx κ 20 [.ref 155, .int y1, .int y2, .int y3, .float 0, .float 0, .float 0, .float 0, .float 0] [.int s0, .int s1, .int s2] SHy I P 0 0 := by
  unfold j_X10_done_20 at h
  refine g_wSi cx [.int s1, .int s0] [.int s2] (e_X10_sizeOf hP h) mt_X10_sizeOf ml_X10_222 dX10_done_20 rfl rfl (Nat.le_of_ble_eq_true rfl) (Nat.le_of_ble_eq_true rfl) (Nat.le_of_ble_eq_true rfl) (fun v1 I1 P1 hP h => ?_)
  refine g_iadd cx dX10_done_23 ?_
  refine g_istore cx dX10_done_24 (Nat.le_of_ble_eq_true rfl) (Gx.L [.ref 155, .int y1, .int y2, .int y3, .float 0, .int (s2 + v1), .float 0, .float 0, .float 0] rfl ?_)
  refine g_iload_n cx dX10_done_26 rfl ?_
  refine g_wSi cx [.int y3] [] (e_X10_isJump hP h) mt_X10_isJump ml_X10_233 dX10_done_27 rfl rfl (Nat.le_of_ble_eq_true rfl) (Nat.le_of_ble_eq_true rfl) (Nat.le_of_ble_eq_true rfl) (fun v2 I2 P2 hP h => ?_)
  refine g_if_eq cx (tgt := 43) dX10_done_30 rfl (fun c3 => ?_) (fun c3 => ?_)
  · have h := zifp c3 h
    refine g_iload_n cx dX10_done_43 rfl ?_
    refine g_bipush cx dX10_done_44 bp_33 ?_
    refine g_icmp_ne cx (tgt := 133) dX10_done_46 rfl (fun c4 => ?_) (fun c4 => ?_)
    · have h := zifn c4 h
      refine g_iload_n cx dX10_done_133 rfl ?_
      refine g_bipush cx dX10_done_134 bp_40 ?_
      refine g_icmp_ne cx (tgt := 154) dX10_done_136 rfl (fun c5 => ?_) (fun c5 => ?_)
      · have h := zifn c5 h
        refine g_iload_n cx dX10_done_154 rfl ?_
        refine g_bipush cx dX10_done_155 bp_42 ?_
        refine g_icmp_ne cx (tgt := 167) dX10_done_157 rfl (fun c6 => ?_) (fun c6 => ?_)
        · have h := zifn c6 h
          refine g_aload_n cx dX10_done_167 rfl ?_
          refine g_iload_n cx dX10_done_168 rfl ?_
          refine g_iload_n cx dX10_done_169 rfl ?_
          refine g_iload_n cx dX10_done_170 rfl ?_
          refine g_wVv cx [.int y1, .int y2, .int y3] [] (e_X10_plain hP h) mt_X10_plain ml_X10_521 rfl rfl rfl dX10_done_171 rfl rfl (Nat.le_of_ble_eq_true rfl) (Nat.le_of_ble_eq_true rfl) (Nat.le_of_ble_eq_true rfl) (fun I7 P7 hP h => ?_)
          refine g_aload_n cx dX10_done_174 rfl ?_
          refine g_getR cx lk_X10_138 rfl (Nat.le_of_ble_eq_true rfl) rfl dX10_done_175 (v := 197) (pst hP 196 rfl) ?_
          refine g_aload_n cx dX10_done_178 rfl ?_
          refine g_getI cx lk_X10_415 rfl (Nat.le_of_ble_eq_true rfl) rfl dX10_done_179 (x := (I7 155 54)) rfl ?_
          refine g_iconst cx dX10_done_182 ic_1 ?_
          refine g_isub cx dX10_done_183 ?_
          refine g_aload_n cx dX10_done_184 rfl ?_
          refine g_getI cx lk_X10_424 rfl (Nat.le_of_ble_eq_true rfl) rfl dX10_done_185 (x := (I7 155 65)) rfl ?_
          refine g_if_ne cx (tgt := 196) dX10_done_188 rfl (fun c8 => ?_) (fun c8 => ?_)
          · have h := zifn c8 h
            refine g_iload_n cx dX10_done_196 rfl ?_
            obtain ⟨hc9, h⟩ := h
            refine g_iast cx dX10_done_197 rfl hc9 ?_
            refine g_iconst cx dX10_done_198 ic_0 ?_
            exact g_wi cx hE dX10_done_199 rfl rfl hP h
          · have h := zifp c8 h
            refine g_iload cx dX10_done_191 rfl ?_
            refine g_goto cx (tgt := 197) dX10_done_193 rfl ?_
            obtain ⟨hc10, h⟩ := h
            refine g_iast cx dX10_done_197 rfl hc10 ?_
            refine g_iconst cx dX10_done_198 ic_0 ?_
            exact g_wi cx hE dX10_done_199 rfl rfl hP h
        · have h := zifp c6 h
          refine g_aload_n cx dX10_done_160 rfl ?_
          refine g_wVv cx [] [] (e_X10_gives hP h) mt_X10_gives ml_X10_518 rfl rfl rfl dX10_done_161 rfl rfl (Nat.le_of_ble_eq_true rfl) (Nat.le_of_ble_eq_true rfl) (Nat.le_of_ble_eq_true rfl) (fun I11 P11 hP h => ?_)
          refine g_goto cx (tgt := 198) dX10_done_164 rfl ?_
          refine g_iconst cx dX10_done_198 ic_0 ?_
          exact g_wi cx hE dX10_done_199 rfl rfl hP h
      · have h := zifp c5 h
        refine g_aload_n cx dX10_done_139 rfl ?_
        refine g_aload_n cx dX10_done_140 rfl ?_
        refine g_iload_n cx dX10_done_141 rfl ?_
        refine g_iload_n cx dX10_done_142 rfl ?_
        refine g_iconst cx dX10_done_143 ic_1 ?_
        refine g_iadd cx dX10_done_144 ?_
        refine g_wVi cx [.int y1, .int (y2 + 1)] [.ref 155] (e_X10_octetAt hP h) mt_X10_octetAt ml_X10_448 rfl rfl rfl dX10_done_145 rfl rfl (Nat.le_of_ble_eq_true rfl) (Nat.le_of_ble_eq_true rfl) (Nat.le_of_ble_eq_true rfl) (fun v12 I12 P12 hP h => ?_)
        refine g_wVv cx [.int v12] [] (e_X10_call hP h) mt_X10_call ml_X10_515 rfl rfl rfl dX10_done_148 rfl rfl (Nat.le_of_ble_eq_true rfl) (Nat.le_of_ble_eq_true rfl) (Nat.le_of_ble_eq_true rfl) (fun I13 P13 hP h => ?_)
        refine g_goto cx (tgt := 198) dX10_done_151 rfl ?_
        refine g_iconst cx dX10_done_198 ic_0 ?_
        exact g_wi cx hE dX10_done_199 rfl rfl hP h
    · have h := zifp c4 h
      refine g_aload_n cx dX10_done_49 rfl ?_
      refine g_wVi cx [] [] (e_X10_take hP h) mt_X10_take ml_X10_498 rfl rfl rfl dX10_done_50 rfl rfl (Nat.le_of_ble_eq_true rfl) (Nat.le_of_ble_eq_true rfl) (Nat.le_of_ble_eq_true rfl) (fun v14 I14 P14 hP h => ?_)
      refine g_istore cx dX10_done_53 (Nat.le_of_ble_eq_true rfl) (Gx.L [.ref 155, .int y1, .int y2, .int y3, .float 0, .int (s2 + v1), .int v14, .float 0, .float 0] rfl ?_)
      refine g_aload_n cx dX10_done_55 rfl ?_
      refine g_iload_n cx dX10_done_56 rfl ?_
      refine g_iload_n cx dX10_done_57 rfl ?_
      refine g_iconst cx dX10_done_58 ic_1 ?_
      refine g_iadd cx dX10_done_59 ?_
      refine g_wVi cx [.int y1, .int (y2 + 1)] [] (e_X10_octetAt hP h) mt_X10_octetAt ml_X10_448 rfl rfl rfl dX10_done_60 rfl rfl (Nat.le_of_ble_eq_true rfl) (Nat.le_of_ble_eq_true rfl) (Nat.le_of_ble_eq_true rfl) (fun v15 I15 P15 hP h => ?_)
      refine g_istore cx dX10_done_63 (Nat.le_of_ble_eq_true rfl) (Gx.L [.ref 155, .int y1, .int y2, .int y3, .float 0, .int (s2 + v1), .int v14, .int v15, .float 0] rfl ?_)
      refine g_iload cx dX10_done_65 rfl ?_
      refine g_iconst cx dX10_done_67 ic_0 ?_
      refine g_iload cx dX10_done_68 rfl ?_
      refine g_iconst cx dX10_done_70 ic_1 ?_
      refine g_isub cx dX10_done_71 ?_
      refine g_wSi cx [.int v14, .int 0, .int (v15 - 1)] [] (e_X10_in hP h) mt_X10_in ml_X10_217 dX10_done_72 rfl rfl (Nat.le_of_ble_eq_true rfl) (Nat.le_of_ble_eq_true rfl) (Nat.le_of_ble_eq_true rfl) (fun v16 I16 P16 hP h => ?_)
      refine g_if_eq cx (tgt := 85) dX10_done_75 rfl (fun c17 => ?_) (fun c17 => ?_)
      · have h := zifp c17 h
        refine g_iconst cx dX10_done_85 ic_0 ?_
        refine (Gx.unset 3 (Gx.unset 5 (Gx.unset 6 (Gx.unset 7 (Gx.L [.ref 155, .int y1, .int y2, .float 0, .float 0, .float 0, .float 0, .float 0, .float 0] rfl ?_)))))
        exact gj_X10_done_86 cx hE hP h
      · have h := zifn c17 h
        refine g_iload cx dX10_done_78 rfl ?_
        refine g_iconst cx dX10_done_80 ic_1 ?_
        refine g_iadd cx dX10_done_81 ?_
        refine g_goto cx (tgt := 86) dX10_done_82 rfl ?_
        refine (Gx.unset 3 (Gx.unset 5 (Gx.unset 6 (Gx.unset 7 (Gx.L [.ref 155, .int y1, .int y2, .float 0, .float 0, .float 0, .float 0, .float 0, .float 0] rfl ?_)))))
        exact gj_X10_done_86 cx hE hP h
  · have h := zifn c3 h
    refine g_aload_n cx dX10_done_33 rfl ?_
    refine g_iload_n cx dX10_done_34 rfl ?_
    refine g_iload_n cx dX10_done_35 rfl ?_
    refine g_iload_n cx dX10_done_36 rfl ?_
    refine g_iload cx dX10_done_37 rfl ?_
    refine g_wVi cx [.int y1, .int y2, .int y3, .int (s2 + v1)] [] (e_X10_jump_ hP h) mt_X10_jump_ ml_X10_513 rfl rfl rfl dX10_done_39 rfl rfl (Nat.le_of_ble_eq_true rfl) (Nat.le_of_ble_eq_true rfl) (Nat.le_of_ble_eq_true rfl) (fun v18 I18 P18 hP h => ?_)
    obtain ⟨hc19, h⟩ := h
    exact g_wi cx hE dX10_done_42 rfl (zbo_n hc19) hP h
def w_X10_done (x1 : Int32) (x2 : Int32) (x3 : Int32) (x4 : Int32) (I : zI) (P : zP) (K : Int32 → zI → zP → Prop) : Prop := if x3 = 33 then (w_X10_octetAt x1 (x2 + 1) I P (fun (v2 : Int32) (I2 : zI) (P2 : zP) => (j_X10_done_20 K x1 x2 x3 v2 x3 x2 I2 P2))) else (j_X10_done_20 K x1 x2 x3 0 x3 x2 I P)
theorem e_X10_done {x1 : Int32} {x2 : Int32} {x3 : Int32} {x4 : Int32} {I : zI} {P : zP} {K : Int32 → zI → zP → Prop} (hP : PSt P) (h : w_X10_done x1 x2 x3 x4 I P K) : Ev yX10_done cX10_done 9 (some .boolean) 5 115 0 0 [.ref 155, .int x1, .int x2, .int x3, .int x4] SHy I P (zKi K) := by
  refine Ev.start [.ref 155, .int x1, .int x2, .int x3, .int x4, .float 0, .float 0, .float 0, .float 0] pn_X10 rfl (Nat.le_of_ble_eq_true rfl) rfl (fun κ cx hE => ?_)
  unfold w_X10_done at h
  refine g_iload_n cx dX10_done_0 rfl ?_
  refine g_iload_n cx dX10_done_1 rfl ?_
  refine g_iload_n cx dX10_done_2 rfl ?_
  refine g_bipush cx dX10_done_3 bp_33 ?_
  refine g_icmp_ne cx (tgt := 19) dX10_done_5 rfl (fun c1 => ?_) (fun c1 => ?_)
  · have h := zifn c1 h
    refine g_iconst cx dX10_done_19 ic_0 ?_
    refine (Gx.unset 4 (Gx.L [.ref 155, .int x1, .int x2, .int x3, .float 0, .float 0, .float 0, .float 0, .float 0] rfl ?_))
    exact gj_X10_done_20 cx hE hP h
  · have h := zifp c1 h
    refine g_aload_n cx dX10_done_8 rfl ?_
    refine g_iload_n cx dX10_done_9 rfl ?_
    refine g_iload_n cx dX10_done_10 rfl ?_
    refine g_iconst cx dX10_done_11 ic_1 ?_
    refine g_iadd cx dX10_done_12 ?_
    refine g_wVi cx [.int x1, .int (x2 + 1)] [.int x3, .int x2] (e_X10_octetAt hP h) mt_X10_octetAt ml_X10_448 rfl rfl rfl dX10_done_13 rfl rfl (Nat.le_of_ble_eq_true rfl) (Nat.le_of_ble_eq_true rfl) (Nat.le_of_ble_eq_true rfl) (fun v2 I2 P2 hP h => ?_)
    refine g_goto cx (tgt := 20) dX10_done_16 rfl ?_
    refine (Gx.unset 4 (Gx.L [.ref 155, .int x1, .int x2, .int x3, .float 0, .float 0, .float 0, .float 0, .float 0] rfl ?_))
    exact gj_X10_done_20 cx hE hP h
def w_X10_pull (I : zI) (P : zP) (K : Int32 → zI → zP → Prop) : Prop := if (I 155 37) = 0 then (K 0 (zu I 155 38 0) P) else (vp_in ((I 155 37) - 1) 16 ∧ (K ((zu I 155 37 ((I 155 37) - 1)) 188 ((((I 155 37) - 1)).toNatClampNeg)) (zu I 155 37 ((I 155 37) - 1)) P))
theorem e_X10_pull {I : zI} {P : zP} {K : Int32 → zI → zP → Prop} (hP : PSt P) (h : w_X10_pull I P K) : Ev yX10_pull cX10_pull 1 (some .int) 0 0 0 0 [.ref 155] SHy I P (zKi K) := by
  refine Ev.start [.ref 155] pn_X10 rfl (Nat.le_of_ble_eq_true rfl) rfl (fun κ cx hE => ?_)
  unfold w_X10_pull at h
  refine g_aload_n cx dX10_pull_0 rfl ?_
  refine g_getI cx lk_X10_282 rfl (Nat.le_of_ble_eq_true rfl) rfl dX10_pull_1 (x := (I 155 37)) rfl ?_
  refine g_if_ne cx (tgt := 14) dX10_pull_4 rfl (fun c1 => ?_) (fun c1 => ?_)
  · have h := zifn c1 h
    refine g_aload_n cx dX10_pull_14 rfl ?_
    refine g_dup cx dX10_pull_15 rfl ?_
    refine g_getI cx lk_X10_282 rfl (Nat.le_of_ble_eq_true rfl) rfl dX10_pull_16 (x := (I 155 37)) rfl ?_
    refine g_iconst cx dX10_pull_19 ic_1 ?_
    refine g_isub cx dX10_pull_20 ?_
    refine g_pI cx lk_X10_282 rfl (Nat.le_of_ble_eq_true rfl) rfl dX10_pull_21 fi_10_37 rfl rfl ?_
    refine g_aload_n cx dX10_pull_24 rfl ?_
    refine g_getR cx lk_X10_111 rfl (Nat.le_of_ble_eq_true rfl) rfl dX10_pull_25 (v := 188) (pst hP 187 rfl) ?_
    refine g_aload_n cx dX10_pull_28 rfl ?_
    refine g_getI cx lk_X10_282 rfl (Nat.le_of_ble_eq_true rfl) rfl dX10_pull_29 (x := ((I 155 37) - 1)) rfl ?_
    obtain ⟨hc2, h⟩ := h
    refine g_iald cx dX10_pull_32 rfl hc2 (x := ((zu I 155 37 ((I 155 37) - 1)) 188 ((((I 155 37) - 1)).toNatClampNeg))) rfl ?_
    exact g_wi cx hE dX10_pull_33 rfl rfl hP h
  · have h := zifp c1 h
    refine g_aload_n cx dX10_pull_7 rfl ?_
    refine g_iconst cx dX10_pull_8 ic_0 ?_
    refine g_pI cx lk_X10_278 rfl (Nat.le_of_ble_eq_true rfl) rfl dX10_pull_9 fi_10_38 rfl rfl ?_
    refine g_iconst cx dX10_pull_12 ic_0 ?_
    exact g_wi cx hE dX10_pull_13 rfl rfl hP h
def j_X10_ints_27 (X2 : Int32 → Int32 → zI → zP → Prop) (K : zI → zP → Prop) (y1 : Int32) (y2 : Int32) (I : zI) (P : zP) : Prop := X2 y1 (y2 + 1) (zu I 155 38 0) P
theorem gj_X10_ints_27 {κ : zX} (cx : Cx yX10_ints cX10_ints 3 none 1 20 κ) {K : zI → zP → Prop} (hE : zEnd (zKv K) 0 0 κ) {X2 : Int32 → Int32 → zI → zP → Prop} (hX2 : ∀ (y1 : Int32) (y2 : Int32) (I : zI) (P : zP), PSt P → X2 y1 y2 I P → Gx κ 2 [.ref 155, .int y1, .int y2] [] SHy I P 0 0) {y1 : Int32} {y2 : Int32} {I : zI} {P : zP} (hP : PSt P) (h : j_X10_ints_27 X2 K y1 y2 I P) : Gx κ 27 [.ref 155, .int y1, .int y2] [.ref 155] SHy I P 0 0 := by
  unfold j_X10_ints_27 at h
  refine g_iconst cx dX10_ints_27 ic_0 ?_
  refine g_pI cx lk_X10_278 rfl (Nat.le_of_ble_eq_true rfl) rfl dX10_ints_28 fi_10_38 rfl rfl ?_
  refine g_iinc cx (v := (y2 + 1)) dX10_ints_31 rfl rfl (Nat.le_of_ble_eq_true rfl) (Gx.L [.ref 155, .int y1, .int (y2 + 1)] rfl ?_)
  refine g_goto cx (tgt := 2) dX10_ints_34 rfl ?_
  exact hX2 _ _ _ _ hP h
def l_X10_ints_2 (K : zI → zP → Prop) : Nat → Int32 → Int32 → zI → zP → Prop
  | 0, _, _, _, _ => False
  | n + 1, y1, y2, I, P => if y1 ≤ y2 then (K I P) else (w_X10_pull I P (fun (v2 : Int32) (I2 : zI) (P2 : zP) => (if v2 = 1 then (if (I2 155 38) = 0 then (j_X10_ints_27 (l_X10_ints_2 K n) K y1 y2 I2 P2) else ((l_X10_ints_2 K n) y1 (y2 + 1) (zu I2 155 38 1) P2)) else (j_X10_ints_27 (l_X10_ints_2 K n) K y1 y2 I2 P2))))
theorem gl_X10_ints_2 {κ : zX} (cx : Cx yX10_ints cX10_ints 3 none 1 20 κ) {K : zI → zP → Prop} (hE : zEnd (zKv K) 0 0 κ) : ∀ (n : Nat) (y1 : Int32) (y2 : Int32) (I : zI) (P : zP), PSt P → l_X10_ints_2 K n y1 y2 I P → Gx κ 2 [.ref 155, .int y1, .int y2] [] SHy I P 0 0 := by
  intro n
  induction n with
  | zero =>
    intro y1 y2 I P hP h
    rw [l_X10_ints_2] at h
    exact False.elim h
  | succ n ih =>
    intro y1 y2 I P hP h
    rw [l_X10_ints_2] at h
    refine g_iload_n cx dX10_ints_2 rfl ?_
    refine g_iload_n cx dX10_ints_3 rfl ?_
    refine g_icmp_ge cx (tgt := 37) dX10_ints_4 rfl (fun c1 => ?_) (fun c1 => ?_)
    · have h := zifp c1 h
      exact g_wv cx hE dX10_ints_37 rfl hP h
    · have h := zifn c1 h
      refine g_aload_n cx dX10_ints_7 rfl ?_
      refine g_aload_n cx dX10_ints_8 rfl ?_
      refine g_wVi cx [] [.ref 155] (e_X10_pull hP h) mt_X10_pull ml_X10_302 rfl rfl rfl dX10_ints_9 rfl rfl (Nat.le_of_ble_eq_true rfl) (Nat.le_of_ble_eq_true rfl) (Nat.le_of_ble_eq_true rfl) (fun v2 I2 P2 hP h => ?_)
      refine g_iconst cx dX10_ints_12 ic_1 ?_
      refine g_icmp_ne cx (tgt := 27) dX10_ints_13 rfl (fun c3 => ?_) (fun c3 => ?_)
      · have h := zifn c3 h
        exact gj_X10_ints_27 cx hE ih hP h
      · have h := zifp c3 h
        refine g_aload_n cx dX10_ints_16 rfl ?_
        refine g_getI cx lk_X10_278 rfl (Nat.le_of_ble_eq_true rfl) rfl dX10_ints_17 (x := (I2 155 38)) rfl ?_
        refine g_if_eq cx (tgt := 27) dX10_ints_20 rfl (fun c4 => ?_) (fun c4 => ?_)
        · have h := zifp c4 h
          exact gj_X10_ints_27 cx hE ih hP h
        · have h := zifn c4 h
          refine g_iconst cx dX10_ints_23 ic_1 ?_
          refine g_goto cx (tgt := 28) dX10_ints_24 rfl ?_
          refine g_pI cx lk_X10_278 rfl (Nat.le_of_ble_eq_true rfl) rfl dX10_ints_28 fi_10_38 rfl rfl ?_
          refine g_iinc cx (v := (y2 + 1)) dX10_ints_31 rfl rfl (Nat.le_of_ble_eq_true rfl) (Gx.L [.ref 155, .int y1, .int (y2 + 1)] rfl ?_)
          refine g_goto cx (tgt := 2) dX10_ints_34 rfl ?_
          exact ih _ _ _ _ hP h
def w_X10_ints (x1 : Int32) (I : zI) (P : zP) (K : zI → zP → Prop) : Prop := ∃ n9, l_X10_ints_2 K n9 x1 0 I P
theorem e_X10_ints {x1 : Int32} {I : zI} {P : zP} {K : zI → zP → Prop} (hP : PSt P) (h : w_X10_ints x1 I P K) : Ev yX10_ints cX10_ints 3 none 1 20 0 0 [.ref 155, .int x1] SHy I P (zKv K) := by
  refine Ev.start [.ref 155, .int x1, .float 0] pn_X10 rfl (Nat.le_of_ble_eq_true rfl) rfl (fun κ cx hE => ?_)
  unfold w_X10_ints at h
  refine g_iconst cx dX10_ints_0 ic_0 ?_
  refine g_istore_n cx dX10_ints_1 (Nat.le_of_ble_eq_true rfl) (Gx.L [.ref 155, .int x1, .int 0] rfl ?_)
  obtain ⟨n9, h⟩ := h
  exact gl_X10_ints_2 cx hE n9 _ _ _ _ hP h
def j_X10_push_26 (K : zI → zP → Prop) (y1 : Int32) (s0 : Int32) (I : zI) (P : zP) : Prop := zbo s0 ∧ (vp_in (I 155 37) 16 ∧ (K (zu (zu (zu I 155 38 s0) 188 (((I 155 37)).toNatClampNeg) y1) 155 37 (((zu (zu I 155 38 s0) 188 (((I 155 37)).toNatClampNeg) y1) 155 37) + 1)) P))
theorem gj_X10_push_26 {κ : zX} (cx : Cx yX10_push cX10_push 2 none 0 0 κ) {K : zI → zP → Prop} (hE : zEnd (zKv K) 0 0 κ) {y1 : Int32} {s0 : Int32} {I : zI} {P : zP} (hP : PSt P) (h : j_X10_push_26 K y1 s0 I P) : Gx κ 26 [.ref 155, .int y1] [.int s0, .ref 155] SHy I P 0 0 := by
  unfold j_X10_push_26 at h
  obtain ⟨hc1, h⟩ := h
  refine g_pI cx lk_X10_278 rfl (Nat.le_of_ble_eq_true rfl) rfl dX10_push_26 fi_10_38 (zbo_n hc1) (zbo_f hc1) ?_
  refine g_aload_n cx dX10_push_29 rfl ?_
  refine g_getR cx lk_X10_111 rfl (Nat.le_of_ble_eq_true rfl) rfl dX10_push_30 (v := 188) (pst hP 187 rfl) ?_
  refine g_aload_n cx dX10_push_33 rfl ?_
  refine g_getI cx lk_X10_282 rfl (Nat.le_of_ble_eq_true rfl) rfl dX10_push_34 (x := (I 155 37)) rfl ?_
  refine g_iload_n cx dX10_push_37 rfl ?_
  obtain ⟨hc2, h⟩ := h
  refine g_iast cx dX10_push_38 rfl hc2 ?_
  refine g_aload_n cx dX10_push_39 rfl ?_
  refine g_dup cx dX10_push_40 rfl ?_
  refine g_getI cx lk_X10_282 rfl (Nat.le_of_ble_eq_true rfl) rfl dX10_push_41 (x := ((zu (zu I 155 38 s0) 188 (((I 155 37)).toNatClampNeg) y1) 155 37)) rfl ?_
  refine g_iconst cx dX10_push_44 ic_1 ?_
  refine g_iadd cx dX10_push_45 ?_
  refine g_pI cx lk_X10_282 rfl (Nat.le_of_ble_eq_true rfl) rfl dX10_push_46 fi_10_37 rfl rfl ?_
  exact g_wv cx hE dX10_push_49 rfl hP h
def j_X10_push_25 (K : zI → zP → Prop) (y1 : Int32) (I : zI) (P : zP) : Prop := j_X10_push_26 K y1 0 I P
theorem gj_X10_push_25 {κ : zX} (cx : Cx yX10_push cX10_push 2 none 0 0 κ) {K : zI → zP → Prop} (hE : zEnd (zKv K) 0 0 κ) {y1 : Int32} {I : zI} {P : zP} (hP : PSt P) (h : j_X10_push_25 K y1 I P) : Gx κ 25 [.ref 155, .int y1] [.ref 155] SHy I P 0 0 := by
  unfold j_X10_push_25 at h
  refine g_iconst cx dX10_push_25 ic_0 ?_
  exact gj_X10_push_26 cx hE hP h
def w_X10_push (x1 : Int32) (I : zI) (P : zP) (K : zI → zP → Prop) : Prop := if (I 155 38) = 0 then (j_X10_push_25 K x1 I P) else (if 10 ≤ (I 155 37) then (j_X10_push_25 K x1 I P) else (if x1 = 0 then (j_X10_push_25 K x1 I P) else (j_X10_push_26 K x1 1 I P)))
theorem e_X10_push {x1 : Int32} {I : zI} {P : zP} {K : zI → zP → Prop} (hP : PSt P) (h : w_X10_push x1 I P K) : Ev yX10_push cX10_push 2 none 0 0 0 0 [.ref 155, .int x1] SHy I P (zKv K) := by
  refine Ev.start [.ref 155, .int x1] pn_X10 rfl (Nat.le_of_ble_eq_true rfl) rfl (fun κ cx hE => ?_)
  unfold w_X10_push at h
  refine g_aload_n cx dX10_push_0 rfl ?_
  refine g_aload_n cx dX10_push_1 rfl ?_
  refine g_getI cx lk_X10_278 rfl (Nat.le_of_ble_eq_true rfl) rfl dX10_push_2 (x := (I 155 38)) rfl ?_
  refine g_if_eq cx (tgt := 25) dX10_push_5 rfl (fun c1 => ?_) (fun c1 => ?_)
  · have h := zifp c1 h
    exact gj_X10_push_25 cx hE hP h
  · have h := zifn c1 h
    refine g_aload_n cx dX10_push_8 rfl ?_
    refine g_getI cx lk_X10_282 rfl (Nat.le_of_ble_eq_true rfl) rfl dX10_push_9 (x := (I 155 37)) rfl ?_
    refine g_bipush cx dX10_push_12 bp_10 ?_
    refine g_icmp_ge cx (tgt := 25) dX10_push_14 rfl (fun c2 => ?_) (fun c2 => ?_)
    · have h := zifp c2 h
      exact gj_X10_push_25 cx hE hP h
    · have h := zifn c2 h
      refine g_iload_n cx dX10_push_17 rfl ?_
      refine g_if_eq cx (tgt := 25) dX10_push_18 rfl (fun c3 => ?_) (fun c3 => ?_)
      · have h := zifp c3 h
        exact gj_X10_push_25 cx hE hP h
      · have h := zifn c3 h
        refine g_iconst cx dX10_push_21 ic_1 ?_
        refine g_goto cx (tgt := 26) dX10_push_22 rfl ?_
        exact gj_X10_push_26 cx hE hP h
def j_X10_rows_56 (K : zI → zP → Prop) (y1 : Int32) (s0 : Int32) (I : zI) (P : zP) : Prop := zbo s0 ∧ (if y1 = 39 then (K (zu I 155 38 s0) P) else (w_X10_push 1 (zu I 155 38 s0) P (fun (I3 : zI) (P3 : zP) => (K I3 P3))))
theorem gj_X10_rows_56 {κ : zX} (cx : Cx yX10_rows cX10_rows 2 none 2 42 κ) {K : zI → zP → Prop} (hE : zEnd (zKv K) 0 0 κ) {y1 : Int32} {s0 : Int32} {I : zI} {P : zP} (hP : PSt P) (h : j_X10_rows_56 K y1 s0 I P) : Gx κ 56 [.ref 155, .int y1] [.int s0, .ref 155] SHy I P 0 0 := by
  unfold j_X10_rows_56 at h
  obtain ⟨hc1, h⟩ := h
  refine g_pI cx lk_X10_278 rfl (Nat.le_of_ble_eq_true rfl) rfl dX10_rows_56 fi_10_38 (zbo_n hc1) (zbo_f hc1) ?_
  refine g_iload_n cx dX10_rows_59 rfl ?_
  refine g_bipush cx dX10_rows_60 bp_39 ?_
  refine g_icmp_eq cx (tgt := 70) dX10_rows_62 rfl (fun c2 => ?_) (fun c2 => ?_)
  · have h := zifp c2 h
    exact g_wv cx hE dX10_rows_70 rfl hP h
  · have h := zifn c2 h
    refine g_aload_n cx dX10_rows_65 rfl ?_
    refine g_iconst cx dX10_rows_66 ic_1 ?_
    refine g_wVv cx [.int 1] [] (e_X10_push hP h) mt_X10_push ml_X10_306 rfl rfl rfl dX10_rows_67 rfl rfl (Nat.le_of_ble_eq_true rfl) (Nat.le_of_ble_eq_true rfl) (Nat.le_of_ble_eq_true rfl) (fun I3 P3 hP h => ?_)
    exact g_wv cx hE dX10_rows_70 rfl hP h
def j_X10_rows_55 (K : zI → zP → Prop) (y1 : Int32) (I : zI) (P : zP) : Prop := j_X10_rows_56 K y1 0 I P
theorem gj_X10_rows_55 {κ : zX} (cx : Cx yX10_rows cX10_rows 2 none 2 42 κ) {K : zI → zP → Prop} (hE : zEnd (zKv K) 0 0 κ) {y1 : Int32} {I : zI} {P : zP} (hP : PSt P) (h : j_X10_rows_55 K y1 I P) : Gx κ 55 [.ref 155, .int y1] [.ref 155] SHy I P 0 0 := by
  unfold j_X10_rows_55 at h
  refine g_iconst cx dX10_rows_55 ic_0 ?_
  exact gj_X10_rows_56 cx hE hP h
def j_X10_rows_32 (K : zI → zP → Prop) (y1 : Int32) (s0 : Int32) (I : zI) (P : zP) : Prop := w_X10_ints s0 I P (fun (I1 : zI) (P1 : zP) => (w_X10_pull I1 P1 (fun (v2 : Int32) (I2 : zI) (P2 : zP) => (if v2 = 2 then (if (I2 155 38) = 0 then (j_X10_rows_55 K y1 I2 P2) else (j_X10_rows_56 K y1 1 I2 P2)) else (j_X10_rows_55 K y1 I2 P2)))))
theorem gj_X10_rows_32 {κ : zX} (cx : Cx yX10_rows cX10_rows 2 none 2 42 κ) {K : zI → zP → Prop} (hE : zEnd (zKv K) 0 0 κ) {y1 : Int32} {s0 : Int32} {I : zI} {P : zP} (hP : PSt P) (h : j_X10_rows_32 K y1 s0 I P) : Gx κ 32 [.ref 155, .int y1] [.int s0, .ref 155] SHy I P 0 0 := by
  unfold j_X10_rows_32 at h
  refine g_wVv cx [.int s0] [] (e_X10_ints hP h) mt_X10_ints ml_X10_309 rfl rfl rfl dX10_rows_32 rfl rfl (Nat.le_of_ble_eq_true rfl) (Nat.le_of_ble_eq_true rfl) (Nat.le_of_ble_eq_true rfl) (fun I1 P1 hP h => ?_)
  refine g_aload_n cx dX10_rows_35 rfl ?_
  refine g_aload_n cx dX10_rows_36 rfl ?_
  refine g_wVi cx [] [.ref 155] (e_X10_pull hP h) mt_X10_pull ml_X10_302 rfl rfl rfl dX10_rows_37 rfl rfl (Nat.le_of_ble_eq_true rfl) (Nat.le_of_ble_eq_true rfl) (Nat.le_of_ble_eq_true rfl) (fun v2 I2 P2 hP h => ?_)
  refine g_iconst cx dX10_rows_40 ic_2 ?_
  refine g_icmp_ne cx (tgt := 55) dX10_rows_41 rfl (fun c3 => ?_) (fun c3 => ?_)
  · have h := zifn c3 h
    exact gj_X10_rows_55 cx hE hP h
  · have h := zifp c3 h
    refine g_aload_n cx dX10_rows_44 rfl ?_
    refine g_getI cx lk_X10_278 rfl (Nat.le_of_ble_eq_true rfl) rfl dX10_rows_45 (x := (I2 155 38)) rfl ?_
    refine g_if_eq cx (tgt := 55) dX10_rows_48 rfl (fun c4 => ?_) (fun c4 => ?_)
    · have h := zifp c4 h
      exact gj_X10_rows_55 cx hE hP h
    · have h := zifn c4 h
      refine g_iconst cx dX10_rows_51 ic_1 ?_
      refine g_goto cx (tgt := 56) dX10_rows_52 rfl ?_
      exact gj_X10_rows_56 cx hE hP h
def w_X10_rows (x1 : Int32) (I : zI) (P : zP) (K : zI → zP → Prop) : Prop := if x1 = 36 then (w_X10_ints 1 I P (fun (I3 : zI) (P3 : zP) => (w_X10_push 2 I3 P3 (fun (I4 : zI) (P4 : zP) => (K I4 P4))))) else (if x1 = 37 then (j_X10_rows_32 K x1 0 I P) else (j_X10_rows_32 K x1 (x1 - 37) I P))
theorem e_X10_rows {x1 : Int32} {I : zI} {P : zP} {K : zI → zP → Prop} (hP : PSt P) (h : w_X10_rows x1 I P K) : Ev yX10_rows cX10_rows 2 none 2 42 0 0 [.ref 155, .int x1] SHy I P (zKv K) := by
  refine Ev.start [.ref 155, .int x1] pn_X10 rfl (Nat.le_of_ble_eq_true rfl) rfl (fun κ cx hE => ?_)
  unfold w_X10_rows at h
  refine g_iload_n cx dX10_rows_0 rfl ?_
  refine g_bipush cx dX10_rows_1 bp_36 ?_
  refine g_icmp_ne cx (tgt := 17) dX10_rows_3 rfl (fun c1 => ?_) (fun c1 => ?_)
  · have h := zifn c1 h
    refine g_aload_n cx dX10_rows_17 rfl ?_
    refine g_iload_n cx dX10_rows_18 rfl ?_
    refine g_bipush cx dX10_rows_19 bp_37 ?_
    refine g_icmp_ne cx (tgt := 28) dX10_rows_21 rfl (fun c2 => ?_) (fun c2 => ?_)
    · have h := zifn c2 h
      refine g_iload_n cx dX10_rows_28 rfl ?_
      refine g_bipush cx dX10_rows_29 bp_37 ?_
      refine g_isub cx dX10_rows_31 ?_
      exact gj_X10_rows_32 cx hE hP h
    · have h := zifp c2 h
      refine g_iconst cx dX10_rows_24 ic_0 ?_
      refine g_goto cx (tgt := 32) dX10_rows_25 rfl ?_
      exact gj_X10_rows_32 cx hE hP h
  · have h := zifp c1 h
    refine g_aload_n cx dX10_rows_6 rfl ?_
    refine g_iconst cx dX10_rows_7 ic_1 ?_
    refine g_wVv cx [.int 1] [] (e_X10_ints hP h) mt_X10_ints ml_X10_309 rfl rfl rfl dX10_rows_8 rfl rfl (Nat.le_of_ble_eq_true rfl) (Nat.le_of_ble_eq_true rfl) (Nat.le_of_ble_eq_true rfl) (fun I3 P3 hP h => ?_)
    refine g_aload_n cx dX10_rows_11 rfl ?_
    refine g_iconst cx dX10_rows_12 ic_2 ?_
    refine g_wVv cx [.int 2] [] (e_X10_push hP h) mt_X10_push ml_X10_306 rfl rfl rfl dX10_rows_13 rfl rfl (Nat.le_of_ble_eq_true rfl) (Nat.le_of_ble_eq_true rfl) (Nat.le_of_ble_eq_true rfl) (fun I4 P4 hP h => ?_)
    exact g_wv cx hE dX10_rows_16 rfl hP h
def w_X10_size (x1 : Int32) (x2 : Int32) (I : zI) (P : zP) (K : Int32 → zI → zP → Prop) : Prop := vp_in ((400 * x1) + x2) 2400 ∧ (if (I 160 ((((400 * x1) + x2)).toNatClampNeg)) = 33 then (vp_in (((400 * x1) + x2) + 1) 2400 ∧ (w_X10_sizeOf (I 160 ((((400 * x1) + x2)).toNatClampNeg)) (I 160 (((((400 * x1) + x2) + 1)).toNatClampNeg)) I P (fun (v5 : Int32) (I5 : zI) (P5 : zP) => (K v5 I5 P5)))) else (w_X10_sizeOf (I 160 ((((400 * x1) + x2)).toNatClampNeg)) 0 I P (fun (v3 : Int32) (I3 : zI) (P3 : zP) => (K v3 I3 P3))))
theorem e_X10_size {x1 : Int32} {x2 : Int32} {I : zI} {P : zP} {K : Int32 → zI → zP → Prop} (hP : PSt P) (h : w_X10_size x1 x2 I P K) : Ev yX10_size cX10_size 4 (some .int) 2 43 0 0 [.ref 155, .int x1, .int x2] SHy I P (zKi K) := by
  refine Ev.start [.ref 155, .int x1, .int x2, .float 0] pn_X10 rfl (Nat.le_of_ble_eq_true rfl) rfl (fun κ cx hE => ?_)
  unfold w_X10_size at h
  refine g_aload_n cx dX10_size_0 rfl ?_
  refine g_getR cx lk_X10_26 rfl (Nat.le_of_ble_eq_true rfl) rfl dX10_size_1 (v := 160) (pst hP 159 rfl) ?_
  refine g_sipush cx dX10_size_4 sp_400 ?_
  refine g_iload_n cx dX10_size_7 rfl ?_
  refine g_imul cx dX10_size_8 ?_
  refine g_iload_n cx dX10_size_9 rfl ?_
  refine g_iadd cx dX10_size_10 ?_
  obtain ⟨hc1, h⟩ := h
  refine g_iald cx dX10_size_11 rfl hc1 (x := (I 160 ((((400 * x1) + x2)).toNatClampNeg))) rfl ?_
  refine g_istore_n cx dX10_size_12 (Nat.le_of_ble_eq_true rfl) (Gx.L [.ref 155, .int x1, .int x2, .int (I 160 ((((400 * x1) + x2)).toNatClampNeg))] rfl ?_)
  refine g_iload_n cx dX10_size_13 rfl ?_
  refine g_iload_n cx dX10_size_14 rfl ?_
  refine g_bipush cx dX10_size_15 bp_33 ?_
  refine g_icmp_ne cx (tgt := 37) dX10_size_17 rfl (fun c2 => ?_) (fun c2 => ?_)
  · have h := zifn c2 h
    refine g_iconst cx dX10_size_37 ic_0 ?_
    refine g_wSi cx [.int (I 160 ((((400 * x1) + x2)).toNatClampNeg)), .int 0] [] (e_X10_sizeOf hP h) mt_X10_sizeOf ml_X10_222 dX10_size_38 rfl rfl (Nat.le_of_ble_eq_true rfl) (Nat.le_of_ble_eq_true rfl) (Nat.le_of_ble_eq_true rfl) (fun v3 I3 P3 hP h => ?_)
    exact g_wi cx hE dX10_size_41 rfl rfl hP h
  · have h := zifp c2 h
    refine g_aload_n cx dX10_size_20 rfl ?_
    refine g_getR cx lk_X10_26 rfl (Nat.le_of_ble_eq_true rfl) rfl dX10_size_21 (v := 160) (pst hP 159 rfl) ?_
    refine g_sipush cx dX10_size_24 sp_400 ?_
    refine g_iload_n cx dX10_size_27 rfl ?_
    refine g_imul cx dX10_size_28 ?_
    refine g_iload_n cx dX10_size_29 rfl ?_
    refine g_iadd cx dX10_size_30 ?_
    refine g_iconst cx dX10_size_31 ic_1 ?_
    refine g_iadd cx dX10_size_32 ?_
    obtain ⟨hc4, h⟩ := h
    refine g_iald cx dX10_size_33 rfl hc4 (x := (I 160 (((((400 * x1) + x2) + 1)).toNatClampNeg))) rfl ?_
    refine g_goto cx (tgt := 38) dX10_size_34 rfl ?_
    refine g_wSi cx [.int (I 160 ((((400 * x1) + x2)).toNatClampNeg)), .int (I 160 (((((400 * x1) + x2) + 1)).toNatClampNeg))] [] (e_X10_sizeOf hP h) mt_X10_sizeOf ml_X10_222 dX10_size_38 rfl rfl (Nat.le_of_ble_eq_true rfl) (Nat.le_of_ble_eq_true rfl) (Nat.le_of_ble_eq_true rfl) (fun v5 I5 P5 hP h => ?_)
    exact g_wi cx hE dX10_size_41 rfl rfl hP h
def j_X10_taken_91 (K : Int32 → zI → zP → Prop) (s0 : Int32) (I : zI) (P : zP) : Prop := if s0 = 0 then (K 0 I P) else (K 1 I P)
theorem gj_X10_taken_91 {κ : zX} (cx : Cx yX10_taken cX10_taken 2 (some .int) 1 22 κ) {K : Int32 → zI → zP → Prop} (hE : zEnd (zKi K) 0 0 κ) {s0 : Int32} {I : zI} {P : zP} (hP : PSt P) (h : j_X10_taken_91 K s0 I P) : Gx κ 91 [.float 0, .float 0] [.int s0] SHy I P 0 0 := by
  unfold j_X10_taken_91 at h
  refine g_istore_n cx dX10_taken_91 (Nat.le_of_ble_eq_true rfl) (Gx.L [.float 0, .int s0] rfl ?_)
  refine g_iload_n cx dX10_taken_92 rfl ?_
  refine g_if_eq cx (tgt := 100) dX10_taken_93 rfl (fun c1 => ?_) (fun c1 => ?_)
  · have h := zifp c1 h
    refine g_iconst cx dX10_taken_100 ic_0 ?_
    exact g_wi cx hE dX10_taken_101 rfl rfl hP h
  · have h := zifn c1 h
    refine g_iconst cx dX10_taken_96 ic_1 ?_
    refine g_goto cx (tgt := 101) dX10_taken_97 rfl ?_
    exact g_wi cx hE dX10_taken_101 rfl rfl hP h
def w_X10_taken (x1 : Int32) (I : zI) (P : zP) (K : Int32 → zI → zP → Prop) : Prop := w_X10_in x1 9 18 I P (fun (v1 : Int32) (I1 : zI) (P1 : zP) => (if v1 = 0 then (w_X10_in x1 27 32 I1 P1 (fun (v3 : Int32) (I3 : zI) (P3 : zP) => (if v3 = 0 then (w_X10_in x1 91 96 I3 P3 (fun (v5 : Int32) (I5 : zI) (P5 : zP) => (if v5 = 0 then (if x1 = 19 then (j_X10_taken_91 K 1 I5 P5) else (w_X10_in x1 21 26 I5 P5 (fun (v8 : Int32) (I8 : zI) (P8 : zP) => (if v8 = 0 then (w_X10_in x1 85 90 I8 P8 (fun (v10 : Int32) (I10 : zI) (P10 : zP) => (if v10 = 0 then (if x1 = 33 then (j_X10_taken_91 K 1 I10 P10) else (if x1 = 35 then (j_X10_taken_91 K 1 I10 P10) else (w_X10_in x1 41 43 I10 P10 (fun (v14 : Int32) (I14 : zI) (P14 : zP) => (if v14 = 0 then (j_X10_taken_91 K 0 I14 P14) else (j_X10_taken_91 K 1 I14 P14)))))) else (j_X10_taken_91 K 1 I10 P10)))) else (j_X10_taken_91 K 1 I8 P8))))) else (K 2 I5 P5)))) else (K 2 I3 P3)))) else (K 2 I1 P1)))
theorem e_X10_taken {x1 : Int32} {I : zI} {P : zP} {K : Int32 → zI → zP → Prop} (hP : PSt P) (h : w_X10_taken x1 I P K) : Ev yX10_taken cX10_taken 2 (some .int) 1 22 0 0 [.int x1] SHy I P (zKi K) := by
  refine Ev.start [.int x1, .float 0] pn_X10 rfl (Nat.le_of_ble_eq_true rfl) rfl (fun κ cx hE => ?_)
  unfold w_X10_taken at h
  refine g_iload_n cx dX10_taken_0 rfl ?_
  refine g_bipush cx dX10_taken_1 bp_9 ?_
  refine g_bipush cx dX10_taken_3 bp_18 ?_
  refine g_wSi cx [.int x1, .int 9, .int 18] [] (e_X10_in hP h) mt_X10_in ml_X10_217 dX10_taken_5 rfl rfl (Nat.le_of_ble_eq_true rfl) (Nat.le_of_ble_eq_true rfl) (Nat.le_of_ble_eq_true rfl) (fun v1 I1 P1 hP h => ?_)
  refine g_if_ne cx (tgt := 33) dX10_taken_8 rfl (fun c2 => ?_) (fun c2 => ?_)
  · have h := zifn c2 h
    refine g_iconst cx dX10_taken_33 ic_2 ?_
    exact g_wi cx hE dX10_taken_34 rfl rfl hP h
  · have h := zifp c2 h
    refine g_iload_n cx dX10_taken_11 rfl ?_
    refine g_bipush cx dX10_taken_12 bp_27 ?_
    refine g_bipush cx dX10_taken_14 bp_32 ?_
    refine g_wSi cx [.int x1, .int 27, .int 32] [] (e_X10_in hP h) mt_X10_in ml_X10_217 dX10_taken_16 rfl rfl (Nat.le_of_ble_eq_true rfl) (Nat.le_of_ble_eq_true rfl) (Nat.le_of_ble_eq_true rfl) (fun v3 I3 P3 hP h => ?_)
    refine g_if_ne cx (tgt := 33) dX10_taken_19 rfl (fun c4 => ?_) (fun c4 => ?_)
    · have h := zifn c4 h
      refine g_iconst cx dX10_taken_33 ic_2 ?_
      exact g_wi cx hE dX10_taken_34 rfl rfl hP h
    · have h := zifp c4 h
      refine g_iload_n cx dX10_taken_22 rfl ?_
      refine g_bipush cx dX10_taken_23 bp_91 ?_
      refine g_bipush cx dX10_taken_25 bp_96 ?_
      refine g_wSi cx [.int x1, .int 91, .int 96] [] (e_X10_in hP h) mt_X10_in ml_X10_217 dX10_taken_27 rfl rfl (Nat.le_of_ble_eq_true rfl) (Nat.le_of_ble_eq_true rfl) (Nat.le_of_ble_eq_true rfl) (fun v5 I5 P5 hP h => ?_)
      refine g_if_eq cx (tgt := 35) dX10_taken_30 rfl (fun c6 => ?_) (fun c6 => ?_)
      · have h := zifp c6 h
        refine g_iload_n cx dX10_taken_35 rfl ?_
        refine g_bipush cx dX10_taken_36 bp_19 ?_
        refine g_icmp_eq cx (tgt := 86) dX10_taken_38 rfl (fun c7 => ?_) (fun c7 => ?_)
        · have h := zifp c7 h
          refine g_iconst cx dX10_taken_86 ic_1 ?_
          refine g_goto cx (tgt := 91) dX10_taken_87 rfl ?_
          refine (Gx.unset 0 (Gx.L [.float 0, .float 0] rfl ?_))
          exact gj_X10_taken_91 cx hE hP h
        · have h := zifn c7 h
          refine g_iload_n cx dX10_taken_41 rfl ?_
          refine g_bipush cx dX10_taken_42 bp_21 ?_
          refine g_bipush cx dX10_taken_44 bp_26 ?_
          refine g_wSi cx [.int x1, .int 21, .int 26] [] (e_X10_in hP h) mt_X10_in ml_X10_217 dX10_taken_46 rfl rfl (Nat.le_of_ble_eq_true rfl) (Nat.le_of_ble_eq_true rfl) (Nat.le_of_ble_eq_true rfl) (fun v8 I8 P8 hP h => ?_)
          refine g_if_ne cx (tgt := 86) dX10_taken_49 rfl (fun c9 => ?_) (fun c9 => ?_)
          · have h := zifn c9 h
            refine g_iconst cx dX10_taken_86 ic_1 ?_
            refine g_goto cx (tgt := 91) dX10_taken_87 rfl ?_
            refine (Gx.unset 0 (Gx.L [.float 0, .float 0] rfl ?_))
            exact gj_X10_taken_91 cx hE hP h
          · have h := zifp c9 h
            refine g_iload_n cx dX10_taken_52 rfl ?_
            refine g_bipush cx dX10_taken_53 bp_85 ?_
            refine g_bipush cx dX10_taken_55 bp_90 ?_
            refine g_wSi cx [.int x1, .int 85, .int 90] [] (e_X10_in hP h) mt_X10_in ml_X10_217 dX10_taken_57 rfl rfl (Nat.le_of_ble_eq_true rfl) (Nat.le_of_ble_eq_true rfl) (Nat.le_of_ble_eq_true rfl) (fun v10 I10 P10 hP h => ?_)
            refine g_if_ne cx (tgt := 86) dX10_taken_60 rfl (fun c11 => ?_) (fun c11 => ?_)
            · have h := zifn c11 h
              refine g_iconst cx dX10_taken_86 ic_1 ?_
              refine g_goto cx (tgt := 91) dX10_taken_87 rfl ?_
              refine (Gx.unset 0 (Gx.L [.float 0, .float 0] rfl ?_))
              exact gj_X10_taken_91 cx hE hP h
            · have h := zifp c11 h
              refine g_iload_n cx dX10_taken_63 rfl ?_
              refine g_bipush cx dX10_taken_64 bp_33 ?_
              refine g_icmp_eq cx (tgt := 86) dX10_taken_66 rfl (fun c12 => ?_) (fun c12 => ?_)
              · have h := zifp c12 h
                refine g_iconst cx dX10_taken_86 ic_1 ?_
                refine g_goto cx (tgt := 91) dX10_taken_87 rfl ?_
                refine (Gx.unset 0 (Gx.L [.float 0, .float 0] rfl ?_))
                exact gj_X10_taken_91 cx hE hP h
              · have h := zifn c12 h
                refine g_iload_n cx dX10_taken_69 rfl ?_
                refine g_bipush cx dX10_taken_70 bp_35 ?_
                refine g_icmp_eq cx (tgt := 86) dX10_taken_72 rfl (fun c13 => ?_) (fun c13 => ?_)
                · have h := zifp c13 h
                  refine g_iconst cx dX10_taken_86 ic_1 ?_
                  refine g_goto cx (tgt := 91) dX10_taken_87 rfl ?_
                  refine (Gx.unset 0 (Gx.L [.float 0, .float 0] rfl ?_))
                  exact gj_X10_taken_91 cx hE hP h
                · have h := zifn c13 h
                  refine g_iload_n cx dX10_taken_75 rfl ?_
                  refine g_bipush cx dX10_taken_76 bp_41 ?_
                  refine g_bipush cx dX10_taken_78 bp_43 ?_
                  refine g_wSi cx [.int x1, .int 41, .int 43] [] (e_X10_in hP h) mt_X10_in ml_X10_217 dX10_taken_80 rfl rfl (Nat.le_of_ble_eq_true rfl) (Nat.le_of_ble_eq_true rfl) (Nat.le_of_ble_eq_true rfl) (fun v14 I14 P14 hP h => ?_)
                  refine g_if_eq cx (tgt := 90) dX10_taken_83 rfl (fun c15 => ?_) (fun c15 => ?_)
                  · have h := zifp c15 h
                    refine g_iconst cx dX10_taken_90 ic_0 ?_
                    refine (Gx.unset 0 (Gx.L [.float 0, .float 0] rfl ?_))
                    exact gj_X10_taken_91 cx hE hP h
                  · have h := zifn c15 h
                    refine g_iconst cx dX10_taken_86 ic_1 ?_
                    refine g_goto cx (tgt := 91) dX10_taken_87 rfl ?_
                    refine (Gx.unset 0 (Gx.L [.float 0, .float 0] rfl ?_))
                    exact gj_X10_taken_91 cx hE hP h
      · have h := zifn c6 h
        refine g_iconst cx dX10_taken_33 ic_2 ?_
        exact g_wi cx hE dX10_taken_34 rfl rfl hP h
