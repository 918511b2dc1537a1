def w_X9_handler (x1 : Int32) (x2 : Int32) (x3 : Int32) (x4 : Int32) (I : zI) (P : zP) (K : Int32 → zI → zP → Prop) : Prop := w_X9_isMethod x1 I P (fun (v1 : Int32) (I1 : zI) (P1 : zP) => (if v1 = 0 then (K (-1) I1 P1) else (if x3 < 0 then (K (-1) I1 P1) else (if x4 < 0 then (K (-1) I1 P1) else (if x4 < 4 then (vp_in x1 6 ∧ (∃ v7, P1 19 (x1).toNatClampNeg = some v7 ∧ (if x2 = 0 then (SHy[v7]? = some (3, 11) ∧ (if (I1 v7 10) ≤ x3 then (K (-1) I1 P1) else (∃ v12, P1 v7 5 = some v12 ∧ (w_X9_handlerPart v12 x3 x4 I1 P1 (fun (v14 : Int32) (I14 : zI) (P14 : zP) => (K v14 I14 P14)))))) else (SHy[v7]? = some (3, 11) ∧ (∃ v16, P1 v7 6 = some v16 ∧ (SHy[v16]? = some (8, 11) ∧ (w_X8_handlersIfThere v16 I1 P1 (fun (v19 : Int32) (I19 : zI) (P19 : zP) => (if v19 ≤ x3 then (K (-1) I19 P19) else (∃ v21, P19 v7 6 = some v21 ∧ (SHy[v21]? = some (8, 11) ∧ (∃ v24, P19 v21 4 = some v24 ∧ (w_X9_handlerPart v24 x3 x4 I19 P19 (fun (v26 : Int32) (I26 : zI) (P26 : zP) => (K v26 I26 P26))))))))))))))) else (K (-1) I1 P1))))))
theorem e_X9_handler {x1 : Int32} {x2 : Int32} {x3 : Int32} {x4 : Int32} {I : zI} {P : zP} {K : Int32 → zI → zP → Prop} (hP : PSt P) (h : w_X9_handler x1 x2 x3 x4 I P K) : Ev yX9_handler cX9_handler 6 (some .int) 1 23 0 0 [.ref 0, .int x1, .int x2, .int x3, .int x4] SHy I P (zKi K) := by
  refine Ev.start [.ref 0, .int x1, .int x2, .int x3, .int x4, .float 0] pn_X9 rfl (Nat.le_of_ble_eq_true rfl) rfl (fun κ cx hE => ?_)
  unfold w_X9_handler at h
  refine g_aload_n cx dX9_handler_0 rfl ?_
  refine g_iload_n cx dX9_handler_1 rfl ?_
  refine g_wVi cx [.int x1] [] (e_X9_isMethod hP h) mt_X9_isMethod ml_X9_86 rfl rfl rfl dX9_handler_2 rfl rfl (Nat.le_of_ble_eq_true rfl) (Nat.le_of_ble_eq_true rfl) (Nat.le_of_ble_eq_true rfl) (fun v1 I1 P1 hP h => ?_)
  refine g_if_eq cx (tgt := 23) dX9_handler_5 rfl (fun c2 => ?_) (fun c2 => ?_)
  · have h := zifp c2 h
    refine g_iconst cx dX9_handler_23 ic_m1 ?_
    exact g_wi cx hE dX9_handler_24 rfl rfl hP h
  · have h := zifn c2 h
    refine g_iload_n cx dX9_handler_8 rfl ?_
    refine g_if_lt cx (tgt := 23) dX9_handler_9 rfl (fun c3 => ?_) (fun c3 => ?_)
    · have h := zifp c3 h
      refine g_iconst cx dX9_handler_23 ic_m1 ?_
      exact g_wi cx hE dX9_handler_24 rfl rfl hP h
    · have h := zifn c3 h
      refine g_iload cx dX9_handler_12 rfl ?_
      refine g_if_lt cx (tgt := 23) dX9_handler_14 rfl (fun c4 => ?_) (fun c4 => ?_)
      · have h := zifp c4 h
        refine g_iconst cx dX9_handler_23 ic_m1 ?_
        exact g_wi cx hE dX9_handler_24 rfl rfl hP h
      · have h := zifn c4 h
        refine g_iload cx dX9_handler_17 rfl ?_
        refine g_iconst cx dX9_handler_19 ic_4 ?_
        refine g_icmp_lt cx (tgt := 25) dX9_handler_20 rfl (fun c5 => ?_) (fun c5 => ?_)
        · have h := zifp c5 h
          refine g_aload_n cx dX9_handler_25 rfl ?_
          refine g_getR cx lk_X9_58 rfl (Nat.le_of_ble_eq_true rfl) rfl dX9_handler_26 (v := 19) (pst hP 109 rfl) ?_
          refine g_iload_n cx dX9_handler_29 rfl ?_
          obtain ⟨hc6, h⟩ := h
          obtain ⟨v7, hv8, h⟩ := h
          refine g_aald cx rfl (Nat.le_of_ble_eq_true rfl) (Nat.le_of_ble_eq_true rfl) hc6 hv8 dX9_handler_30 ?_
          refine g_astore cx dX9_handler_31 (Nat.le_of_ble_eq_true rfl) (Gx.L [.ref 0, .int x1, .int x2, .int x3, .int x4, .ref v7] rfl ?_)
          refine g_iload_n cx dX9_handler_33 rfl ?_
          refine g_if_eq cx (tgt := 68) dX9_handler_34 rfl (fun c9 => ?_) (fun c9 => ?_)
          · have h := zifp c9 h
            refine g_iload_n cx dX9_handler_68 rfl ?_
            refine g_aload cx dX9_handler_69 rfl ?_
            obtain ⟨hs10, h⟩ := h
            refine g_getI cx lk_X9_125 hs10 (Nat.le_of_ble_eq_true rfl) rfl dX9_handler_71 (x := (I1 v7 10)) rfl ?_
            refine g_icmp_ge cx (tgt := 91) dX9_handler_74 rfl (fun c11 => ?_) (fun c11 => ?_)
            · have h := zifp c11 h
              refine g_iconst cx dX9_handler_91 ic_m1 ?_
              exact g_wi cx hE dX9_handler_92 rfl rfl hP h
            · have h := zifn c11 h
              refine g_aload cx dX9_handler_77 rfl ?_
              obtain ⟨v12, hv13, h⟩ := h
              refine g_getR cx lk_X9_128 hs10 (Nat.le_of_ble_eq_true rfl) rfl dX9_handler_79 hv13 ?_
              refine g_iload_n cx dX9_handler_82 rfl ?_
              refine g_iload cx dX9_handler_83 rfl ?_
              refine g_wSi cx [.ref v12, .int x3, .int x4] [] (e_X9_handlerPart hP h) mt_X9_handlerPart ml_X9_121 dX9_handler_85 rfl rfl (Nat.le_of_ble_eq_true rfl) (Nat.le_of_ble_eq_true rfl) (Nat.le_of_ble_eq_true rfl) (fun v14 I14 P14 hP h => ?_)
              refine g_goto cx (tgt := 92) dX9_handler_88 rfl ?_
              exact g_wi cx hE dX9_handler_92 rfl rfl hP h
          · have h := zifn c9 h
            refine g_iload_n cx dX9_handler_37 rfl ?_
            refine g_aload cx dX9_handler_38 rfl ?_
            obtain ⟨hs15, h⟩ := h
            obtain ⟨v16, hv17, h⟩ := h
            refine g_getR cx lk_X9_94 hs15 (Nat.le_of_ble_eq_true rfl) rfl dX9_handler_40 hv17 ?_
            obtain ⟨hs18, h⟩ := h
            refine g_wVi cx [] [.int x3] (e_X8_handlersIfThere hP h) mt_X8_handlersIfThere ml_X9_115 hs18 rfl rfl dX9_handler_43 rfl rfl (Nat.le_of_ble_eq_true rfl) (Nat.le_of_ble_eq_true rfl) (Nat.le_of_ble_eq_true rfl) (fun v19 I19 P19 hP h => ?_)
            refine g_icmp_ge cx (tgt := 66) dX9_handler_46 rfl (fun c20 => ?_) (fun c20 => ?_)
            · have h := zifp c20 h
              refine g_iconst cx dX9_handler_66 ic_m1 ?_
              exact g_wi cx hE dX9_handler_67 rfl rfl hP h
            · have h := zifn c20 h
              refine g_aload cx dX9_handler_49 rfl ?_
              obtain ⟨v21, hv22, h⟩ := h
              refine g_getR cx lk_X9_94 hs15 (Nat.le_of_ble_eq_true rfl) rfl dX9_handler_51 hv22 ?_
              obtain ⟨hs23, h⟩ := h
              obtain ⟨v24, hv25, h⟩ := h
              refine g_getR cx lk_X9_118 hs23 (Nat.le_of_ble_eq_true rfl) rfl dX9_handler_54 hv25 ?_
              refine g_iload_n cx dX9_handler_57 rfl ?_
              refine g_iload cx dX9_handler_58 rfl ?_
              refine g_wSi cx [.ref v24, .int x3, .int x4] [] (e_X9_handlerPart hP h) mt_X9_handlerPart ml_X9_121 dX9_handler_60 rfl rfl (Nat.le_of_ble_eq_true rfl) (Nat.le_of_ble_eq_true rfl) (Nat.le_of_ble_eq_true rfl) (fun v26 I26 P26 hP h => ?_)
              refine g_goto cx (tgt := 67) dX9_handler_63 rfl ?_
              exact g_wi cx hE dX9_handler_67 rfl rfl hP h
        · have h := zifn c5 h
          refine g_iconst cx dX9_handler_23 ic_m1 ?_
          exact g_wi cx hE dX9_handler_24 rfl rfl hP h
def w_X9_make (I : zI) (P : zP) (K : Int32 → zI → zP → Prop) : Prop := if (I 0 9) < 0 then (K (-3) (zu (zu I 0 8 0) 0 10 (-1)) P) else (if (I 0 9) < 6 then (vp_in (I 0 9) 6 ∧ (∃ v4, P 19 ((I 0 9)).toNatClampNeg = some v4 ∧ (w_X9_findFault v4 (I 0 8) (zu (zu I 0 8 0) 0 10 (-1)) P (fun (v6 : Int32) (I6 : zI) (P6 : zP) => (if v6 = 0 then (K (((I6 0 9) + 1) - 1) (zu I6 0 9 ((I6 0 9) + 1)) P6) else (K ((-10) - v6) I6 P6)))))) else (K (-3) (zu (zu I 0 8 0) 0 10 (-1)) P))
theorem e_X9_make {I : zI} {P : zP} {K : Int32 → zI → zP → Prop} (hP : PSt P) (h : w_X9_make I P K) : Ev yX9_make cX9_make 4 (some .int) 6 141 0 0 [.ref 0] SHy I P (zKi K) := by
  refine Ev.start [.ref 0, .float 0, .float 0, .float 0] pn_X9 rfl (Nat.le_of_ble_eq_true rfl) rfl (fun κ cx hE => ?_)
  unfold w_X9_make at h
  refine g_aload_n cx dX9_make_0 rfl ?_
  refine g_getI cx lk_X9_34 rfl (Nat.le_of_ble_eq_true rfl) rfl dX9_make_1 (x := (I 0 8)) rfl ?_
  refine g_istore_n cx dX9_make_4 (Nat.le_of_ble_eq_true rfl) (Gx.L [.ref 0, .int (I 0 8), .float 0, .float 0] rfl ?_)
  refine g_aload_n cx dX9_make_5 rfl ?_
  refine g_iconst cx dX9_make_6 ic_0 ?_
  refine g_pI cx lk_X9_34 rfl (Nat.le_of_ble_eq_true rfl) rfl dX9_make_7 fi_9_8 rfl rfl ?_
  refine g_aload_n cx dX9_make_10 rfl ?_
  refine g_iconst cx dX9_make_11 ic_m1 ?_
  refine g_pI cx lk_X9_41 rfl (Nat.le_of_ble_eq_true rfl) rfl dX9_make_12 fi_9_10 rfl rfl ?_
  refine g_aload_n cx dX9_make_15 rfl ?_
  refine g_getI cx lk_X9_38 rfl (Nat.le_of_ble_eq_true rfl) rfl dX9_make_16 (x := (I 0 9)) rfl ?_
  refine g_if_lt cx (tgt := 31) dX9_make_19 rfl (fun c1 => ?_) (fun c1 => ?_)
  · have h := zifp c1 h
    refine g_bipush cx dX9_make_31 bp_m3 ?_
    exact g_wi cx hE dX9_make_33 rfl rfl hP h
  · have h := zifn c1 h
    refine g_aload_n cx dX9_make_22 rfl ?_
    refine g_getI cx lk_X9_38 rfl (Nat.le_of_ble_eq_true rfl) rfl dX9_make_23 (x := (I 0 9)) rfl ?_
    refine g_bipush cx dX9_make_26 bp_6 ?_
    refine g_icmp_lt cx (tgt := 34) dX9_make_28 rfl (fun c2 => ?_) (fun c2 => ?_)
    · have h := zifp c2 h
      refine g_aload_n cx dX9_make_34 rfl ?_
      refine g_getR cx lk_X9_58 rfl (Nat.le_of_ble_eq_true rfl) rfl dX9_make_35 (v := 19) (pst hP 109 rfl) ?_
      refine g_aload_n cx dX9_make_38 rfl ?_
      refine g_getI cx lk_X9_38 rfl (Nat.le_of_ble_eq_true rfl) rfl dX9_make_39 (x := (I 0 9)) rfl ?_
      obtain ⟨hc3, h⟩ := h
      obtain ⟨v4, hv5, h⟩ := h
      refine g_aald cx rfl (Nat.le_of_ble_eq_true rfl) (Nat.le_of_ble_eq_true rfl) hc3 hv5 dX9_make_42 ?_
      refine g_astore_n cx dX9_make_43 (Nat.le_of_ble_eq_true rfl) (Gx.L [.ref 0, .int (I 0 8), .ref v4, .float 0] rfl ?_)
      refine g_aload_n cx dX9_make_44 rfl ?_
      refine g_aload_n cx dX9_make_45 rfl ?_
      refine g_iload_n cx dX9_make_46 rfl ?_
      refine g_wVi cx [.ref v4, .int (I 0 8)] [] (e_X9_findFault hP h) mt_X9_findFault ml_X9_82 rfl rfl rfl dX9_make_47 rfl rfl (Nat.le_of_ble_eq_true rfl) (Nat.le_of_ble_eq_true rfl) (Nat.le_of_ble_eq_true rfl) (fun v6 I6 P6 hP h => ?_)
      refine g_istore_n cx dX9_make_50 (Nat.le_of_ble_eq_true rfl) (Gx.L [.ref 0, .int (I 0 8), .ref v4, .int v6] rfl ?_)
      refine g_iload_n cx dX9_make_51 rfl ?_
      refine g_if_eq cx (tgt := 60) dX9_make_52 rfl (fun c7 => ?_) (fun c7 => ?_)
      · have h := zifp c7 h
        refine g_aload_n cx dX9_make_60 rfl ?_
        refine g_dup cx dX9_make_61 rfl ?_
        refine g_getI cx lk_X9_38 rfl (Nat.le_of_ble_eq_true rfl) rfl dX9_make_62 (x := (I6 0 9)) rfl ?_
        refine g_iconst cx dX9_make_65 ic_1 ?_
        refine g_iadd cx dX9_make_66 ?_
        refine g_pI cx lk_X9_38 rfl (Nat.le_of_ble_eq_true rfl) rfl dX9_make_67 fi_9_9 rfl rfl ?_
        refine g_aload_n cx dX9_make_70 rfl ?_
        refine g_getI cx lk_X9_38 rfl (Nat.le_of_ble_eq_true rfl) rfl dX9_make_71 (x := ((I6 0 9) + 1)) rfl ?_
        refine g_iconst cx dX9_make_74 ic_1 ?_
        refine g_isub cx dX9_make_75 ?_
        exact g_wi cx hE dX9_make_76 rfl rfl hP h
      · have h := zifn c7 h
        refine g_bipush cx dX9_make_55 bp_m10 ?_
        refine g_iload_n cx dX9_make_57 rfl ?_
        refine g_isub cx dX9_make_58 ?_
        exact g_wi cx hE dX9_make_59 rfl rfl hP h
    · have h := zifn c2 h
      refine g_bipush cx dX9_make_31 bp_m3 ?_
      exact g_wi cx hE dX9_make_33 rfl rfl hP h
def w_X9_mark (x1 : Int32) (x2 : Int32) (I : zI) (P : zP) (K : Int32 → zI → zP → Prop) : Prop := w_X9_isManner x1 I P (fun (v1 : Int32) (I1 : zI) (P1 : zP) => (if v1 = 0 then (K 0 I1 P1) else (vp_in x1 3 ∧ (∃ v4, P1 92 (x1).toNatClampNeg = some v4 ∧ (SHy[v4]? = some (6, 13) ∧ (w_X6_markAt v4 x2 I1 P1 (fun (v7 : Int32) (I7 : zI) (P7 : zP) => (K v7 I7 P7))))))))
theorem e_X9_mark {x1 : Int32} {x2 : Int32} {I : zI} {P : zP} {K : Int32 → zI → zP → Prop} (hP : PSt P) (h : w_X9_mark x1 x2 I P K) : Ev yX9_mark cX9_mark 3 (some .int) 1 21 0 0 [.ref 0, .int x1, .int x2] SHy I P (zKi K) := by
  refine Ev.start [.ref 0, .int x1, .int x2] pn_X9 rfl (Nat.le_of_ble_eq_true rfl) rfl (fun κ cx hE => ?_)
  unfold w_X9_mark at h
  refine g_iload_n cx dX9_mark_0 rfl ?_
  refine g_wSi cx [.int x1] [] (e_X9_isManner hP h) mt_X9_isManner ml_X9_158 dX9_mark_1 rfl rfl (Nat.le_of_ble_eq_true rfl) (Nat.le_of_ble_eq_true rfl) (Nat.le_of_ble_eq_true rfl) (fun v1 I1 P1 hP h => ?_)
  refine g_if_eq cx (tgt := 20) dX9_mark_4 rfl (fun c2 => ?_) (fun c2 => ?_)
  · have h := zifp c2 h
    refine g_iconst cx dX9_mark_20 ic_0 ?_
    exact g_wi cx hE dX9_mark_21 rfl rfl hP h
  · have h := zifn c2 h
    refine g_aload_n cx dX9_mark_7 rfl ?_
    refine g_getR cx lk_X9_62 rfl (Nat.le_of_ble_eq_true rfl) rfl dX9_mark_8 (v := 92) (pst hP 110 rfl) ?_
    refine g_iload_n cx dX9_mark_11 rfl ?_
    obtain ⟨hc3, h⟩ := h
    obtain ⟨v4, hv5, h⟩ := h
    refine g_aald cx rfl (Nat.le_of_ble_eq_true rfl) (Nat.le_of_ble_eq_true rfl) hc3 hv5 dX9_mark_12 ?_
    refine g_iload_n cx dX9_mark_13 rfl ?_
    obtain ⟨hs6, h⟩ := h
    refine g_wVi cx [.int x2] [] (e_X6_markAt hP h) mt_X6_markAt ml_X9_169 hs6 rfl rfl dX9_mark_14 rfl rfl (Nat.le_of_ble_eq_true rfl) (Nat.le_of_ble_eq_true rfl) (Nat.le_of_ble_eq_true rfl) (fun v7 I7 P7 hP h => ?_)
    refine g_goto cx (tgt := 21) dX9_mark_17 rfl ?_
    exact g_wi cx hE dX9_mark_21 rfl rfl hP h
def w_X9_method (x1 : Int32) (x2 : Int32) (I : zI) (P : zP) (K : Int32 → zI → zP → Prop) : Prop := w_X9_isMethod x1 I P (fun (v1 : Int32) (I1 : zI) (P1 : zP) => (if v1 = 0 then (K (-2) I1 P1) else (vp_in x1 6 ∧ (∃ v4, P1 19 (x1).toNatClampNeg = some v4 ∧ (SHy[v4]? = some (3, 11) ∧ (w_X3_tell v4 x2 I1 P1 (fun (v7 : Int32) (I7 : zI) (P7 : zP) => (K v7 I7 P7))))))))
theorem e_X9_method {x1 : Int32} {x2 : Int32} {I : zI} {P : zP} {K : Int32 → zI → zP → Prop} (hP : PSt P) (h : w_X9_method x1 x2 I P K) : Ev yX9_method cX9_method 3 (some .int) 4 85 0 0 [.ref 0, .int x1, .int x2] SHy I P (zKi K) := by
  refine Ev.start [.ref 0, .int x1, .int x2] pn_X9 rfl (Nat.le_of_ble_eq_true rfl) rfl (fun κ cx hE => ?_)
  unfold w_X9_method at h
  refine g_aload_n cx dX9_method_0 rfl ?_
  refine g_iload_n cx dX9_method_1 rfl ?_
  refine g_wVi cx [.int x1] [] (e_X9_isMethod hP h) mt_X9_isMethod ml_X9_86 rfl rfl rfl dX9_method_2 rfl rfl (Nat.le_of_ble_eq_true rfl) (Nat.le_of_ble_eq_true rfl) (Nat.le_of_ble_eq_true rfl) (fun v1 I1 P1 hP h => ?_)
  refine g_if_ne cx (tgt := 11) dX9_method_5 rfl (fun c2 => ?_) (fun c2 => ?_)
  · have h := zifn c2 h
    refine g_aload_n cx dX9_method_11 rfl ?_
    refine g_getR cx lk_X9_58 rfl (Nat.le_of_ble_eq_true rfl) rfl dX9_method_12 (v := 19) (pst hP 109 rfl) ?_
    refine g_iload_n cx dX9_method_15 rfl ?_
    obtain ⟨hc3, h⟩ := h
    obtain ⟨v4, hv5, h⟩ := h
    refine g_aald cx rfl (Nat.le_of_ble_eq_true rfl) (Nat.le_of_ble_eq_true rfl) hc3 hv5 dX9_method_16 ?_
    refine g_iload_n cx dX9_method_17 rfl ?_
    obtain ⟨hs6, h⟩ := h
    refine g_wVi cx [.int x2] [] (e_X3_tell hP h) mt_X3_tell ml_X9_90 hs6 rfl rfl dX9_method_18 rfl rfl (Nat.le_of_ble_eq_true rfl) (Nat.le_of_ble_eq_true rfl) (Nat.le_of_ble_eq_true rfl) (fun v7 I7 P7 hP h => ?_)
    exact g_wi cx hE dX9_method_21 rfl rfl hP h
  · have h := zifp c2 h
    refine g_bipush cx dX9_method_8 bp_m2 ?_
    exact g_wi cx hE dX9_method_10 rfl rfl hP h
def w_X9_moved (x1 : Int32) (x2 : Int32) (I : zI) (P : zP) (K : Int32 → zI → zP → Prop) : Prop := w_X9_isMethod x1 I P (fun (v1 : Int32) (I1 : zI) (P1 : zP) => (if v1 = 0 then (K (-1) I1 P1) else (vp_in x1 6 ∧ (∃ v4, P1 19 (x1).toNatClampNeg = some v4 ∧ (SHy[v4]? = some (3, 11) ∧ (w_X3_beginsAt v4 x2 I1 P1 (fun (v7 : Int32) (I7 : zI) (P7 : zP) => (if v7 = 0 then (K (-1) I7 P7) else (vp_in x1 6 ∧ (∃ v10, P7 19 (x1).toNatClampNeg = some v10 ∧ (SHy[v10]? = some (3, 11) ∧ (∃ v13, P7 v10 6 = some v13 ∧ (SHy[v13]? = some (8, 11) ∧ (if (I7 v13 5) = 0 then (K (-1) I7 P7) else (vp_in x1 6 ∧ (∃ v18, P7 19 (x1).toNatClampNeg = some v18 ∧ (SHy[v18]? = some (3, 11) ∧ (∃ v21, P7 v18 6 = some v21 ∧ (SHy[v21]? = some (8, 11) ∧ (∃ v24, P7 v21 2 = some v24 ∧ (SHy[v24]? = some (11, (zlen v24)) ∧ (vp_in x2 (zlen v24) ∧ (K (I7 v24 ((x2).toNatClampNeg)) I7 P7)))))))))))))))))))))))
theorem e_X9_moved {x1 : Int32} {x2 : Int32} {I : zI} {P : zP} {K : Int32 → zI → zP → Prop} (hP : PSt P) (h : w_X9_moved x1 x2 I P K) : Ev yX9_moved cX9_moved 3 (some .int) 1 21 0 0 [.ref 0, .int x1, .int x2] SHy I P (zKi K) := by
  refine Ev.start [.ref 0, .int x1, .int x2] pn_X9 rfl (Nat.le_of_ble_eq_true rfl) rfl (fun κ cx hE => ?_)
  unfold w_X9_moved at h
  refine g_aload_n cx dX9_moved_0 rfl ?_
  refine g_iload_n cx dX9_moved_1 rfl ?_
  refine g_wVi cx [.int x1] [] (e_X9_isMethod hP h) mt_X9_isMethod ml_X9_86 rfl rfl rfl dX9_moved_2 rfl rfl (Nat.le_of_ble_eq_true rfl) (Nat.le_of_ble_eq_true rfl) (Nat.le_of_ble_eq_true rfl) (fun v1 I1 P1 hP h => ?_)
  refine g_if_eq cx (tgt := 36) dX9_moved_5 rfl (fun c2 => ?_) (fun c2 => ?_)
  · have h := zifp c2 h
    refine g_iconst cx dX9_moved_36 ic_m1 ?_
    exact g_wi cx hE dX9_moved_37 rfl rfl hP h
  · have h := zifn c2 h
    refine g_aload_n cx dX9_moved_8 rfl ?_
    refine g_getR cx lk_X9_58 rfl (Nat.le_of_ble_eq_true rfl) rfl dX9_moved_9 (v := 19) (pst hP 109 rfl) ?_
    refine g_iload_n cx dX9_moved_12 rfl ?_
    obtain ⟨hc3, h⟩ := h
    obtain ⟨v4, hv5, h⟩ := h
    refine g_aald cx rfl (Nat.le_of_ble_eq_true rfl) (Nat.le_of_ble_eq_true rfl) hc3 hv5 dX9_moved_13 ?_
    refine g_iload_n cx dX9_moved_14 rfl ?_
    obtain ⟨hs6, h⟩ := h
    refine g_wVi cx [.int x2] [] (e_X3_beginsAt hP h) mt_X3_beginsAt ml_X9_133 hs6 rfl rfl dX9_moved_15 rfl rfl (Nat.le_of_ble_eq_true rfl) (Nat.le_of_ble_eq_true rfl) (Nat.le_of_ble_eq_true rfl) (fun v7 I7 P7 hP h => ?_)
    refine g_if_eq cx (tgt := 36) dX9_moved_18 rfl (fun c8 => ?_) (fun c8 => ?_)
    · have h := zifp c8 h
      refine g_iconst cx dX9_moved_36 ic_m1 ?_
      exact g_wi cx hE dX9_moved_37 rfl rfl hP h
    · have h := zifn c8 h
      refine g_aload_n cx dX9_moved_21 rfl ?_
      refine g_getR cx lk_X9_58 rfl (Nat.le_of_ble_eq_true rfl) rfl dX9_moved_22 (v := 19) (pst hP 109 rfl) ?_
      refine g_iload_n cx dX9_moved_25 rfl ?_
      obtain ⟨hc9, h⟩ := h
      obtain ⟨v10, hv11, h⟩ := h
      refine g_aald cx rfl (Nat.le_of_ble_eq_true rfl) (Nat.le_of_ble_eq_true rfl) hc9 hv11 dX9_moved_26 ?_
      obtain ⟨hs12, h⟩ := h
      obtain ⟨v13, hv14, h⟩ := h
      refine g_getR cx lk_X9_94 hs12 (Nat.le_of_ble_eq_true rfl) rfl dX9_moved_27 hv14 ?_
      obtain ⟨hs15, h⟩ := h
      refine g_getI cx lk_X9_136 hs15 (Nat.le_of_ble_eq_true rfl) rfl dX9_moved_30 (x := (I7 v13 5)) rfl ?_
      refine g_if_ne cx (tgt := 38) dX9_moved_33 rfl (fun c16 => ?_) (fun c16 => ?_)
      · have h := zifn c16 h
        refine g_aload_n cx dX9_moved_38 rfl ?_
        refine g_getR cx lk_X9_58 rfl (Nat.le_of_ble_eq_true rfl) rfl dX9_moved_39 (v := 19) (pst hP 109 rfl) ?_
        refine g_iload_n cx dX9_moved_42 rfl ?_
        obtain ⟨hc17, h⟩ := h
        obtain ⟨v18, hv19, h⟩ := h
        refine g_aald cx rfl (Nat.le_of_ble_eq_true rfl) (Nat.le_of_ble_eq_true rfl) hc17 hv19 dX9_moved_43 ?_
        obtain ⟨hs20, h⟩ := h
        obtain ⟨v21, hv22, h⟩ := h
        refine g_getR cx lk_X9_94 hs20 (Nat.le_of_ble_eq_true rfl) rfl dX9_moved_44 hv22 ?_
        obtain ⟨hs23, h⟩ := h
        obtain ⟨v24, hv25, h⟩ := h
        refine g_getR cx lk_X9_140 hs23 (Nat.le_of_ble_eq_true rfl) rfl dX9_moved_47 hv25 ?_
        refine g_iload_n cx dX9_moved_50 rfl ?_
        obtain ⟨hs26, h⟩ := h
        obtain ⟨hc27, h⟩ := h
        refine g_iald cx dX9_moved_51 hs26 hc27 (x := (I7 v24 ((x2).toNatClampNeg))) rfl ?_
        exact g_wi cx hE dX9_moved_52 rfl rfl hP h
      · have h := zifp c16 h
        refine g_iconst cx dX9_moved_36 ic_m1 ?_
        exact g_wi cx hE dX9_moved_37 rfl rfl hP h
def w_X9_octet (x1 : Int32) (x2 : Int32) (x3 : Int32) (I : zI) (P : zP) (K : Int32 → zI → zP → Prop) : Prop := w_X9_isMethod x1 I P (fun (v1 : Int32) (I1 : zI) (P1 : zP) => (if v1 = 0 then (K (-1) I1 P1) else (vp_in x1 6 ∧ (∃ v4, P1 19 (x1).toNatClampNeg = some v4 ∧ (if x2 = 0 then (if x3 < 0 then (K (-1) I1 P1) else (SHy[v4]? = some (3, 11) ∧ (if (I1 v4 9) ≤ x3 then (K (-1) I1 P1) else (∃ v10, P1 v4 1 = some v10 ∧ (w_X9_byteAt v10 x3 I1 P1 (fun (v12 : Int32) (I12 : zI) (P12 : zP) => (K v12 I12 P12))))))) else (if x3 < 0 then (K (-1) I1 P1) else (SHy[v4]? = some (3, 11) ∧ (∃ v15, P1 v4 6 = some v15 ∧ (SHy[v15]? = some (8, 11) ∧ (w_X8_lengthIfThere v15 I1 P1 (fun (v18 : Int32) (I18 : zI) (P18 : zP) => (if v18 ≤ x3 then (K (-1) I18 P18) else (∃ v20, P18 v4 6 = some v20 ∧ (SHy[v20]? = some (8, 11) ∧ (∃ v23, P18 v20 0 = some v23 ∧ (w_X9_byteAt v23 x3 I18 P18 (fun (v25 : Int32) (I25 : zI) (P25 : zP) => (K v25 I25 P25))))))))))))))))))
theorem e_X9_octet {x1 : Int32} {x2 : Int32} {x3 : Int32} {I : zI} {P : zP} {K : Int32 → zI → zP → Prop} (hP : PSt P) (h : w_X9_octet x1 x2 x3 I P K) : Ev yX9_octet cX9_octet 5 (some .int) 1 21 0 0 [.ref 0, .int x1, .int x2, .int x3] SHy I P (zKi K) := by
  refine Ev.start [.ref 0, .int x1, .int x2, .int x3, .float 0] pn_X9 rfl (Nat.le_of_ble_eq_true rfl) rfl (fun κ cx hE => ?_)
  unfold w_X9_octet at h
  refine g_aload_n cx dX9_octet_0 rfl ?_
  refine g_iload_n cx dX9_octet_1 rfl ?_
  refine g_wVi cx [.int x1] [] (e_X9_isMethod hP h) mt_X9_isMethod ml_X9_86 rfl rfl rfl dX9_octet_2 rfl rfl (Nat.le_of_ble_eq_true rfl) (Nat.le_of_ble_eq_true rfl) (Nat.le_of_ble_eq_true rfl) (fun v1 I1 P1 hP h => ?_)
  refine g_if_ne cx (tgt := 10) dX9_octet_5 rfl (fun c2 => ?_) (fun c2 => ?_)
  · have h := zifn c2 h
    refine g_aload_n cx dX9_octet_10 rfl ?_
    refine g_getR cx lk_X9_58 rfl (Nat.le_of_ble_eq_true rfl) rfl dX9_octet_11 (v := 19) (pst hP 109 rfl) ?_
    refine g_iload_n cx dX9_octet_14 rfl ?_
    obtain ⟨hc3, h⟩ := h
    obtain ⟨v4, hv5, h⟩ := h
    refine g_aald cx rfl (Nat.le_of_ble_eq_true rfl) (Nat.le_of_ble_eq_true rfl) hc3 hv5 dX9_octet_15 ?_
    refine g_astore cx dX9_octet_16 (Nat.le_of_ble_eq_true rfl) (Gx.L [.ref 0, .int x1, .int x2, .int x3, .ref v4] rfl ?_)
    refine g_iload_n cx dX9_octet_18 rfl ?_
    refine g_if_eq cx (tgt := 55) dX9_octet_19 rfl (fun c6 => ?_) (fun c6 => ?_)
    · have h := zifp c6 h
      refine g_iload_n cx dX9_octet_55 rfl ?_
      refine g_if_lt cx (tgt := 80) dX9_octet_56 rfl (fun c7 => ?_) (fun c7 => ?_)
      · have h := zifp c7 h
        refine g_iconst cx dX9_octet_80 ic_m1 ?_
        exact g_wi cx hE dX9_octet_81 rfl rfl hP h
      · have h := zifn c7 h
        refine g_iload_n cx dX9_octet_59 rfl ?_
        refine g_aload cx dX9_octet_60 rfl ?_
        obtain ⟨hs8, h⟩ := h
        refine g_getI cx lk_X9_111 hs8 (Nat.le_of_ble_eq_true rfl) rfl dX9_octet_62 (x := (I1 v4 9)) rfl ?_
        refine g_icmp_ge cx (tgt := 80) dX9_octet_65 rfl (fun c9 => ?_) (fun c9 => ?_)
        · have h := zifp c9 h
          refine g_iconst cx dX9_octet_80 ic_m1 ?_
          exact g_wi cx hE dX9_octet_81 rfl rfl hP h
        · have h := zifn c9 h
          refine g_aload cx dX9_octet_68 rfl ?_
          obtain ⟨v10, hv11, h⟩ := h
          refine g_getR cx lk_X9_114 hs8 (Nat.le_of_ble_eq_true rfl) rfl dX9_octet_70 hv11 ?_
          refine g_iload_n cx dX9_octet_73 rfl ?_
          refine g_wSi cx [.ref v10, .int x3] [] (e_X9_byteAt hP h) mt_X9_byteAt ml_X9_107 dX9_octet_74 rfl rfl (Nat.le_of_ble_eq_true rfl) (Nat.le_of_ble_eq_true rfl) (Nat.le_of_ble_eq_true rfl) (fun v12 I12 P12 hP h => ?_)
          refine g_goto cx (tgt := 81) dX9_octet_77 rfl ?_
          exact g_wi cx hE dX9_octet_81 rfl rfl hP h
    · have h := zifn c6 h
      refine g_iload_n cx dX9_octet_22 rfl ?_
      refine g_if_lt cx (tgt := 53) dX9_octet_23 rfl (fun c13 => ?_) (fun c13 => ?_)
      · have h := zifp c13 h
        refine g_iconst cx dX9_octet_53 ic_m1 ?_
        exact g_wi cx hE dX9_octet_54 rfl rfl hP h
      · have h := zifn c13 h
        refine g_iload_n cx dX9_octet_26 rfl ?_
        refine g_aload cx dX9_octet_27 rfl ?_
        obtain ⟨hs14, h⟩ := h
        obtain ⟨v15, hv16, h⟩ := h
        refine g_getR cx lk_X9_94 hs14 (Nat.le_of_ble_eq_true rfl) rfl dX9_octet_29 hv16 ?_
        obtain ⟨hs17, h⟩ := h
        refine g_wVi cx [] [.int x3] (e_X8_lengthIfThere hP h) mt_X8_lengthIfThere ml_X9_98 hs17 rfl rfl dX9_octet_32 rfl rfl (Nat.le_of_ble_eq_true rfl) (Nat.le_of_ble_eq_true rfl) (Nat.le_of_ble_eq_true rfl) (fun v18 I18 P18 hP h => ?_)
        refine g_icmp_ge cx (tgt := 53) dX9_octet_35 rfl (fun c19 => ?_) (fun c19 => ?_)
        · have h := zifp c19 h
          refine g_iconst cx dX9_octet_53 ic_m1 ?_
          exact g_wi cx hE dX9_octet_54 rfl rfl hP h
        · have h := zifn c19 h
          refine g_aload cx dX9_octet_38 rfl ?_
          obtain ⟨v20, hv21, h⟩ := h
          refine g_getR cx lk_X9_94 hs14 (Nat.le_of_ble_eq_true rfl) rfl dX9_octet_40 hv21 ?_
          obtain ⟨hs22, h⟩ := h
          obtain ⟨v23, hv24, h⟩ := h
          refine g_getR cx lk_X9_104 hs22 (Nat.le_of_ble_eq_true rfl) rfl dX9_octet_43 hv24 ?_
          refine g_iload_n cx dX9_octet_46 rfl ?_
          refine g_wSi cx [.ref v23, .int x3] [] (e_X9_byteAt hP h) mt_X9_byteAt ml_X9_107 dX9_octet_47 rfl rfl (Nat.le_of_ble_eq_true rfl) (Nat.le_of_ble_eq_true rfl) (Nat.le_of_ble_eq_true rfl) (fun v25 I25 P25 hP h => ?_)
          refine g_goto cx (tgt := 54) dX9_octet_50 rfl ?_
          exact g_wi cx hE dX9_octet_54 rfl rfl hP h
  · have h := zifp c2 h
    refine g_iconst cx dX9_octet_8 ic_m1 ?_
    exact g_wi cx hE dX9_octet_9 rfl rfl hP h
def w_X9_place (I : zI) (P : zP) (K : Int32 → zI → zP → Prop) : Prop := K (I 0 10) I P
theorem e_X9_place {I : zI} {P : zP} {K : Int32 → zI → zP → Prop} (hP : PSt P) (h : w_X9_place I P K) : Ev yX9_place cX9_place 1 (some .int) 0 0 0 0 [.ref 0] SHy I P (zKi K) := by
  refine Ev.start [.ref 0] pn_X9 rfl (Nat.le_of_ble_eq_true rfl) rfl (fun κ cx hE => ?_)
  unfold w_X9_place at h
  refine g_aload_n cx dX9_place_0 rfl ?_
  refine g_getI cx lk_X9_41 rfl (Nat.le_of_ble_eq_true rfl) rfl dX9_place_1 (x := (I 0 10)) rfl ?_
  exact g_wi cx hE dX9_place_4 rfl rfl hP h
def j_X9_probe_61 (K : Int32 → zI → zP → Prop) (y1 : Int32) (y2 : Int32) (y3 : Int32) (y4 : Int32) (y5 : Int32) (I : zI) (P : zP) : Prop := if (I 108 5) < 24 then (w_X4_add y1 y2 y3 y4 y5 I P (fun (v2 : Int32) (I2 : zI) (P2 : zP) => (K v2 I2 P2))) else (K (-3) I P)
theorem gj_X9_probe_61 {κ : zX} (cx : Cx yX9_probe cX9_probe 6 (some .int) 4 84 κ) {K : Int32 → zI → zP → Prop} (hE : zEnd (zKi K) 0 0 κ) {y1 : Int32} {y2 : Int32} {y3 : Int32} {y4 : Int32} {y5 : Int32} {I : zI} {P : zP} (hP : PSt P) (h : j_X9_probe_61 K y1 y2 y3 y4 y5 I P) : Gx κ 61 [.ref 0, .int y1, .int y2, .int y3, .int y4, .int y5] [] SHy I P 0 0 := by
  unfold j_X9_probe_61 at h
  refine g_aload_n cx dX9_probe_61 rfl ?_
  refine g_getR cx lk_X9_66 rfl (Nat.le_of_ble_eq_true rfl) rfl dX9_probe_62 (v := 108) (pst hP 111 rfl) ?_
  refine g_getI cx lk_X9_147 rfl (Nat.le_of_ble_eq_true rfl) rfl dX9_probe_65 (x := (I 108 5)) rfl ?_
  refine g_bipush cx dX9_probe_68 bp_24 ?_
  refine g_icmp_lt cx (tgt := 76) dX9_probe_70 rfl (fun c1 => ?_) (fun c1 => ?_)
  · have h := zifp c1 h
    refine g_aload_n cx dX9_probe_76 rfl ?_
    refine g_getR cx lk_X9_66 rfl (Nat.le_of_ble_eq_true rfl) rfl dX9_probe_77 (v := 108) (pst hP 111 rfl) ?_
    refine g_iload_n cx dX9_probe_80 rfl ?_
    refine g_iload_n cx dX9_probe_81 rfl ?_
    refine g_iload_n cx dX9_probe_82 rfl ?_
    refine g_iload cx dX9_probe_83 rfl ?_
    refine g_iload cx dX9_probe_85 rfl ?_
    refine g_wVi cx [.int y1, .int y2, .int y3, .int y4, .int y5] [] (e_X4_add hP h) mt_X4_add ml_X9_150 rfl rfl rfl dX9_probe_87 rfl rfl (Nat.le_of_ble_eq_true rfl) (Nat.le_of_ble_eq_true rfl) (Nat.le_of_ble_eq_true rfl) (fun v2 I2 P2 hP h => ?_)
    exact g_wi cx hE dX9_probe_90 rfl rfl hP h
  · have h := zifn c1 h
    refine g_bipush cx dX9_probe_73 bp_m3 ?_
    exact g_wi cx hE dX9_probe_75 rfl rfl hP h
def w_X9_probe (x1 : Int32) (x2 : Int32) (x3 : Int32) (x4 : Int32) (x5 : Int32) (I : zI) (P : zP) (K : Int32 → zI → zP → Prop) : Prop := w_X9_isMethod x2 I P (fun (v1 : Int32) (I1 : zI) (P1 : zP) => (if v1 = 0 then (K (-2) I1 P1) else (vp_in x2 6 ∧ (∃ v4, P1 19 (x2).toNatClampNeg = some v4 ∧ (SHy[v4]? = some (3, 11) ∧ (w_X3_takesProbe v4 x1 x3 I1 P1 (fun (v7 : Int32) (I7 : zI) (P7 : zP) => (if v7 = 0 then (K (-2) I7 P7) else (if x1 = 6 then (if x4 < 1 then (K (-2) I7 P7) else (if 1000 < x4 then (K (-2) I7 P7) else (if x5 < 1 then (K (-2) I7 P7) else (if x5 ≤ 100 then (j_X9_probe_61 K x1 x2 x3 x4 x5 I7 P7) else (K (-2) I7 P7))))) else (j_X9_probe_61 K x1 x2 x3 x4 x5 I7 P7))))))))))
theorem e_X9_probe {x1 : Int32} {x2 : Int32} {x3 : Int32} {x4 : Int32} {x5 : Int32} {I : zI} {P : zP} {K : Int32 → zI → zP → Prop} (hP : PSt P) (h : w_X9_probe x1 x2 x3 x4 x5 I P K) : Ev yX9_probe cX9_probe 6 (some .int) 4 84 0 0 [.ref 0, .int x1, .int x2, .int x3, .int x4, .int x5] SHy I P (zKi K) := by
  refine Ev.start [.ref 0, .int x1, .int x2, .int x3, .int x4, .int x5] pn_X9 rfl (Nat.le_of_ble_eq_true rfl) rfl (fun κ cx hE => ?_)
  unfold w_X9_probe at h
  refine g_aload_n cx dX9_probe_0 rfl ?_
  refine g_iload_n cx dX9_probe_1 rfl ?_
  refine g_wVi cx [.int x2] [] (e_X9_isMethod hP h) mt_X9_isMethod ml_X9_86 rfl rfl rfl dX9_probe_2 rfl rfl (Nat.le_of_ble_eq_true rfl) (Nat.le_of_ble_eq_true rfl) (Nat.le_of_ble_eq_true rfl) (fun v1 I1 P1 hP h => ?_)
  refine g_if_eq cx (tgt := 22) dX9_probe_5 rfl (fun c2 => ?_) (fun c2 => ?_)
  · have h := zifp c2 h
    refine g_bipush cx dX9_probe_22 bp_m2 ?_
    exact g_wi cx hE dX9_probe_24 rfl rfl hP h
  · have h := zifn c2 h
    refine g_aload_n cx dX9_probe_8 rfl ?_
    refine g_getR cx lk_X9_58 rfl (Nat.le_of_ble_eq_true rfl) rfl dX9_probe_9 (v := 19) (pst hP 109 rfl) ?_
    refine g_iload_n cx dX9_probe_12 rfl ?_
    obtain ⟨hc3, h⟩ := h
    obtain ⟨v4, hv5, h⟩ := h
    refine g_aald cx rfl (Nat.le_of_ble_eq_true rfl) (Nat.le_of_ble_eq_true rfl) hc3 hv5 dX9_probe_13 ?_
    refine g_iload_n cx dX9_probe_14 rfl ?_
    refine g_iload_n cx dX9_probe_15 rfl ?_
    obtain ⟨hs6, h⟩ := h
    refine g_wVi cx [.int x1, .int x3] [] (e_X3_takesProbe hP h) mt_X3_takesProbe ml_X9_143 hs6 rfl rfl dX9_probe_16 rfl rfl (Nat.le_of_ble_eq_true rfl) (Nat.le_of_ble_eq_true rfl) (Nat.le_of_ble_eq_true rfl) (fun v7 I7 P7 hP h => ?_)
    refine g_if_ne cx (tgt := 25) dX9_probe_19 rfl (fun c8 => ?_) (fun c8 => ?_)
    · have h := zifn c8 h
      refine g_iload_n cx dX9_probe_25 rfl ?_
      refine g_bipush cx dX9_probe_26 bp_6 ?_
      refine g_icmp_ne cx (tgt := 61) dX9_probe_28 rfl (fun c9 => ?_) (fun c9 => ?_)
      · have h := zifn c9 h
        exact gj_X9_probe_61 cx hE hP h
      · have h := zifp c9 h
        refine g_iload cx dX9_probe_31 rfl ?_
        refine g_iconst cx dX9_probe_33 ic_1 ?_
        refine g_icmp_lt cx (tgt := 58) dX9_probe_34 rfl (fun c10 => ?_) (fun c10 => ?_)
        · have h := zifp c10 h
          refine g_bipush cx dX9_probe_58 bp_m2 ?_
          exact g_wi cx hE dX9_probe_60 rfl rfl hP h
        · have h := zifn c10 h
          refine g_iload cx dX9_probe_37 rfl ?_
          refine g_sipush cx dX9_probe_39 sp_1000 ?_
          refine g_icmp_gt cx (tgt := 58) dX9_probe_42 rfl (fun c11 => ?_) (fun c11 => ?_)
          · have h := zifp c11 h
            refine g_bipush cx dX9_probe_58 bp_m2 ?_
            exact g_wi cx hE dX9_probe_60 rfl rfl hP h
          · have h := zifn c11 h
            refine g_iload cx dX9_probe_45 rfl ?_
            refine g_iconst cx dX9_probe_47 ic_1 ?_
            refine g_icmp_lt cx (tgt := 58) dX9_probe_48 rfl (fun c12 => ?_) (fun c12 => ?_)
            · have h := zifp c12 h
              refine g_bipush cx dX9_probe_58 bp_m2 ?_
              exact g_wi cx hE dX9_probe_60 rfl rfl hP h
            · have h := zifn c12 h
              refine g_iload cx dX9_probe_51 rfl ?_
              refine g_bipush cx dX9_probe_53 bp_100 ?_
              refine g_icmp_le cx (tgt := 61) dX9_probe_55 rfl (fun c13 => ?_) (fun c13 => ?_)
              · have h := zifp c13 h
                exact gj_X9_probe_61 cx hE hP h
              · have h := zifn c13 h
                refine g_bipush cx dX9_probe_58 bp_m2 ?_
                exact g_wi cx hE dX9_probe_60 rfl rfl hP h
    · have h := zifp c8 h
      refine g_bipush cx dX9_probe_22 bp_m2 ?_
      exact g_wi cx hE dX9_probe_24 rfl rfl hP h
def w_X9_record (x1 : Int32) (x2 : Int32) (x3 : Int32) (I : zI) (P : zP) (K : Int32 → zI → zP → Prop) : Prop := w_X9_isManner x1 I P (fun (v1 : Int32) (I1 : zI) (P1 : zP) => (if v1 = 0 then (K 0 I1 P1) else (vp_in x1 3 ∧ (∃ v4, P1 92 (x1).toNatClampNeg = some v4 ∧ (SHy[v4]? = some (6, 13) ∧ (w_X6_recordPart v4 x2 x3 I1 P1 (fun (v7 : Int32) (I7 : zI) (P7 : zP) => (K v7 I7 P7))))))))
theorem e_X9_record {x1 : Int32} {x2 : Int32} {x3 : Int32} {I : zI} {P : zP} {K : Int32 → zI → zP → Prop} (hP : PSt P) (h : w_X9_record x1 x2 x3 I P K) : Ev yX9_record cX9_record 4 (some .int) 3 63 0 0 [.ref 0, .int x1, .int x2, .int x3] SHy I P (zKi K) := by
  refine Ev.start [.ref 0, .int x1, .int x2, .int x3] pn_X9 rfl (Nat.le_of_ble_eq_true rfl) rfl (fun κ cx hE => ?_)
  unfold w_X9_record at h
  refine g_iload_n cx dX9_record_0 rfl ?_
  refine g_wSi cx [.int x1] [] (e_X9_isManner hP h) mt_X9_isManner ml_X9_158 dX9_record_1 rfl rfl (Nat.le_of_ble_eq_true rfl) (Nat.le_of_ble_eq_true rfl) (Nat.le_of_ble_eq_true rfl) (fun v1 I1 P1 hP h => ?_)
  refine g_if_eq cx (tgt := 21) dX9_record_4 rfl (fun c2 => ?_) (fun c2 => ?_)
  · have h := zifp c2 h
    refine g_iconst cx dX9_record_21 ic_0 ?_
    exact g_wi cx hE dX9_record_22 rfl rfl hP h
  · have h := zifn c2 h
    refine g_aload_n cx dX9_record_7 rfl ?_
    refine g_getR cx lk_X9_62 rfl (Nat.le_of_ble_eq_true rfl) rfl dX9_record_8 (v := 92) (pst hP 110 rfl) ?_
    refine g_iload_n cx dX9_record_11 rfl ?_
    obtain ⟨hc3, h⟩ := h
    obtain ⟨v4, hv5, h⟩ := h
    refine g_aald cx rfl (Nat.le_of_ble_eq_true rfl) (Nat.le_of_ble_eq_true rfl) hc3 hv5 dX9_record_12 ?_
    refine g_iload_n cx dX9_record_13 rfl ?_
    refine g_iload_n cx dX9_record_14 rfl ?_
    obtain ⟨hs6, h⟩ := h
    refine g_wVi cx [.int x2, .int x3] [] (e_X6_recordPart hP h) mt_X6_recordPart ml_X9_175 hs6 rfl rfl dX9_record_15 rfl rfl (Nat.le_of_ble_eq_true rfl) (Nat.le_of_ble_eq_true rfl) (Nat.le_of_ble_eq_true rfl) (fun v7 I7 P7 hP h => ?_)
    refine g_goto cx (tgt := 22) dX9_record_18 rfl ?_
    exact g_wi cx hE dX9_record_22 rfl rfl hP h
def w_X9_records (x1 : Int32) (x2 : Int32) (I : zI) (P : zP) (K : Int32 → zI → zP → Prop) : Prop := w_X9_isManner x1 I P (fun (v1 : Int32) (I1 : zI) (P1 : zP) => (if v1 = 0 then (K 0 I1 P1) else (vp_in x1 3 ∧ (∃ v4, P1 92 (x1).toNatClampNeg = some v4 ∧ (SHy[v4]? = some (6, 13) ∧ (w_X6_recordsOf v4 x2 I1 P1 (fun (v7 : Int32) (I7 : zI) (P7 : zP) => (K v7 I7 P7))))))))
theorem e_X9_records {x1 : Int32} {x2 : Int32} {I : zI} {P : zP} {K : Int32 → zI → zP → Prop} (hP : PSt P) (h : w_X9_records x1 x2 I P K) : Ev yX9_records cX9_records 3 (some .int) 3 64 0 0 [.ref 0, .int x1, .int x2] SHy I P (zKi K) := by
  refine Ev.start [.ref 0, .int x1, .int x2] pn_X9 rfl (Nat.le_of_ble_eq_true rfl) rfl (fun κ cx hE => ?_)
  unfold w_X9_records at h
  refine g_iload_n cx dX9_records_0 rfl ?_
  refine g_wSi cx [.int x1] [] (e_X9_isManner hP h) mt_X9_isManner ml_X9_158 dX9_records_1 rfl rfl (Nat.le_of_ble_eq_true rfl) (Nat.le_of_ble_eq_true rfl) (Nat.le_of_ble_eq_true rfl) (fun v1 I1 P1 hP h => ?_)
  refine g_if_eq cx (tgt := 20) dX9_records_4 rfl (fun c2 => ?_) (fun c2 => ?_)
  · have h := zifp c2 h
    refine g_iconst cx dX9_records_20 ic_0 ?_
    exact g_wi cx hE dX9_records_21 rfl rfl hP h
  · have h := zifn c2 h
    refine g_aload_n cx dX9_records_7 rfl ?_
    refine g_getR cx lk_X9_62 rfl (Nat.le_of_ble_eq_true rfl) rfl dX9_records_8 (v := 92) (pst hP 110 rfl) ?_
    refine g_iload_n cx dX9_records_11 rfl ?_
    obtain ⟨hc3, h⟩ := h
    obtain ⟨v4, hv5, h⟩ := h
    refine g_aald cx rfl (Nat.le_of_ble_eq_true rfl) (Nat.le_of_ble_eq_true rfl) hc3 hv5 dX9_records_12 ?_
    refine g_iload_n cx dX9_records_13 rfl ?_
    obtain ⟨hs6, h⟩ := h
    refine g_wVi cx [.int x2] [] (e_X6_recordsOf hP h) mt_X6_recordsOf ml_X9_178 hs6 rfl rfl dX9_records_14 rfl rfl (Nat.le_of_ble_eq_true rfl) (Nat.le_of_ble_eq_true rfl) (Nat.le_of_ble_eq_true rfl) (fun v7 I7 P7 hP h => ?_)
    refine g_goto cx (tgt := 21) dX9_records_17 rfl ?_
    exact g_wi cx hE dX9_records_21 rfl rfl hP h
def w_X9_told (x1 : Int32) (x2 : Int32) (I : zI) (P : zP) (K : Int32 → zI → zP → Prop) : Prop := w_X9_isManner x1 I P (fun (v1 : Int32) (I1 : zI) (P1 : zP) => (if v1 = 0 then (K (-2) I1 P1) else (vp_in x1 3 ∧ (∃ v4, P1 92 (x1).toNatClampNeg = some v4 ∧ (SHy[v4]? = some (6, 13) ∧ (w_X6_tell v4 x2 I1 P1 (fun (v7 : Int32) (I7 : zI) (P7 : zP) => (K v7 I7 P7))))))))
theorem e_X9_told {x1 : Int32} {x2 : Int32} {I : zI} {P : zP} {K : Int32 → zI → zP → Prop} (hP : PSt P) (h : w_X9_told x1 x2 I P K) : Ev yX9_told cX9_told 3 (some .int) 1 21 0 0 [.ref 0, .int x1, .int x2] SHy I P (zKi K) := by
  refine Ev.start [.ref 0, .int x1, .int x2] pn_X9 rfl (Nat.le_of_ble_eq_true rfl) rfl (fun κ cx hE => ?_)
  unfold w_X9_told at h
  refine g_iload_n cx dX9_told_0 rfl ?_
  refine g_wSi cx [.int x1] [] (e_X9_isManner hP h) mt_X9_isManner ml_X9_158 dX9_told_1 rfl rfl (Nat.le_of_ble_eq_true rfl) (Nat.le_of_ble_eq_true rfl) (Nat.le_of_ble_eq_true rfl) (fun v1 I1 P1 hP h => ?_)
  refine g_if_eq cx (tgt := 20) dX9_told_4 rfl (fun c2 => ?_) (fun c2 => ?_)
  · have h := zifp c2 h
    refine g_bipush cx dX9_told_20 bp_m2 ?_
    exact g_wi cx hE dX9_told_22 rfl rfl hP h
  · have h := zifn c2 h
    refine g_aload_n cx dX9_told_7 rfl ?_
    refine g_getR cx lk_X9_62 rfl (Nat.le_of_ble_eq_true rfl) rfl dX9_told_8 (v := 92) (pst hP 110 rfl) ?_
    refine g_iload_n cx dX9_told_11 rfl ?_
    obtain ⟨hc3, h⟩ := h
    obtain ⟨v4, hv5, h⟩ := h
    refine g_aald cx rfl (Nat.le_of_ble_eq_true rfl) (Nat.le_of_ble_eq_true rfl) hc3 hv5 dX9_told_12 ?_
    refine g_iload_n cx dX9_told_13 rfl ?_
    obtain ⟨hs6, h⟩ := h
    refine g_wVi cx [.int x2] [] (e_X6_tell hP h) mt_X6_tell ml_X9_168 hs6 rfl rfl dX9_told_14 rfl rfl (Nat.le_of_ble_eq_true rfl) (Nat.le_of_ble_eq_true rfl) (Nat.le_of_ble_eq_true rfl) (fun v7 I7 P7 hP h => ?_)
    refine g_goto cx (tgt := 22) dX9_told_17 rfl ?_
    exact g_wi cx hE dX9_told_22 rfl rfl hP h
def w_X9_type (x1 : Int32) (x2 : Int32) (x3 : Int32) (I : zI) (P : zP) (K : Int32 → zI → zP → Prop) : Prop := w_X9_isMethod x1 I P (fun (v1 : Int32) (I1 : zI) (P1 : zP) => (if v1 = 0 then (K (-1) I1 P1) else (vp_in x1 6 ∧ (∃ v4, P1 19 (x1).toNatClampNeg = some v4 ∧ (SHy[v4]? = some (3, 11) ∧ (w_X3_typeBefore v4 x2 x3 I1 P1 (fun (v7 : Int32) (I7 : zI) (P7 : zP) => (K v7 I7 P7))))))))
theorem e_X9_type {x1 : Int32} {x2 : Int32} {x3 : Int32} {I : zI} {P : zP} {K : Int32 → zI → zP → Prop} (hP : PSt P) (h : w_X9_type x1 x2 x3 I P K) : Ev yX9_type cX9_type 4 (some .int) 3 66 0 0 [.ref 0, .int x1, .int x2, .int x3] SHy I P (zKi K) := by
  refine Ev.start [.ref 0, .int x1, .int x2, .int x3] pn_X9 rfl (Nat.le_of_ble_eq_true rfl) rfl (fun κ cx hE => ?_)
  unfold w_X9_type at h
  refine g_aload_n cx dX9_type_0 rfl ?_
  refine g_iload_n cx dX9_type_1 rfl ?_
  refine g_wVi cx [.int x1] [] (e_X9_isMethod hP h) mt_X9_isMethod ml_X9_86 rfl rfl rfl dX9_type_2 rfl rfl (Nat.le_of_ble_eq_true rfl) (Nat.le_of_ble_eq_true rfl) (Nat.le_of_ble_eq_true rfl) (fun v1 I1 P1 hP h => ?_)
  refine g_if_eq cx (tgt := 22) dX9_type_5 rfl (fun c2 => ?_) (fun c2 => ?_)
  · have h := zifp c2 h
    refine g_iconst cx dX9_type_22 ic_m1 ?_
    exact g_wi cx hE dX9_type_23 rfl rfl hP h
  · have h := zifn c2 h
    refine g_aload_n cx dX9_type_8 rfl ?_
    refine g_getR cx lk_X9_58 rfl (Nat.le_of_ble_eq_true rfl) rfl dX9_type_9 (v := 19) (pst hP 109 rfl) ?_
    refine g_iload_n cx dX9_type_12 rfl ?_
    obtain ⟨hc3, h⟩ := h
    obtain ⟨v4, hv5, h⟩ := h
    refine g_aald cx rfl (Nat.le_of_ble_eq_true rfl) (Nat.le_of_ble_eq_true rfl) hc3 hv5 dX9_type_13 ?_
    refine g_iload_n cx dX9_type_14 rfl ?_
    refine g_iload_n cx dX9_type_15 rfl ?_
    obtain ⟨hs6, h⟩ := h
    refine g_wVi cx [.int x2, .int x3] [] (e_X3_typeBefore hP h) mt_X3_typeBefore ml_X9_129 hs6 rfl rfl dX9_type_16 rfl rfl (Nat.le_of_ble_eq_true rfl) (Nat.le_of_ble_eq_true rfl) (Nat.le_of_ble_eq_true rfl) (fun v7 I7 P7 hP h => ?_)
    refine g_goto cx (tgt := 23) dX9_type_19 rfl ?_
    exact g_wi cx hE dX9_type_23 rfl rfl hP h
def w_X9_unweave (x1 : Int32) (I : zI) (P : zP) (K : Int32 → zI → zP → Prop) : Prop := w_X9_isMethod x1 I P (fun (v1 : Int32) (I1 : zI) (P1 : zP) => (if v1 = 0 then (K (-2) I1 P1) else (vp_in x1 6 ∧ (∃ v4, P1 19 (x1).toNatClampNeg = some v4 ∧ (SHy[v4]? = some (3, 11) ∧ (∃ v7, P1 v4 6 = some v7 ∧ (SHy[v7]? = some (8, 11) ∧ (vp_in x1 6 ∧ (∃ v11, P1 19 (x1).toNatClampNeg = some v11 ∧ (SHy[v11]? = some (3, 11) ∧ (∃ v14, P1 v11 6 = some v14 ∧ (SHy[v14]? = some (8, 11) ∧ (if (I1 v7 5) = 0 then (K 0 (zu I1 v14 5 0) P1) else (K 1 (zu I1 v14 5 0) P1))))))))))))))
theorem e_X9_unweave {x1 : Int32} {I : zI} {P : zP} {K : Int32 → zI → zP → Prop} (hP : PSt P) (h : w_X9_unweave x1 I P K) : Ev yX9_unweave cX9_unweave 3 (some .int) 1 21 0 0 [.ref 0, .int x1] SHy I P (zKi K) := by
  refine Ev.start [.ref 0, .int x1, .float 0] pn_X9 rfl (Nat.le_of_ble_eq_true rfl) rfl (fun κ cx hE => ?_)
  unfold w_X9_unweave at h
  refine g_aload_n cx dX9_unweave_0 rfl ?_
  refine g_iload_n cx dX9_unweave_1 rfl ?_
  refine g_wVi cx [.int x1] [] (e_X9_isMethod hP h) mt_X9_isMethod ml_X9_86 rfl rfl rfl dX9_unweave_2 rfl rfl (Nat.le_of_ble_eq_true rfl) (Nat.le_of_ble_eq_true rfl) (Nat.le_of_ble_eq_true rfl) (fun v1 I1 P1 hP h => ?_)
  refine g_if_ne cx (tgt := 11) dX9_unweave_5 rfl (fun c2 => ?_) (fun c2 => ?_)
  · have h := zifn c2 h
    refine g_aload_n cx dX9_unweave_11 rfl ?_
    refine g_getR cx lk_X9_58 rfl (Nat.le_of_ble_eq_true rfl) rfl dX9_unweave_12 (v := 19) (pst hP 109 rfl) ?_
    refine g_iload_n cx dX9_unweave_15 rfl ?_
    obtain ⟨hc3, h⟩ := h
    obtain ⟨v4, hv5, h⟩ := h
    refine g_aald cx rfl (Nat.le_of_ble_eq_true rfl) (Nat.le_of_ble_eq_true rfl) hc3 hv5 dX9_unweave_16 ?_
    obtain ⟨hs6, h⟩ := h
    obtain ⟨v7, hv8, h⟩ := h
    refine g_getR cx lk_X9_94 hs6 (Nat.le_of_ble_eq_true rfl) rfl dX9_unweave_17 hv8 ?_
    obtain ⟨hs9, h⟩ := h
    refine g_getI cx lk_X9_136 hs9 (Nat.le_of_ble_eq_true rfl) rfl dX9_unweave_20 (x := (I1 v7 5)) rfl ?_
    refine g_istore_n cx dX9_unweave_23 (Nat.le_of_ble_eq_true rfl) (Gx.L [.ref 0, .int x1, .int (I1 v7 5)] rfl ?_)
    refine g_aload_n cx dX9_unweave_24 rfl ?_
    refine g_getR cx lk_X9_58 rfl (Nat.le_of_ble_eq_true rfl) rfl dX9_unweave_25 (v := 19) (pst hP 109 rfl) ?_
    refine g_iload_n cx dX9_unweave_28 rfl ?_
    obtain ⟨hc10, h⟩ := h
    obtain ⟨v11, hv12, h⟩ := h
    refine g_aald cx rfl (Nat.le_of_ble_eq_true rfl) (Nat.le_of_ble_eq_true rfl) hc10 hv12 dX9_unweave_29 ?_
    obtain ⟨hs13, h⟩ := h
    obtain ⟨v14, hv15, h⟩ := h
    refine g_getR cx lk_X9_94 hs13 (Nat.le_of_ble_eq_true rfl) rfl dX9_unweave_30 hv15 ?_
    refine g_iconst cx dX9_unweave_33 ic_0 ?_
    obtain ⟨hs16, h⟩ := h
    refine g_pI cx lk_X9_136 hs16 (Nat.le_of_ble_eq_true rfl) rfl dX9_unweave_34 fi_8_5 rfl rfl ?_
    refine g_iload_n cx dX9_unweave_37 rfl ?_
    refine g_if_eq cx (tgt := 45) dX9_unweave_38 rfl (fun c17 => ?_) (fun c17 => ?_)
    · have h := zifp c17 h
      refine g_iconst cx dX9_unweave_45 ic_0 ?_
      exact g_wi cx hE dX9_unweave_46 rfl rfl hP h
    · have h := zifn c17 h
      refine g_iconst cx dX9_unweave_41 ic_1 ?_
      refine g_goto cx (tgt := 46) dX9_unweave_42 rfl ?_
      exact g_wi cx hE dX9_unweave_46 rfl rfl hP h
  · have h := zifp c2 h
    refine g_bipush cx dX9_unweave_8 bp_m2 ?_
    exact g_wi cx hE dX9_unweave_10 rfl rfl hP h
def w_X9_weave (x1 : Int32) (I : zI) (P : zP) (K : Int32 → zI → zP → Prop) : Prop := w_X9_isMethod x1 I P (fun (v1 : Int32) (I1 : zI) (P1 : zP) => (if v1 = 0 then (K (-2) I1 P1) else (vp_in x1 6 ∧ (∃ v4, P1 19 (x1).toNatClampNeg = some v4 ∧ (w_X7_weaveIn v4 I1 P1 (fun (v6 : Int32) (I6 : zI) (P6 : zP) => (K v6 I6 P6)))))))
theorem e_X9_weave {x1 : Int32} {I : zI} {P : zP} {K : Int32 → zI → zP → Prop} (hP : PSt P) (h : w_X9_weave x1 I P K) : Ev yX9_weave cX9_weave 2 (some .int) 6 145 0 0 [.ref 0, .int x1] SHy I P (zKi K) := by
  refine Ev.start [.ref 0, .int x1] pn_X9 rfl (Nat.le_of_ble_eq_true rfl) rfl (fun κ cx hE => ?_)
  unfold w_X9_weave at h
  refine g_aload_n cx dX9_weave_0 rfl ?_
  refine g_iload_n cx dX9_weave_1 rfl ?_
  refine g_wVi cx [.int x1] [] (e_X9_isMethod hP h) mt_X9_isMethod ml_X9_86 rfl rfl rfl dX9_weave_2 rfl rfl (Nat.le_of_ble_eq_true rfl) (Nat.le_of_ble_eq_true rfl) (Nat.le_of_ble_eq_true rfl) (fun v1 I1 P1 hP h => ?_)
  refine g_if_ne cx (tgt := 11) dX9_weave_5 rfl (fun c2 => ?_) (fun c2 => ?_)
  · have h := zifn c2 h
    refine g_aload_n cx dX9_weave_11 rfl ?_
    refine g_getR cx lk_X9_30 rfl (Nat.le_of_ble_eq_true rfl) rfl dX9_weave_12 (v := 7) (pst hP 16 rfl) ?_
    refine g_aload_n cx dX9_weave_15 rfl ?_
    refine g_getR cx lk_X9_58 rfl (Nat.le_of_ble_eq_true rfl) rfl dX9_weave_16 (v := 19) (pst hP 109 rfl) ?_
    refine g_iload_n cx dX9_weave_19 rfl ?_
    obtain ⟨hc3, h⟩ := h
    obtain ⟨v4, hv5, h⟩ := h
    refine g_aald cx rfl (Nat.le_of_ble_eq_true rfl) (Nat.le_of_ble_eq_true rfl) hc3 hv5 dX9_weave_20 ?_
    refine g_aload_n cx dX9_weave_21 rfl ?_
    refine g_getR cx lk_X9_66 rfl (Nat.le_of_ble_eq_true rfl) rfl dX9_weave_22 (v := 108) (pst hP 111 rfl) ?_
    refine g_wVi cx [.ref v4, .ref 108] [] (e_X7_weaveIn hP h) mt_X7_weaveIn ml_X9_154 rfl rfl rfl dX9_weave_25 rfl rfl (Nat.le_of_ble_eq_true rfl) (Nat.le_of_ble_eq_true rfl) (Nat.le_of_ble_eq_true rfl) (fun v6 I6 P6 hP h => ?_)
    exact g_wi cx hE dX9_weave_28 rfl rfl hP h
  · have h := zifp c2 h
    refine g_bipush cx dX9_weave_8 bp_m2 ?_
    exact g_wi cx hE dX9_weave_10 rfl rfl hP h
