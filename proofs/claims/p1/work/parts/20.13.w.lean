def j_X5_tableFault_56 (K : Int32 → zI → zP → Prop) (y3 : Int32) (I : zI) (P : zP) : Prop := K (y3 + 1) I P
theorem gj_X5_tableFault_56 {κ : zX} (cx : Cx yX5_tableFault cX5_tableFault 5 (some .int) 1 21 κ) {K : Int32 → zI → zP → Prop} (hE : zEnd (zKi K) 0 0 κ) {y3 : Int32} {I : zI} {P : zP} (hP : PSt P) (h : j_X5_tableFault_56 K y3 I P) : Gx κ 56 [.float 0, .float 0, .float 0, .int y3, .float 0] [] SHy I P 0 0 := by
  unfold j_X5_tableFault_56 at h
  refine g_iload_n cx dX5_tableFault_56 rfl ?_
  refine g_iconst cx dX5_tableFault_57 ic_1 ?_
  refine g_iadd cx dX5_tableFault_58 ?_
  exact g_wi cx hE dX5_tableFault_59 rfl rfl hP h
def w_X5_tableFault (x1 : Nat) (x2 : Int32) (I : zI) (P : zP) (K : Int32 → zI → zP → Prop) : Prop := SHy[x1]? = some (3, 11) ∧ (if (x2 + 1) < (I x1 9) then (if ((4 + x2) + 1) < (I 2 1) then (∃ v4, P 2 0 = some v4 ∧ (w_X9_byteAt v4 ((4 + x2) + 1) I P (fun (v6 : Int32) (I6 : zI) (P6 : zP) => (if v6 < 1 then (j_X5_tableFault_56 K (4 + x2) I6 P6) else (if v6 ≤ 16 then (w_X9_tableSize v6 I6 P6 (fun (v9 : Int32) (I9 : zI) (P9 : zP) => (if (x2 + v9) ≤ (I9 x1 9) then (w_X9_tableSize v6 I9 P9 (fun (v11 : Int32) (I11 : zI) (P11 : zP) => (if ((4 + x2) + v11) ≤ (I11 2 1) then (K (-1) I11 P11) else (K (I11 2 1) I11 P11)))) else (K (4 + x2) I9 P9)))) else (j_X5_tableFault_56 K (4 + x2) I6 P6)))))) else (K (I 2 1) I P)) else (K (4 + x2) I P))
theorem e_X5_tableFault {x1 : Nat} {x2 : Int32} {I : zI} {P : zP} {K : Int32 → zI → zP → Prop} (hP : PSt P) (h : w_X5_tableFault x1 x2 I P K) : Ev yX5_tableFault cX5_tableFault 5 (some .int) 1 21 0 0 [.ref 2, .ref x1, .int x2] SHy I P (zKi K) := by
  refine Ev.start [.ref 2, .ref x1, .int x2, .float 0, .float 0] pn_X5 rfl (Nat.le_of_ble_eq_true rfl) rfl (fun κ cx hE => ?_)
  unfold w_X5_tableFault at h
  refine g_iconst cx dX5_tableFault_0 ic_4 ?_
  refine g_iload_n cx dX5_tableFault_1 rfl ?_
  refine g_iadd cx dX5_tableFault_2 ?_
  refine g_istore_n cx dX5_tableFault_3 (Nat.le_of_ble_eq_true rfl) (Gx.L [.ref 2, .ref x1, .int x2, .int (4 + x2), .float 0] rfl ?_)
  refine g_iload_n cx dX5_tableFault_4 rfl ?_
  refine g_iconst cx dX5_tableFault_5 ic_1 ?_
  refine g_iadd cx dX5_tableFault_6 ?_
  refine g_aload_n cx dX5_tableFault_7 rfl ?_
  obtain ⟨hs1, h⟩ := h
  refine g_getI cx lk_X5_47 hs1 (Nat.le_of_ble_eq_true rfl) rfl dX5_tableFault_8 (x := (I x1 9)) rfl ?_
  refine g_icmp_lt cx (tgt := 16) dX5_tableFault_11 rfl (fun c2 => ?_) (fun c2 => ?_)
  · have h := zifp c2 h
    refine g_iload_n cx dX5_tableFault_16 rfl ?_
    refine g_iconst cx dX5_tableFault_17 ic_1 ?_
    refine g_iadd cx dX5_tableFault_18 ?_
    refine g_aload_n cx dX5_tableFault_19 rfl ?_
    refine g_getI cx lk_X5_15 rfl (Nat.le_of_ble_eq_true rfl) rfl dX5_tableFault_20 (x := (I 2 1)) rfl ?_
    refine g_icmp_lt cx (tgt := 31) dX5_tableFault_23 rfl (fun c3 => ?_) (fun c3 => ?_)
    · have h := zifp c3 h
      refine g_aload_n cx dX5_tableFault_31 rfl ?_
      obtain ⟨v4, hv5, h⟩ := h
      refine g_getR cx lk_X5_9 rfl (Nat.le_of_ble_eq_true rfl) rfl dX5_tableFault_32 hv5 ?_
      refine g_iload_n cx dX5_tableFault_35 rfl ?_
      refine g_iconst cx dX5_tableFault_36 ic_1 ?_
      refine g_iadd cx dX5_tableFault_37 ?_
      refine g_wSi cx [.ref v4, .int ((4 + x2) + 1)] [] (e_X9_byteAt hP h) mt_X9_byteAt ml_X5_35 dX5_tableFault_38 rfl rfl (Nat.le_of_ble_eq_true rfl) (Nat.le_of_ble_eq_true rfl) (Nat.le_of_ble_eq_true rfl) (fun v6 I6 P6 hP h => ?_)
      refine g_istore cx dX5_tableFault_41 (Nat.le_of_ble_eq_true rfl) (Gx.L [.ref 2, .ref x1, .int x2, .int (4 + x2), .int v6] rfl ?_)
      refine g_iload cx dX5_tableFault_43 rfl ?_
      refine g_iconst cx dX5_tableFault_45 ic_1 ?_
      refine g_icmp_lt cx (tgt := 56) dX5_tableFault_46 rfl (fun c7 => ?_) (fun c7 => ?_)
      · have h := zifp c7 h
        refine (Gx.unset 0 (Gx.unset 1 (Gx.unset 2 (Gx.unset 4 (Gx.L [.float 0, .float 0, .float 0, .int (4 + x2), .float 0] rfl ?_)))))
        exact gj_X5_tableFault_56 cx hE hP h
      · have h := zifn c7 h
        refine g_iload cx dX5_tableFault_49 rfl ?_
        refine g_bipush cx dX5_tableFault_51 bp_16 ?_
        refine g_icmp_le cx (tgt := 60) dX5_tableFault_53 rfl (fun c8 => ?_) (fun c8 => ?_)
        · have h := zifp c8 h
          refine g_iload_n cx dX5_tableFault_60 rfl ?_
          refine g_iload cx dX5_tableFault_61 rfl ?_
          refine g_wSi cx [.int v6] [.int x2] (e_X9_tableSize hP h) mt_X9_tableSize ml_X5_84 dX5_tableFault_63 rfl rfl (Nat.le_of_ble_eq_true rfl) (Nat.le_of_ble_eq_true rfl) (Nat.le_of_ble_eq_true rfl) (fun v9 I9 P9 hP h => ?_)
          refine g_iadd cx dX5_tableFault_66 ?_
          refine g_aload_n cx dX5_tableFault_67 rfl ?_
          refine g_getI cx lk_X5_47 hs1 (Nat.le_of_ble_eq_true rfl) rfl dX5_tableFault_68 (x := (I9 x1 9)) rfl ?_
          refine g_icmp_le cx (tgt := 76) dX5_tableFault_71 rfl (fun c10 => ?_) (fun c10 => ?_)
          · have h := zifp c10 h
            refine g_iload_n cx dX5_tableFault_76 rfl ?_
            refine g_iload cx dX5_tableFault_77 rfl ?_
            refine g_wSi cx [.int v6] [.int (4 + x2)] (e_X9_tableSize hP h) mt_X9_tableSize ml_X5_84 dX5_tableFault_79 rfl rfl (Nat.le_of_ble_eq_true rfl) (Nat.le_of_ble_eq_true rfl) (Nat.le_of_ble_eq_true rfl) (fun v11 I11 P11 hP h => ?_)
            refine g_iadd cx dX5_tableFault_82 ?_
            refine g_aload_n cx dX5_tableFault_83 rfl ?_
            refine g_getI cx lk_X5_15 rfl (Nat.le_of_ble_eq_true rfl) rfl dX5_tableFault_84 (x := (I11 2 1)) rfl ?_
            refine g_icmp_le cx (tgt := 97) dX5_tableFault_87 rfl (fun c12 => ?_) (fun c12 => ?_)
            · have h := zifp c12 h
              refine g_iconst cx dX5_tableFault_97 ic_m1 ?_
              exact g_wi cx hE dX5_tableFault_98 rfl rfl hP h
            · have h := zifn c12 h
              refine g_aload_n cx dX5_tableFault_90 rfl ?_
              refine g_getI cx lk_X5_15 rfl (Nat.le_of_ble_eq_true rfl) rfl dX5_tableFault_91 (x := (I11 2 1)) rfl ?_
              refine g_goto cx (tgt := 98) dX5_tableFault_94 rfl ?_
              exact g_wi cx hE dX5_tableFault_98 rfl rfl hP h
          · have h := zifn c10 h
            refine g_iload_n cx dX5_tableFault_74 rfl ?_
            exact g_wi cx hE dX5_tableFault_75 rfl rfl hP h
        · have h := zifn c8 h
          refine (Gx.unset 0 (Gx.unset 1 (Gx.unset 2 (Gx.unset 4 (Gx.L [.float 0, .float 0, .float 0, .int (4 + x2), .float 0] rfl ?_)))))
          exact gj_X5_tableFault_56 cx hE hP h
    · have h := zifn c3 h
      refine g_aload_n cx dX5_tableFault_26 rfl ?_
      refine g_getI cx lk_X5_15 rfl (Nat.le_of_ble_eq_true rfl) rfl dX5_tableFault_27 (x := (I 2 1)) rfl ?_
      exact g_wi cx hE dX5_tableFault_30 rfl rfl hP h
  · have h := zifn c2 h
    refine g_iload_n cx dX5_tableFault_14 rfl ?_
    exact g_wi cx hE dX5_tableFault_15 rfl rfl hP h
def j_X9_isOp_12 (K : Int32 → zI → zP → Prop) (y0 : Int32) (I : zI) (P : zP) : Prop := w_X9_isLongJump y0 I P (fun (v1 : Int32) (I1 : zI) (P1 : zP) => (if v1 = 0 then (K 0 I1 P1) else (K 1 I1 P1)))
theorem gj_X9_isOp_12 {κ : zX} (cx : Cx yX9_isOp cX9_isOp 1 (some .boolean) 1 20 κ) {K : Int32 → zI → zP → Prop} (hE : zEnd (zKi K) 0 0 κ) {y0 : Int32} {I : zI} {P : zP} (hP : PSt P) (h : j_X9_isOp_12 K y0 I P) : Gx κ 12 [.int y0] [] SHy I P 0 0 := by
  unfold j_X9_isOp_12 at h
  refine g_iload_n cx dX9_isOp_12 rfl ?_
  refine g_wSi cx [.int y0] [] (e_X9_isLongJump hP h) mt_X9_isLongJump ml_X9_207 dX9_isOp_13 rfl rfl (Nat.le_of_ble_eq_true rfl) (Nat.le_of_ble_eq_true rfl) (Nat.le_of_ble_eq_true rfl) (fun v1 I1 P1 hP h => ?_)
  refine g_if_eq cx (tgt := 23) dX9_isOp_16 rfl (fun c2 => ?_) (fun c2 => ?_)
  · have h := zifp c2 h
    refine g_iconst cx dX9_isOp_23 ic_0 ?_
    exact g_wi cx hE dX9_isOp_24 rfl rfl hP h
  · have h := zifn c2 h
    refine g_iconst cx dX9_isOp_19 ic_1 ?_
    refine g_goto cx (tgt := 24) dX9_isOp_20 rfl ?_
    exact g_wi cx hE dX9_isOp_24 rfl rfl hP h
def w_X9_isOp (x1 : Int32) (I : zI) (P : zP) (K : Int32 → zI → zP → Prop) : Prop := if x1 < 0 then (j_X9_isOp_12 K x1 I P) else (if x1 < 44 then (K 1 I P) else (j_X9_isOp_12 K x1 I P))
theorem e_X9_isOp {x1 : Int32} {I : zI} {P : zP} {K : Int32 → zI → zP → Prop} (hP : PSt P) (h : w_X9_isOp x1 I P K) : Ev yX9_isOp cX9_isOp 1 (some .boolean) 1 20 0 0 [.int x1] SHy I P (zKi K) := by
  refine Ev.start [.int x1] pn_X9 rfl (Nat.le_of_ble_eq_true rfl) rfl (fun κ cx hE => ?_)
  unfold w_X9_isOp at h
  refine g_iload_n cx dX9_isOp_0 rfl ?_
  refine g_if_lt cx (tgt := 12) dX9_isOp_1 rfl (fun c1 => ?_) (fun c1 => ?_)
  · have h := zifp c1 h
    exact gj_X9_isOp_12 cx hE hP h
  · have h := zifn c1 h
    refine g_iload_n cx dX9_isOp_4 rfl ?_
    refine g_gets cx (i := 0) rfl sk_X9_213 dX9_isOp_5 ?_
    refine g_tlen cx (i := 0) rfl dX9_isOp_8 (Gx.top 44 rfl ?_)
    refine g_icmp_lt cx (tgt := 19) dX9_isOp_9 rfl (fun c2 => ?_) (fun c2 => ?_)
    · have h := zifp c2 h
      refine g_iconst cx dX9_isOp_19 ic_1 ?_
      refine g_goto cx (tgt := 24) dX9_isOp_20 rfl ?_
      exact g_wi cx hE dX9_isOp_24 rfl rfl hP h
    · have h := zifn c2 h
      exact gj_X9_isOp_12 cx hE hP h
def j_X5_instructionFault_110 (K : Int32 → zI → zP → Prop) (y3 : Int32) (y5 : Int32) (I : zI) (P : zP) : Prop := if (y3 + y5) ≤ (I 2 1) then (K (-1) I P) else (K (I 2 1) I P)
theorem gj_X5_instructionFault_110 {κ : zX} (cx : Cx yX5_instructionFault cX5_instructionFault 6 (some .int) 2 45 κ) {K : Int32 → zI → zP → Prop} (hE : zEnd (zKi K) 0 0 κ) {y3 : Int32} {y5 : Int32} {I : zI} {P : zP} (hP : PSt P) (h : j_X5_instructionFault_110 K y3 y5 I P) : Gx κ 110 [.ref 2, .float 0, .float 0, .int y3, .float 0, .int y5] [] SHy I P 0 0 := by
  unfold j_X5_instructionFault_110 at h
  refine g_iload_n cx dX5_instructionFault_110 rfl ?_
  refine g_iload cx dX5_instructionFault_111 rfl ?_
  refine g_iadd cx dX5_instructionFault_113 ?_
  refine g_aload_n cx dX5_instructionFault_114 rfl ?_
  refine g_getI cx lk_X5_15 rfl (Nat.le_of_ble_eq_true rfl) rfl dX5_instructionFault_115 (x := (I 2 1)) rfl ?_
  refine g_icmp_le cx (tgt := 128) dX5_instructionFault_118 rfl (fun c1 => ?_) (fun c1 => ?_)
  · have h := zifp c1 h
    refine g_iconst cx dX5_instructionFault_128 ic_m1 ?_
    exact g_wi cx hE dX5_instructionFault_129 rfl rfl hP h
  · have h := zifn c1 h
    refine g_aload_n cx dX5_instructionFault_121 rfl ?_
    refine g_getI cx lk_X5_15 rfl (Nat.le_of_ble_eq_true rfl) rfl dX5_instructionFault_122 (x := (I 2 1)) rfl ?_
    refine g_goto cx (tgt := 129) dX5_instructionFault_125 rfl ?_
    exact g_wi cx hE dX5_instructionFault_129 rfl rfl hP h
def w_X5_instructionFault (x1 : Nat) (x2 : Int32) (I : zI) (P : zP) (K : Int32 → zI → zP → Prop) : Prop := if (4 + x2) < (I 2 1) then (∃ v2, P 2 0 = some v2 ∧ (w_X9_byteAt v2 (4 + x2) I P (fun (v4 : Int32) (I4 : zI) (P4 : zP) => (w_X9_isOp v4 I4 P4 (fun (v5 : Int32) (I5 : zI) (P5 : zP) => (if v5 = 0 then (K (4 + x2) I5 P5) else (if v4 = 33 then (w_X5_tableFault x1 x2 I5 P5 (fun (v18 : Int32) (I18 : zI) (P18 : zP) => (K v18 I18 P18))) else (w_X9_fixedSize v4 I5 P5 (fun (v8 : Int32) (I8 : zI) (P8 : zP) => (SHy[x1]? = some (3, 11) ∧ (if (x2 + v8) ≤ (I8 x1 9) then (if v8 ≤ 1 then (j_X5_instructionFault_110 K (4 + x2) v8 I8 P8) else (if (I8 2 1) ≤ ((4 + x2) + 1) then (j_X5_instructionFault_110 K (4 + x2) v8 I8 P8) else (∃ v13, P8 2 0 = some v13 ∧ (w_X9_byteAt v13 ((4 + x2) + 1) I8 P8 (fun (v15 : Int32) (I15 : zI) (P15 : zP) => (w_X5_operandFits x1 v4 v15 I15 P15 (fun (v16 : Int32) (I16 : zI) (P16 : zP) => (if v16 = 0 then (K ((4 + x2) + 1) I16 P16) else (j_X5_instructionFault_110 K (4 + x2) v8 I16 P16))))))))) else (K (4 + x2) I8 P8)))))))))))) else (K (I 2 1) I P)
theorem e_X5_instructionFault {x1 : Nat} {x2 : Int32} {I : zI} {P : zP} {K : Int32 → zI → zP → Prop} (hP : PSt P) (h : w_X5_instructionFault x1 x2 I P K) : Ev yX5_instructionFault cX5_instructionFault 6 (some .int) 2 45 0 0 [.ref 2, .ref x1, .int x2] SHy I P (zKi K) := by
  refine Ev.start [.ref 2, .ref x1, .int x2, .float 0, .float 0, .float 0] pn_X5 rfl (Nat.le_of_ble_eq_true rfl) rfl (fun κ cx hE => ?_)
  unfold w_X5_instructionFault at h
  refine g_iconst cx dX5_instructionFault_0 ic_4 ?_
  refine g_iload_n cx dX5_instructionFault_1 rfl ?_
  refine g_iadd cx dX5_instructionFault_2 ?_
  refine g_istore_n cx dX5_instructionFault_3 (Nat.le_of_ble_eq_true rfl) (Gx.L [.ref 2, .ref x1, .int x2, .int (4 + x2), .float 0, .float 0] rfl ?_)
  refine g_iload_n cx dX5_instructionFault_4 rfl ?_
  refine g_aload_n cx dX5_instructionFault_5 rfl ?_
  refine g_getI cx lk_X5_15 rfl (Nat.le_of_ble_eq_true rfl) rfl dX5_instructionFault_6 (x := (I 2 1)) rfl ?_
  refine g_icmp_lt cx (tgt := 17) dX5_instructionFault_9 rfl (fun c1 => ?_) (fun c1 => ?_)
  · have h := zifp c1 h
    refine g_aload_n cx dX5_instructionFault_17 rfl ?_
    obtain ⟨v2, hv3, h⟩ := h
    refine g_getR cx lk_X5_9 rfl (Nat.le_of_ble_eq_true rfl) rfl dX5_instructionFault_18 hv3 ?_
    refine g_iload_n cx dX5_instructionFault_21 rfl ?_
    refine g_wSi cx [.ref v2, .int (4 + x2)] [] (e_X9_byteAt hP h) mt_X9_byteAt ml_X5_35 dX5_instructionFault_22 rfl rfl (Nat.le_of_ble_eq_true rfl) (Nat.le_of_ble_eq_true rfl) (Nat.le_of_ble_eq_true rfl) (fun v4 I4 P4 hP h => ?_)
    refine g_istore cx dX5_instructionFault_25 (Nat.le_of_ble_eq_true rfl) (Gx.L [.ref 2, .ref x1, .int x2, .int (4 + x2), .int v4, .float 0] rfl ?_)
    refine g_iload cx dX5_instructionFault_27 rfl ?_
    refine g_wSi cx [.int v4] [] (e_X9_isOp hP h) mt_X9_isOp ml_X5_69 dX5_instructionFault_29 rfl rfl (Nat.le_of_ble_eq_true rfl) (Nat.le_of_ble_eq_true rfl) (Nat.le_of_ble_eq_true rfl) (fun v5 I5 P5 hP h => ?_)
    refine g_if_ne cx (tgt := 37) dX5_instructionFault_32 rfl (fun c6 => ?_) (fun c6 => ?_)
    · have h := zifn c6 h
      refine g_iload cx dX5_instructionFault_37 rfl ?_
      refine g_bipush cx dX5_instructionFault_39 bp_33 ?_
      refine g_icmp_ne cx (tgt := 51) dX5_instructionFault_41 rfl (fun c7 => ?_) (fun c7 => ?_)
      · have h := zifn c7 h
        refine g_iload cx dX5_instructionFault_51 rfl ?_
        refine g_wSi cx [.int v4] [] (e_X9_fixedSize hP h) mt_X9_fixedSize ml_X5_76 dX5_instructionFault_53 rfl rfl (Nat.le_of_ble_eq_true rfl) (Nat.le_of_ble_eq_true rfl) (Nat.le_of_ble_eq_true rfl) (fun v8 I8 P8 hP h => ?_)
        refine g_istore cx dX5_instructionFault_56 (Nat.le_of_ble_eq_true rfl) (Gx.L [.ref 2, .ref x1, .int x2, .int (4 + x2), .int v4, .int v8] rfl ?_)
        refine g_iload_n cx dX5_instructionFault_58 rfl ?_
        refine g_iload cx dX5_instructionFault_59 rfl ?_
        refine g_iadd cx dX5_instructionFault_61 ?_
        refine g_aload_n cx dX5_instructionFault_62 rfl ?_
        obtain ⟨hs9, h⟩ := h
        refine g_getI cx lk_X5_47 hs9 (Nat.le_of_ble_eq_true rfl) rfl dX5_instructionFault_63 (x := (I8 x1 9)) rfl ?_
        refine g_icmp_le cx (tgt := 71) dX5_instructionFault_66 rfl (fun c10 => ?_) (fun c10 => ?_)
        · have h := zifp c10 h
          refine g_iload cx dX5_instructionFault_71 rfl ?_
          refine g_iconst cx dX5_instructionFault_73 ic_1 ?_
          refine g_icmp_le cx (tgt := 110) dX5_instructionFault_74 rfl (fun c11 => ?_) (fun c11 => ?_)
          · have h := zifp c11 h
            refine (Gx.unset 1 (Gx.unset 2 (Gx.unset 4 (Gx.L [.ref 2, .float 0, .float 0, .int (4 + x2), .float 0, .int v8] rfl ?_))))
            exact gj_X5_instructionFault_110 cx hE hP h
          · have h := zifn c11 h
            refine g_iload_n cx dX5_instructionFault_77 rfl ?_
            refine g_iconst cx dX5_instructionFault_78 ic_1 ?_
            refine g_iadd cx dX5_instructionFault_79 ?_
            refine g_aload_n cx dX5_instructionFault_80 rfl ?_
            refine g_getI cx lk_X5_15 rfl (Nat.le_of_ble_eq_true rfl) rfl dX5_instructionFault_81 (x := (I8 2 1)) rfl ?_
            refine g_icmp_ge cx (tgt := 110) dX5_instructionFault_84 rfl (fun c12 => ?_) (fun c12 => ?_)
            · have h := zifp c12 h
              refine (Gx.unset 1 (Gx.unset 2 (Gx.unset 4 (Gx.L [.ref 2, .float 0, .float 0, .int (4 + x2), .float 0, .int v8] rfl ?_))))
              exact gj_X5_instructionFault_110 cx hE hP h
            · have h := zifn c12 h
              refine g_aload_n cx dX5_instructionFault_87 rfl ?_
              refine g_iload cx dX5_instructionFault_88 rfl ?_
              refine g_aload_n cx dX5_instructionFault_90 rfl ?_
              obtain ⟨v13, hv14, h⟩ := h
              refine g_getR cx lk_X5_9 rfl (Nat.le_of_ble_eq_true rfl) rfl dX5_instructionFault_91 hv14 ?_
              refine g_iload_n cx dX5_instructionFault_94 rfl ?_
              refine g_iconst cx dX5_instructionFault_95 ic_1 ?_
              refine g_iadd cx dX5_instructionFault_96 ?_
              refine g_wSi cx [.ref v13, .int ((4 + x2) + 1)] [.int v4, .ref x1] (e_X9_byteAt hP h) mt_X9_byteAt ml_X5_35 dX5_instructionFault_97 rfl rfl (Nat.le_of_ble_eq_true rfl) (Nat.le_of_ble_eq_true rfl) (Nat.le_of_ble_eq_true rfl) (fun v15 I15 P15 hP h => ?_)
              refine g_wSi cx [.ref x1, .int v4, .int v15] [] (e_X5_operandFits hP h) mt_X5_operandFits ml_X5_80 dX5_instructionFault_100 rfl rfl (Nat.le_of_ble_eq_true rfl) (Nat.le_of_ble_eq_true rfl) (Nat.le_of_ble_eq_true rfl) (fun v16 I16 P16 hP h => ?_)
              refine g_if_ne cx (tgt := 110) dX5_instructionFault_103 rfl (fun c17 => ?_) (fun c17 => ?_)
              · have h := zifn c17 h
                refine (Gx.unset 1 (Gx.unset 2 (Gx.unset 4 (Gx.L [.ref 2, .float 0, .float 0, .int (4 + x2), .float 0, .int v8] rfl ?_))))
                exact gj_X5_instructionFault_110 cx hE hP h
              · have h := zifp c17 h
                refine g_iload_n cx dX5_instructionFault_106 rfl ?_
                refine g_iconst cx dX5_instructionFault_107 ic_1 ?_
                refine g_iadd cx dX5_instructionFault_108 ?_
                exact g_wi cx hE dX5_instructionFault_109 rfl rfl hP h
        · have h := zifn c10 h
          refine g_iload_n cx dX5_instructionFault_69 rfl ?_
          exact g_wi cx hE dX5_instructionFault_70 rfl rfl hP h
      · have h := zifp c7 h
        refine g_aload_n cx dX5_instructionFault_44 rfl ?_
        refine g_aload_n cx dX5_instructionFault_45 rfl ?_
        refine g_iload_n cx dX5_instructionFault_46 rfl ?_
        refine g_wVi cx [.ref x1, .int x2] [] (e_X5_tableFault hP h) mt_X5_tableFault ml_X5_73 rfl rfl rfl dX5_instructionFault_47 rfl rfl (Nat.le_of_ble_eq_true rfl) (Nat.le_of_ble_eq_true rfl) (Nat.le_of_ble_eq_true rfl) (fun v18 I18 P18 hP h => ?_)
        exact g_wi cx hE dX5_instructionFault_50 rfl rfl hP h
    · have h := zifp c6 h
      refine g_iload_n cx dX5_instructionFault_35 rfl ?_
      exact g_wi cx hE dX5_instructionFault_36 rfl rfl hP h
  · have h := zifn c1 h
    refine g_aload_n cx dX5_instructionFault_12 rfl ?_
    refine g_getI cx lk_X5_15 rfl (Nat.le_of_ble_eq_true rfl) rfl dX5_instructionFault_13 (x := (I 2 1)) rfl ?_
    exact g_wi cx hE dX5_instructionFault_16 rfl rfl hP h
def j_X5_codeFault_64 (X12 : Nat → Int32 → Int32 → zI → zP → Prop) (K : Int32 → zI → zP → Prop) (y1 : Nat) (y2 : Int32) (y3 : Int32) (I : zI) (P : zP) : Prop := SHy[y1]? = some (3, 11) ∧ (∃ v2, P y1 1 = some v2 ∧ (∃ v4, P 2 0 = some v4 ∧ (w_X9_byteAt v4 (4 + y3) I P (fun (v6 : Int32) (I6 : zI) (P6 : zP) => (SHy[v2]? = some (11, (zlen v2)) ∧ (vp_in y3 (zlen v2) ∧ (X12 y1 y2 (y3 + 1) (zu I6 v2 ((y3).toNatClampNeg) v6) P6)))))))
theorem gj_X5_codeFault_64 {κ : zX} (cx : Cx yX5_codeFault cX5_codeFault 5 (some .int) 3 70 κ) {K : Int32 → zI → zP → Prop} (hE : zEnd (zKi K) 0 0 κ) {X12 : Nat → Int32 → Int32 → zI → zP → Prop} (hX12 : ∀ (y1 : Nat) (y2 : Int32) (y3 : Int32) (I : zI) (P : zP), PSt P → X12 y1 y2 y3 I P → Gx κ 12 [.ref 2, .ref y1, .int y2, .int y3, .float 0] [] SHy I P 0 0) {y1 : Nat} {y2 : Int32} {y3 : Int32} {I : zI} {P : zP} (hP : PSt P) (h : j_X5_codeFault_64 X12 K y1 y2 y3 I P) : Gx κ 64 [.ref 2, .ref y1, .int y2, .int y3, .float 0] [] SHy I P 0 0 := by
  unfold j_X5_codeFault_64 at h
  refine g_aload_n cx dX5_codeFault_64 rfl ?_
  obtain ⟨hs1, h⟩ := h
  obtain ⟨v2, hv3, h⟩ := h
  refine g_getR cx lk_X5_66 hs1 (Nat.le_of_ble_eq_true rfl) rfl dX5_codeFault_65 hv3 ?_
  refine g_iload_n cx dX5_codeFault_68 rfl ?_
  refine g_aload_n cx dX5_codeFault_69 rfl ?_
  obtain ⟨v4, hv5, h⟩ := h
  refine g_getR cx lk_X5_9 rfl (Nat.le_of_ble_eq_true rfl) rfl dX5_codeFault_70 hv5 ?_
  refine g_iconst cx dX5_codeFault_73 ic_4 ?_
  refine g_iload_n cx dX5_codeFault_74 rfl ?_
  refine g_iadd cx dX5_codeFault_75 ?_
  refine g_wSi cx [.ref v4, .int (4 + y3)] [.int y3, .ref v2] (e_X9_byteAt hP h) mt_X9_byteAt ml_X5_35 dX5_codeFault_76 rfl rfl (Nat.le_of_ble_eq_true rfl) (Nat.le_of_ble_eq_true rfl) (Nat.le_of_ble_eq_true rfl) (fun v6 I6 P6 hP h => ?_)
  obtain ⟨hs7, h⟩ := h
  obtain ⟨hc8, h⟩ := h
  refine g_iast cx dX5_codeFault_79 hs7 hc8 ?_
  refine g_iinc cx (v := (y3 + 1)) dX5_codeFault_80 rfl rfl (Nat.le_of_ble_eq_true rfl) (Gx.L [.ref 2, .ref y1, .int y2, .int (y3 + 1), .float 0] rfl ?_)
  refine g_goto cx (tgt := 12) dX5_codeFault_83 rfl ?_
  exact hX12 _ _ _ _ _ hP h
def l_X5_codeFault_12 (K : Int32 → zI → zP → Prop) : Nat → Nat → Int32 → Int32 → zI → zP → Prop
  | 0, _, _, _, _, _ => False
  | n + 1, y1, y2, y3, I, P => SHy[y1]? = some (3, 11) ∧ (if (I y1 9) ≤ y3 then (K (-1) I P) else (if y3 = y2 then (w_X5_instructionFault y1 y3 I P (fun (v4 : Int32) (I4 : zI) (P4 : zP) => (if v4 = (-1) then (∃ v6, P4 2 0 = some v6 ∧ (w_X9_sizeAt v6 (4 + y3) I4 P4 (fun (v8 : Int32) (I8 : zI) (P8 : zP) => (∃ v9, P8 y1 2 = some v9 ∧ (SHy[v9]? = some (11, (zlen v9)) ∧ (vp_in y3 (zlen v9) ∧ (j_X5_codeFault_64 (l_X5_codeFault_12 K n) K y1 (y3 + v8) y3 (zu I8 v9 ((y3).toNatClampNeg) ((y3 + v8) - y3)) P8))))))) else (K v4 I4 P4)))) else (j_X5_codeFault_64 (l_X5_codeFault_12 K n) K y1 y2 y3 I P)))
theorem gl_X5_codeFault_12 {κ : zX} (cx : Cx yX5_codeFault cX5_codeFault 5 (some .int) 3 70 κ) {K : Int32 → zI → zP → Prop} (hE : zEnd (zKi K) 0 0 κ) : ∀ (n : Nat) (y1 : Nat) (y2 : Int32) (y3 : Int32) (I : zI) (P : zP), PSt P → l_X5_codeFault_12 K n y1 y2 y3 I P → Gx κ 12 [.ref 2, .ref y1, .int y2, .int y3, .float 0] [] SHy I P 0 0 := by
  intro n
  induction n with
  | zero =>
    intro y1 y2 y3 I P hP h
    rw [l_X5_codeFault_12] at h
    exact False.elim h
  | succ n ih =>
    intro y1 y2 y3 I P hP h
    rw [l_X5_codeFault_12] at h
    refine g_iload_n cx dX5_codeFault_12 rfl ?_
    refine g_aload_n cx dX5_codeFault_13 rfl ?_
    obtain ⟨hs1, h⟩ := h
    refine g_getI cx lk_X5_47 hs1 (Nat.le_of_ble_eq_true rfl) rfl dX5_codeFault_14 (x := (I y1 9)) rfl ?_
    refine g_icmp_ge cx (tgt := 86) dX5_codeFault_17 rfl (fun c2 => ?_) (fun c2 => ?_)
    · have h := zifp c2 h
      refine g_iconst cx dX5_codeFault_86 ic_m1 ?_
      exact g_wi cx hE dX5_codeFault_87 rfl rfl hP h
    · have h := zifn c2 h
      refine g_iload_n cx dX5_codeFault_20 rfl ?_
      refine g_iload_n cx dX5_codeFault_21 rfl ?_
      refine g_icmp_ne cx (tgt := 64) dX5_codeFault_22 rfl (fun c3 => ?_) (fun c3 => ?_)
      · have h := zifn c3 h
        exact gj_X5_codeFault_64 cx hE ih hP h
      · have h := zifp c3 h
        refine g_aload_n cx dX5_codeFault_25 rfl ?_
        refine g_aload_n cx dX5_codeFault_26 rfl ?_
        refine g_iload_n cx dX5_codeFault_27 rfl ?_
        refine g_wVi cx [.ref y1, .int y3] [] (e_X5_instructionFault hP h) mt_X5_instructionFault ml_X5_59 rfl rfl rfl dX5_codeFault_28 rfl rfl (Nat.le_of_ble_eq_true rfl) (Nat.le_of_ble_eq_true rfl) (Nat.le_of_ble_eq_true rfl) (fun v4 I4 P4 hP h => ?_)
        refine g_istore cx dX5_codeFault_31 (Nat.le_of_ble_eq_true rfl) (Gx.L [.ref 2, .ref y1, .int y2, .int y3, .int v4] rfl ?_)
        refine g_iload cx dX5_codeFault_33 rfl ?_
        refine g_iconst cx dX5_codeFault_35 ic_m1 ?_
        refine g_icmp_eq cx (tgt := 42) dX5_codeFault_36 rfl (fun c5 => ?_) (fun c5 => ?_)
        · have h := zifp c5 h
          refine g_iload_n cx dX5_codeFault_42 rfl ?_
          refine g_aload_n cx dX5_codeFault_43 rfl ?_
          obtain ⟨v6, hv7, h⟩ := h
          refine g_getR cx lk_X5_9 rfl (Nat.le_of_ble_eq_true rfl) rfl dX5_codeFault_44 hv7 ?_
          refine g_iconst cx dX5_codeFault_47 ic_4 ?_
          refine g_iload_n cx dX5_codeFault_48 rfl ?_
          refine g_iadd cx dX5_codeFault_49 ?_
          refine g_wSi cx [.ref v6, .int (4 + y3)] [.int y3] (e_X9_sizeAt hP h) mt_X9_sizeAt ml_X5_63 dX5_codeFault_50 rfl rfl (Nat.le_of_ble_eq_true rfl) (Nat.le_of_ble_eq_true rfl) (Nat.le_of_ble_eq_true rfl) (fun v8 I8 P8 hP h => ?_)
          refine g_iadd cx dX5_codeFault_53 ?_
          refine g_istore_n cx dX5_codeFault_54 (Nat.le_of_ble_eq_true rfl) (Gx.L [.ref 2, .ref y1, .int (y3 + v8), .int y3, .int v4] rfl ?_)
          refine g_aload_n cx dX5_codeFault_55 rfl ?_
          obtain ⟨v9, hv10, h⟩ := h
          refine g_getR cx lk_X5_50 hs1 (Nat.le_of_ble_eq_true rfl) rfl dX5_codeFault_56 hv10 ?_
          refine g_iload_n cx dX5_codeFault_59 rfl ?_
          refine g_iload_n cx dX5_codeFault_60 rfl ?_
          refine g_iload_n cx dX5_codeFault_61 rfl ?_
          refine g_isub cx dX5_codeFault_62 ?_
          obtain ⟨hs11, h⟩ := h
          obtain ⟨hc12, h⟩ := h
          refine g_iast cx dX5_codeFault_63 hs11 hc12 ?_
          refine (Gx.unset 4 (Gx.L [.ref 2, .ref y1, .int (y3 + v8), .int y3, .float 0] rfl ?_))
          exact gj_X5_codeFault_64 cx hE ih hP h
        · have h := zifn c5 h
          refine g_iload cx dX5_codeFault_39 rfl ?_
          exact g_wi cx hE dX5_codeFault_41 rfl rfl hP h
def w_X5_codeFault (x1 : Nat) (I : zI) (P : zP) (K : Int32 → zI → zP → Prop) : Prop := SHy[x1]? = some (3, 11) ∧ (∃ v2, P x1 2 = some v2 ∧ (w_J7_fill_53178 v2 0 I P (fun (I4 : zI) (P4 : zP) => (∃ n9, l_X5_codeFault_12 K n9 x1 0 0 I4 P4))))
theorem e_X5_codeFault {x1 : Nat} {I : zI} {P : zP} {K : Int32 → zI → zP → Prop} (hP : PSt P) (h : w_X5_codeFault x1 I P K) : Ev yX5_codeFault cX5_codeFault 5 (some .int) 3 70 0 0 [.ref 2, .ref x1] SHy I P (zKi K) := by
  refine Ev.start [.ref 2, .ref x1, .float 0, .float 0, .float 0] pn_X5 rfl (Nat.le_of_ble_eq_true rfl) rfl (fun κ cx hE => ?_)
  unfold w_X5_codeFault at h
  refine g_aload_n cx dX5_codeFault_0 rfl ?_
  obtain ⟨hs1, h⟩ := h
  obtain ⟨v2, hv3, h⟩ := h
  refine g_getR cx lk_X5_50 hs1 (Nat.le_of_ble_eq_true rfl) rfl dX5_codeFault_1 hv3 ?_
  refine g_iconst cx dX5_codeFault_4 ic_0 ?_
  refine g_wSv cx [.ref v2, .int 0] [] (e_J7_fill_53178 hP h) mt_J7_fill_53178 ml_X5_53 dX5_codeFault_5 rfl rfl (Nat.le_of_ble_eq_true rfl) (Nat.le_of_ble_eq_true rfl) (Nat.le_of_ble_eq_true rfl) (fun I4 P4 hP h => ?_)
  refine g_iconst cx dX5_codeFault_8 ic_0 ?_
  refine g_istore_n cx dX5_codeFault_9 (Nat.le_of_ble_eq_true rfl) (Gx.L [.ref 2, .ref x1, .int 0, .float 0, .float 0] rfl ?_)
  refine g_iconst cx dX5_codeFault_10 ic_0 ?_
  refine g_istore_n cx dX5_codeFault_11 (Nat.le_of_ble_eq_true rfl) (Gx.L [.ref 2, .ref x1, .int 0, .int 0, .float 0] rfl ?_)
  obtain ⟨n9, h⟩ := h
  exact gl_X5_codeFault_12 cx hE n9 _ _ _ _ _ hP h
def w_X5_headFault (x1 : Nat) (I : zI) (P : zP) (K : Int32 → zI → zP → Prop) : Prop := ∃ v1, P 2 0 = some v1 ∧ (w_X9_byteAt v1 0 I P (fun (v3 : Int32) (I3 : zI) (P3 : zP) => (SHy[x1]? = some (3, 11) ∧ (∃ v5, P3 2 0 = some v5 ∧ (w_X9_byteAt v5 1 (zu I3 x1 7 v3) P3 (fun (v7 : Int32) (I7 : zI) (P7 : zP) => (∃ v8, P7 2 0 = some v8 ∧ (w_X9_byteAt v8 2 (zu I7 x1 8 v7) P7 (fun (v10 : Int32) (I10 : zI) (P10 : zP) => (∃ v11, P10 2 0 = some v11 ∧ (w_X9_byteAt v11 3 I10 P10 (fun (v13 : Int32) (I13 : zI) (P13 : zP) => (if 1 ≤ ((zu I13 x1 9 (((v10 : Int32) <<< ((8 : Int32) &&& 31)) ||| v13)) 2 1) then (if ((zu I13 x1 9 (((v10 : Int32) <<< ((8 : Int32) &&& 31)) ||| v13)) x1 7) ≤ 4 then (if 2 ≤ ((zu I13 x1 9 (((v10 : Int32) <<< ((8 : Int32) &&& 31)) ||| v13)) 2 1) then (if ((zu I13 x1 9 (((v10 : Int32) <<< ((8 : Int32) &&& 31)) ||| v13)) x1 8) < ((zu I13 x1 9 (((v10 : Int32) <<< ((8 : Int32) &&& 31)) ||| v13)) x1 7) then (K 1 (zu I13 x1 9 (((v10 : Int32) <<< ((8 : Int32) &&& 31)) ||| v13)) P13) else (if ((zu I13 x1 9 (((v10 : Int32) <<< ((8 : Int32) &&& 31)) ||| v13)) x1 8) ≤ 12 then (if 4 ≤ ((zu I13 x1 9 (((v10 : Int32) <<< ((8 : Int32) &&& 31)) ||| v13)) 2 1) then (if ((zu I13 x1 9 (((v10 : Int32) <<< ((8 : Int32) &&& 31)) ||| v13)) x1 9) < 1 then (K 2 (zu I13 x1 9 (((v10 : Int32) <<< ((8 : Int32) &&& 31)) ||| v13)) P13) else (if ((zu I13 x1 9 (((v10 : Int32) <<< ((8 : Int32) &&& 31)) ||| v13)) x1 9) ≤ 400 then (K (-1) (zu I13 x1 9 (((v10 : Int32) <<< ((8 : Int32) &&& 31)) ||| v13)) P13) else (K 2 (zu I13 x1 9 (((v10 : Int32) <<< ((8 : Int32) &&& 31)) ||| v13)) P13))) else (K ((zu I13 x1 9 (((v10 : Int32) <<< ((8 : Int32) &&& 31)) ||| v13)) 2 1) (zu I13 x1 9 (((v10 : Int32) <<< ((8 : Int32) &&& 31)) ||| v13)) P13)) else (K 1 (zu I13 x1 9 (((v10 : Int32) <<< ((8 : Int32) &&& 31)) ||| v13)) P13))) else (K ((zu I13 x1 9 (((v10 : Int32) <<< ((8 : Int32) &&& 31)) ||| v13)) 2 1) (zu I13 x1 9 (((v10 : Int32) <<< ((8 : Int32) &&& 31)) ||| v13)) P13)) else (K 0 (zu I13 x1 9 (((v10 : Int32) <<< ((8 : Int32) &&& 31)) ||| v13)) P13)) else (K ((zu I13 x1 9 (((v10 : Int32) <<< ((8 : Int32) &&& 31)) ||| v13)) 2 1) (zu I13 x1 9 (((v10 : Int32) <<< ((8 : Int32) &&& 31)) ||| v13)) P13))))))))))))))
theorem e_X5_headFault {x1 : Nat} {I : zI} {P : zP} {K : Int32 → zI → zP → Prop} (hP : PSt P) (h : w_X5_headFault x1 I P K) : Ev yX5_headFault cX5_headFault 2 (some .int) 1 21 0 0 [.ref 2, .ref x1] SHy I P (zKi K) := by
  refine Ev.start [.ref 2, .ref x1] pn_X5 rfl (Nat.le_of_ble_eq_true rfl) rfl (fun κ cx hE => ?_)
  unfold w_X5_headFault at h
  refine g_aload_n cx dX5_headFault_0 rfl ?_
  refine g_aload_n cx dX5_headFault_1 rfl ?_
  obtain ⟨v1, hv2, h⟩ := h
  refine g_getR cx lk_X5_9 rfl (Nat.le_of_ble_eq_true rfl) rfl dX5_headFault_2 hv2 ?_
  refine g_iconst cx dX5_headFault_5 ic_0 ?_
  refine g_wSi cx [.ref v1, .int 0] [.ref x1] (e_X9_byteAt hP h) mt_X9_byteAt ml_X5_35 dX5_headFault_6 rfl rfl (Nat.le_of_ble_eq_true rfl) (Nat.le_of_ble_eq_true rfl) (Nat.le_of_ble_eq_true rfl) (fun v3 I3 P3 hP h => ?_)
  obtain ⟨hs4, h⟩ := h
  refine g_pI cx lk_X5_39 hs4 (Nat.le_of_ble_eq_true rfl) rfl dX5_headFault_9 fi_3_7 rfl rfl ?_
  refine g_aload_n cx dX5_headFault_12 rfl ?_
  refine g_aload_n cx dX5_headFault_13 rfl ?_
  obtain ⟨v5, hv6, h⟩ := h
  refine g_getR cx lk_X5_9 rfl (Nat.le_of_ble_eq_true rfl) rfl dX5_headFault_14 hv6 ?_
  refine g_iconst cx dX5_headFault_17 ic_1 ?_
  refine g_wSi cx [.ref v5, .int 1] [.ref x1] (e_X9_byteAt hP h) mt_X9_byteAt ml_X5_35 dX5_headFault_18 rfl rfl (Nat.le_of_ble_eq_true rfl) (Nat.le_of_ble_eq_true rfl) (Nat.le_of_ble_eq_true rfl) (fun v7 I7 P7 hP h => ?_)
  refine g_pI cx lk_X5_44 hs4 (Nat.le_of_ble_eq_true rfl) rfl dX5_headFault_21 fi_3_8 rfl rfl ?_
  refine g_aload_n cx dX5_headFault_24 rfl ?_
  refine g_aload_n cx dX5_headFault_25 rfl ?_
  obtain ⟨v8, hv9, h⟩ := h
  refine g_getR cx lk_X5_9 rfl (Nat.le_of_ble_eq_true rfl) rfl dX5_headFault_26 hv9 ?_
  refine g_iconst cx dX5_headFault_29 ic_2 ?_
  refine g_wSi cx [.ref v8, .int 2] [.ref x1] (e_X9_byteAt hP h) mt_X9_byteAt ml_X5_35 dX5_headFault_30 rfl rfl (Nat.le_of_ble_eq_true rfl) (Nat.le_of_ble_eq_true rfl) (Nat.le_of_ble_eq_true rfl) (fun v10 I10 P10 hP h => ?_)
  refine g_bipush cx dX5_headFault_33 bp_8 ?_
  refine g_ishl cx dX5_headFault_35 ?_
  refine g_aload_n cx dX5_headFault_36 rfl ?_
  obtain ⟨v11, hv12, h⟩ := h
  refine g_getR cx lk_X5_9 rfl (Nat.le_of_ble_eq_true rfl) rfl dX5_headFault_37 hv12 ?_
  refine g_iconst cx dX5_headFault_40 ic_3 ?_
  refine g_wSi cx [.ref v11, .int 3] [.int ((v10 : Int32) <<< ((8 : Int32) &&& 31)), .ref x1] (e_X9_byteAt hP h) mt_X9_byteAt ml_X5_35 dX5_headFault_41 rfl rfl (Nat.le_of_ble_eq_true rfl) (Nat.le_of_ble_eq_true rfl) (Nat.le_of_ble_eq_true rfl) (fun v13 I13 P13 hP h => ?_)
  refine g_ior cx dX5_headFault_44 ?_
  refine Gx.N 45 rfl ?_
  refine g_pI cx lk_X5_47 hs4 (Nat.le_of_ble_eq_true rfl) rfl dX5_headFault_45 fi_3_9 rfl rfl ?_
  refine g_aload_n cx dX5_headFault_48 rfl ?_
  refine g_getI cx lk_X5_15 rfl (Nat.le_of_ble_eq_true rfl) rfl dX5_headFault_49 (x := ((zu I13 x1 9 (((v10 : Int32) <<< ((8 : Int32) &&& 31)) ||| v13)) 2 1)) rfl ?_
  refine g_iconst cx dX5_headFault_52 ic_1 ?_
  refine g_icmp_ge cx (tgt := 61) dX5_headFault_53 rfl (fun c14 => ?_) (fun c14 => ?_)
  · have h := zifp c14 h
    refine g_aload_n cx dX5_headFault_61 rfl ?_
    refine g_getI cx lk_X5_39 hs4 (Nat.le_of_ble_eq_true rfl) rfl dX5_headFault_62 (x := ((zu I13 x1 9 (((v10 : Int32) <<< ((8 : Int32) &&& 31)) ||| v13)) x1 7)) rfl ?_
    refine g_iconst cx dX5_headFault_65 ic_4 ?_
    refine g_icmp_le cx (tgt := 71) dX5_headFault_66 rfl (fun c15 => ?_) (fun c15 => ?_)
    · have h := zifp c15 h
      refine g_aload_n cx dX5_headFault_71 rfl ?_
      refine g_getI cx lk_X5_15 rfl (Nat.le_of_ble_eq_true rfl) rfl dX5_headFault_72 (x := ((zu I13 x1 9 (((v10 : Int32) <<< ((8 : Int32) &&& 31)) ||| v13)) 2 1)) rfl ?_
      refine g_iconst cx dX5_headFault_75 ic_2 ?_
      refine g_icmp_ge cx (tgt := 84) dX5_headFault_76 rfl (fun c16 => ?_) (fun c16 => ?_)
      · have h := zifp c16 h
        refine g_aload_n cx dX5_headFault_84 rfl ?_
        refine g_getI cx lk_X5_44 hs4 (Nat.le_of_ble_eq_true rfl) rfl dX5_headFault_85 (x := ((zu I13 x1 9 (((v10 : Int32) <<< ((8 : Int32) &&& 31)) ||| v13)) x1 8)) rfl ?_
        refine g_aload_n cx dX5_headFault_88 rfl ?_
        refine g_getI cx lk_X5_39 hs4 (Nat.le_of_ble_eq_true rfl) rfl dX5_headFault_89 (x := ((zu I13 x1 9 (((v10 : Int32) <<< ((8 : Int32) &&& 31)) ||| v13)) x1 7)) rfl ?_
        refine g_icmp_lt cx (tgt := 104) dX5_headFault_92 rfl (fun c17 => ?_) (fun c17 => ?_)
        · have h := zifp c17 h
          refine g_iconst cx dX5_headFault_104 ic_1 ?_
          exact g_wi cx hE dX5_headFault_105 rfl rfl hP h
        · have h := zifn c17 h
          refine g_aload_n cx dX5_headFault_95 rfl ?_
          refine g_getI cx lk_X5_44 hs4 (Nat.le_of_ble_eq_true rfl) rfl dX5_headFault_96 (x := ((zu I13 x1 9 (((v10 : Int32) <<< ((8 : Int32) &&& 31)) ||| v13)) x1 8)) rfl ?_
          refine g_bipush cx dX5_headFault_99 bp_12 ?_
          refine g_icmp_le cx (tgt := 106) dX5_headFault_101 rfl (fun c18 => ?_) (fun c18 => ?_)
          · have h := zifp c18 h
            refine g_aload_n cx dX5_headFault_106 rfl ?_
            refine g_getI cx lk_X5_15 rfl (Nat.le_of_ble_eq_true rfl) rfl dX5_headFault_107 (x := ((zu I13 x1 9 (((v10 : Int32) <<< ((8 : Int32) &&& 31)) ||| v13)) 2 1)) rfl ?_
            refine g_iconst cx dX5_headFault_110 ic_4 ?_
            refine g_icmp_ge cx (tgt := 119) dX5_headFault_111 rfl (fun c19 => ?_) (fun c19 => ?_)
            · have h := zifp c19 h
              refine g_aload_n cx dX5_headFault_119 rfl ?_
              refine g_getI cx lk_X5_47 hs4 (Nat.le_of_ble_eq_true rfl) rfl dX5_headFault_120 (x := ((zu I13 x1 9 (((v10 : Int32) <<< ((8 : Int32) &&& 31)) ||| v13)) x1 9)) rfl ?_
              refine g_iconst cx dX5_headFault_123 ic_1 ?_
              refine g_icmp_lt cx (tgt := 137) dX5_headFault_124 rfl (fun c20 => ?_) (fun c20 => ?_)
              · have h := zifp c20 h
                refine g_iconst cx dX5_headFault_137 ic_2 ?_
                refine g_goto cx (tgt := 142) dX5_headFault_138 rfl ?_
                exact g_wi cx hE dX5_headFault_142 rfl rfl hP h
              · have h := zifn c20 h
                refine g_aload_n cx dX5_headFault_127 rfl ?_
                refine g_getI cx lk_X5_47 hs4 (Nat.le_of_ble_eq_true rfl) rfl dX5_headFault_128 (x := ((zu I13 x1 9 (((v10 : Int32) <<< ((8 : Int32) &&& 31)) ||| v13)) x1 9)) rfl ?_
                refine g_sipush cx dX5_headFault_131 sp_400 ?_
                refine g_icmp_le cx (tgt := 141) dX5_headFault_134 rfl (fun c21 => ?_) (fun c21 => ?_)
                · have h := zifp c21 h
                  refine g_iconst cx dX5_headFault_141 ic_m1 ?_
                  exact g_wi cx hE dX5_headFault_142 rfl rfl hP h
                · have h := zifn c21 h
                  refine g_iconst cx dX5_headFault_137 ic_2 ?_
                  refine g_goto cx (tgt := 142) dX5_headFault_138 rfl ?_
                  exact g_wi cx hE dX5_headFault_142 rfl rfl hP h
            · have h := zifn c19 h
              refine g_aload_n cx dX5_headFault_114 rfl ?_
              refine g_getI cx lk_X5_15 rfl (Nat.le_of_ble_eq_true rfl) rfl dX5_headFault_115 (x := ((zu I13 x1 9 (((v10 : Int32) <<< ((8 : Int32) &&& 31)) ||| v13)) 2 1)) rfl ?_
              exact g_wi cx hE dX5_headFault_118 rfl rfl hP h
          · have h := zifn c18 h
            refine g_iconst cx dX5_headFault_104 ic_1 ?_
            exact g_wi cx hE dX5_headFault_105 rfl rfl hP h
      · have h := zifn c16 h
        refine g_aload_n cx dX5_headFault_79 rfl ?_
        refine g_getI cx lk_X5_15 rfl (Nat.le_of_ble_eq_true rfl) rfl dX5_headFault_80 (x := ((zu I13 x1 9 (((v10 : Int32) <<< ((8 : Int32) &&& 31)) ||| v13)) 2 1)) rfl ?_
        exact g_wi cx hE dX5_headFault_83 rfl rfl hP h
    · have h := zifn c15 h
      refine g_iconst cx dX5_headFault_69 ic_0 ?_
      exact g_wi cx hE dX5_headFault_70 rfl rfl hP h
  · have h := zifn c14 h
    refine g_aload_n cx dX5_headFault_56 rfl ?_
    refine g_getI cx lk_X5_15 rfl (Nat.le_of_ble_eq_true rfl) rfl dX5_headFault_57 (x := ((zu I13 x1 9 (((v10 : Int32) <<< ((8 : Int32) &&& 31)) ||| v13)) 2 1)) rfl ?_
    exact g_wi cx hE dX5_headFault_60 rfl rfl hP h
def w_X5_readHandler (x1 : Nat) (x2 : Int32) (x3 : Int32) (I : zI) (P : zP) (K : zI → zP → Prop) : Prop := if (x2 * 4) < 0 then (K I P) else (SHy[x1]? = some (11, (zlen x1)) ∧ (if ((x2 * 4) + 3) < (Int32.ofNat (zlen x1)) then (∃ v4, P 2 0 = some v4 ∧ (w_X9_byteAt v4 x3 I P (fun (v6 : Int32) (I6 : zI) (P6 : zP) => (∃ v7, P6 2 0 = some v7 ∧ (w_X9_byteAt v7 (x3 + 1) I6 P6 (fun (v9 : Int32) (I9 : zI) (P9 : zP) => (vp_in (x2 * 4) (zlen x1) ∧ (∃ v11, P9 2 0 = some v11 ∧ (w_X9_byteAt v11 (x3 + 2) (zu I9 x1 (((x2 * 4)).toNatClampNeg) (((v6 : Int32) <<< ((8 : Int32) &&& 31)) ||| v9)) P9 (fun (v13 : Int32) (I13 : zI) (P13 : zP) => (∃ v14, P13 2 0 = some v14 ∧ (w_X9_byteAt v14 (x3 + 3) I13 P13 (fun (v16 : Int32) (I16 : zI) (P16 : zP) => (vp_in ((x2 * 4) + 1) (zlen x1) ∧ (∃ v18, P16 2 0 = some v18 ∧ (w_X9_byteAt v18 (x3 + 4) (zu I16 x1 ((((x2 * 4) + 1)).toNatClampNeg) (((v13 : Int32) <<< ((8 : Int32) &&& 31)) ||| v16)) P16 (fun (v20 : Int32) (I20 : zI) (P20 : zP) => (∃ v21, P20 2 0 = some v21 ∧ (w_X9_byteAt v21 (x3 + 5) I20 P20 (fun (v23 : Int32) (I23 : zI) (P23 : zP) => (vp_in ((x2 * 4) + 2) (zlen x1) ∧ (∃ v25, P23 2 0 = some v25 ∧ (w_X9_byteAt v25 (x3 + 6) (zu I23 x1 ((((x2 * 4) + 2)).toNatClampNeg) (((v20 : Int32) <<< ((8 : Int32) &&& 31)) ||| v23)) P23 (fun (v27 : Int32) (I27 : zI) (P27 : zP) => (vp_in ((x2 * 4) + 3) (zlen x1) ∧ (K (zu I27 x1 ((((x2 * 4) + 3)).toNatClampNeg) v27) P27)))))))))))))))))))))))))) else (K I P)))
theorem e_X5_readHandler {x1 : Nat} {x2 : Int32} {x3 : Int32} {I : zI} {P : zP} {K : zI → zP → Prop} (hP : PSt P) (h : w_X5_readHandler x1 x2 x3 I P K) : Ev yX5_readHandler cX5_readHandler 5 none 1 21 0 0 [.ref 2, .ref x1, .int x2, .int x3] SHy I P (zKv K) := by
  refine Ev.start [.ref 2, .ref x1, .int x2, .int x3, .float 0] pn_X5 rfl (Nat.le_of_ble_eq_true rfl) rfl (fun κ cx hE => ?_)
  unfold w_X5_readHandler at h
  refine g_iload_n cx dX5_readHandler_0 rfl ?_
  refine g_iconst cx dX5_readHandler_1 ic_4 ?_
  refine g_imul cx dX5_readHandler_2 ?_
  refine g_istore cx dX5_readHandler_3 (Nat.le_of_ble_eq_true rfl) (Gx.L [.ref 2, .ref x1, .int x2, .int x3, .int (x2 * 4)] rfl ?_)
  refine g_iload cx dX5_readHandler_5 rfl ?_
  refine g_if_lt cx (tgt := 19) dX5_readHandler_7 rfl (fun c1 => ?_) (fun c1 => ?_)
  · have h := zifp c1 h
    exact g_wv cx hE dX5_readHandler_19 rfl hP h
  · have h := zifn c1 h
    refine g_iload cx dX5_readHandler_10 rfl ?_
    refine g_iconst cx dX5_readHandler_12 ic_3 ?_
    refine g_iadd cx dX5_readHandler_13 ?_
    refine g_aload_n cx dX5_readHandler_14 rfl ?_
    obtain ⟨hs2, h⟩ := h
    refine g_alen cx hs2 (Nat.le_of_ble_eq_true rfl) (Nat.le_of_ble_eq_true rfl) dX5_readHandler_15 ?_
    refine g_icmp_lt cx (tgt := 20) dX5_readHandler_16 rfl (fun c3 => ?_) (fun c3 => ?_)
    · have h := zifp c3 h
      refine g_aload_n cx dX5_readHandler_20 rfl ?_
      refine g_iload cx dX5_readHandler_21 rfl ?_
      refine g_aload_n cx dX5_readHandler_23 rfl ?_
      obtain ⟨v4, hv5, h⟩ := h
      refine g_getR cx lk_X5_9 rfl (Nat.le_of_ble_eq_true rfl) rfl dX5_readHandler_24 hv5 ?_
      refine g_iload_n cx dX5_readHandler_27 rfl ?_
      refine g_wSi cx [.ref v4, .int x3] [.int (x2 * 4), .ref x1] (e_X9_byteAt hP h) mt_X9_byteAt ml_X5_35 dX5_readHandler_28 rfl rfl (Nat.le_of_ble_eq_true rfl) (Nat.le_of_ble_eq_true rfl) (Nat.le_of_ble_eq_true rfl) (fun v6 I6 P6 hP h => ?_)
      refine g_bipush cx dX5_readHandler_31 bp_8 ?_
      refine g_ishl cx dX5_readHandler_33 ?_
      refine g_aload_n cx dX5_readHandler_34 rfl ?_
      obtain ⟨v7, hv8, h⟩ := h
      refine g_getR cx lk_X5_9 rfl (Nat.le_of_ble_eq_true rfl) rfl dX5_readHandler_35 hv8 ?_
      refine g_iload_n cx dX5_readHandler_38 rfl ?_
      refine g_iconst cx dX5_readHandler_39 ic_1 ?_
      refine g_iadd cx dX5_readHandler_40 ?_
      refine g_wSi cx [.ref v7, .int (x3 + 1)] [.int ((v6 : Int32) <<< ((8 : Int32) &&& 31)), .int (x2 * 4), .ref x1] (e_X9_byteAt hP h) mt_X9_byteAt ml_X5_35 dX5_readHandler_41 rfl rfl (Nat.le_of_ble_eq_true rfl) (Nat.le_of_ble_eq_true rfl) (Nat.le_of_ble_eq_true rfl) (fun v9 I9 P9 hP h => ?_)
      refine g_ior cx dX5_readHandler_44 ?_
      obtain ⟨hc10, h⟩ := h
      refine g_iast cx dX5_readHandler_45 hs2 hc10 ?_
      refine g_aload_n cx dX5_readHandler_46 rfl ?_
      refine g_iload cx dX5_readHandler_47 rfl ?_
      refine g_iconst cx dX5_readHandler_49 ic_1 ?_
      refine g_iadd cx dX5_readHandler_50 ?_
      refine g_aload_n cx dX5_readHandler_51 rfl ?_
      obtain ⟨v11, hv12, h⟩ := h
      refine g_getR cx lk_X5_9 rfl (Nat.le_of_ble_eq_true rfl) rfl dX5_readHandler_52 hv12 ?_
      refine g_iload_n cx dX5_readHandler_55 rfl ?_
      refine g_iconst cx dX5_readHandler_56 ic_2 ?_
      refine Gx.N 57 rfl ?_
      refine g_iadd cx dX5_readHandler_57 ?_
      refine g_wSi cx [.ref v11, .int (x3 + 2)] [.int ((x2 * 4) + 1), .ref x1] (e_X9_byteAt hP h) mt_X9_byteAt ml_X5_35 dX5_readHandler_58 rfl rfl (Nat.le_of_ble_eq_true rfl) (Nat.le_of_ble_eq_true rfl) (Nat.le_of_ble_eq_true rfl) (fun v13 I13 P13 hP h => ?_)
      refine g_bipush cx dX5_readHandler_61 bp_8 ?_
      refine g_ishl cx dX5_readHandler_63 ?_
      refine g_aload_n cx dX5_readHandler_64 rfl ?_
      obtain ⟨v14, hv15, h⟩ := h
      refine g_getR cx lk_X5_9 rfl (Nat.le_of_ble_eq_true rfl) rfl dX5_readHandler_65 hv15 ?_
      refine g_iload_n cx dX5_readHandler_68 rfl ?_
      refine g_iconst cx dX5_readHandler_69 ic_3 ?_
      refine g_iadd cx dX5_readHandler_70 ?_
      refine g_wSi cx [.ref v14, .int (x3 + 3)] [.int ((v13 : Int32) <<< ((8 : Int32) &&& 31)), .int ((x2 * 4) + 1), .ref x1] (e_X9_byteAt hP h) mt_X9_byteAt ml_X5_35 dX5_readHandler_71 rfl rfl (Nat.le_of_ble_eq_true rfl) (Nat.le_of_ble_eq_true rfl) (Nat.le_of_ble_eq_true rfl) (fun v16 I16 P16 hP h => ?_)
      refine g_ior cx dX5_readHandler_74 ?_
      obtain ⟨hc17, h⟩ := h
      refine g_iast cx dX5_readHandler_75 hs2 hc17 ?_
      refine g_aload_n cx dX5_readHandler_76 rfl ?_
      refine g_iload cx dX5_readHandler_77 rfl ?_
      refine g_iconst cx dX5_readHandler_79 ic_2 ?_
      refine g_iadd cx dX5_readHandler_80 ?_
      refine g_aload_n cx dX5_readHandler_81 rfl ?_
      obtain ⟨v18, hv19, h⟩ := h
      refine g_getR cx lk_X5_9 rfl (Nat.le_of_ble_eq_true rfl) rfl dX5_readHandler_82 hv19 ?_
      refine g_iload_n cx dX5_readHandler_85 rfl ?_
      refine g_iconst cx dX5_readHandler_86 ic_4 ?_
      refine g_iadd cx dX5_readHandler_87 ?_
      refine g_wSi cx [.ref v18, .int (x3 + 4)] [.int ((x2 * 4) + 2), .ref x1] (e_X9_byteAt hP h) mt_X9_byteAt ml_X5_35 dX5_readHandler_88 rfl rfl (Nat.le_of_ble_eq_true rfl) (Nat.le_of_ble_eq_true rfl) (Nat.le_of_ble_eq_true rfl) (fun v20 I20 P20 hP h => ?_)
      refine g_bipush cx dX5_readHandler_91 bp_8 ?_
      refine g_ishl cx dX5_readHandler_93 ?_
      refine g_aload_n cx dX5_readHandler_94 rfl ?_
      refine Gx.N 95 rfl ?_
      obtain ⟨v21, hv22, h⟩ := h
      refine g_getR cx lk_X5_9 rfl (Nat.le_of_ble_eq_true rfl) rfl dX5_readHandler_95 hv22 ?_
      refine g_iload_n cx dX5_readHandler_98 rfl ?_
      refine g_iconst cx dX5_readHandler_99 ic_5 ?_
      refine g_iadd cx dX5_readHandler_100 ?_
      refine g_wSi cx [.ref v21, .int (x3 + 5)] [.int ((v20 : Int32) <<< ((8 : Int32) &&& 31)), .int ((x2 * 4) + 2), .ref x1] (e_X9_byteAt hP h) mt_X9_byteAt ml_X5_35 dX5_readHandler_101 rfl rfl (Nat.le_of_ble_eq_true rfl) (Nat.le_of_ble_eq_true rfl) (Nat.le_of_ble_eq_true rfl) (fun v23 I23 P23 hP h => ?_)
      refine g_ior cx dX5_readHandler_104 ?_
      obtain ⟨hc24, h⟩ := h
      refine g_iast cx dX5_readHandler_105 hs2 hc24 ?_
      refine g_aload_n cx dX5_readHandler_106 rfl ?_
      refine g_iload cx dX5_readHandler_107 rfl ?_
      refine g_iconst cx dX5_readHandler_109 ic_3 ?_
      refine g_iadd cx dX5_readHandler_110 ?_
      refine g_aload_n cx dX5_readHandler_111 rfl ?_
      obtain ⟨v25, hv26, h⟩ := h
      refine g_getR cx lk_X5_9 rfl (Nat.le_of_ble_eq_true rfl) rfl dX5_readHandler_112 hv26 ?_
      refine g_iload_n cx dX5_readHandler_115 rfl ?_
      refine g_bipush cx dX5_readHandler_116 bp_6 ?_
      refine g_iadd cx dX5_readHandler_118 ?_
      refine g_wSi cx [.ref v25, .int (x3 + 6)] [.int ((x2 * 4) + 3), .ref x1] (e_X9_byteAt hP h) mt_X9_byteAt ml_X5_35 dX5_readHandler_119 rfl rfl (Nat.le_of_ble_eq_true rfl) (Nat.le_of_ble_eq_true rfl) (Nat.le_of_ble_eq_true rfl) (fun v27 I27 P27 hP h => ?_)
      obtain ⟨hc28, h⟩ := h
      refine g_iast cx dX5_readHandler_122 hs2 hc28 ?_
      exact g_wv cx hE dX5_readHandler_123 rfl hP h
    · have h := zifn c3 h
      exact g_wv cx hE dX5_readHandler_19 rfl hP h
def l_X5_tailFault_74 (K : Int32 → zI → zP → Prop) : Nat → Nat → Int32 → Int32 → Int32 → zI → zP → Prop
  | 0, _, _, _, _, _, _ => False
  | n + 1, y1, y2, y3, y5, I, P => if y3 ≤ y5 then (K (-1) I P) else (SHy[y1]? = some (3, 11) ∧ (∃ v3, P y1 5 = some v3 ∧ (w_X5_readHandler v3 y5 ((y2 + 1) + (7 * y5)) I P (fun (I5 : zI) (P5 : zP) => ((l_X5_tailFault_74 K n) y1 y2 y3 (y5 + 1) I5 P5)))))
theorem gl_X5_tailFault_74 {κ : zX} (cx : Cx yX5_tailFault cX5_tailFault 6 (some .int) 2 45 κ) {K : Int32 → zI → zP → Prop} (hE : zEnd (zKi K) 0 0 κ) : ∀ (n : Nat) (y1 : Nat) (y2 : Int32) (y3 : Int32) (y5 : Int32) (I : zI) (P : zP), PSt P → l_X5_tailFault_74 K n y1 y2 y3 y5 I P → Gx κ 74 [.ref 2, .ref y1, .int y2, .int y3, .float 0, .int y5] [] SHy I P 0 0 := by
  intro n
  induction n with
  | zero =>
    intro y1 y2 y3 y5 I P hP h
    rw [l_X5_tailFault_74] at h
    exact False.elim h
  | succ n ih =>
    intro y1 y2 y3 y5 I P hP h
    rw [l_X5_tailFault_74] at h
    refine g_iload cx dX5_tailFault_74 rfl ?_
    refine g_iload_n cx dX5_tailFault_76 rfl ?_
    refine g_icmp_ge cx (tgt := 105) dX5_tailFault_77 rfl (fun c1 => ?_) (fun c1 => ?_)
    · have h := zifp c1 h
      refine g_iconst cx dX5_tailFault_105 ic_m1 ?_
      exact g_wi cx hE dX5_tailFault_106 rfl rfl hP h
    · have h := zifn c1 h
      refine g_aload_n cx dX5_tailFault_80 rfl ?_
      refine g_aload_n cx dX5_tailFault_81 rfl ?_
      obtain ⟨hs2, h⟩ := h
      obtain ⟨v3, hv4, h⟩ := h
      refine g_getR cx lk_X5_93 hs2 (Nat.le_of_ble_eq_true rfl) rfl dX5_tailFault_82 hv4 ?_
      refine g_iload cx dX5_tailFault_85 rfl ?_
      refine g_iload_n cx dX5_tailFault_87 rfl ?_
      refine g_iconst cx dX5_tailFault_88 ic_1 ?_
      refine g_iadd cx dX5_tailFault_89 ?_
      refine g_bipush cx dX5_tailFault_90 bp_7 ?_
      refine g_iload cx dX5_tailFault_92 rfl ?_
      refine g_imul cx dX5_tailFault_94 ?_
      refine g_iadd cx dX5_tailFault_95 ?_
      refine g_wVv cx [.ref v3, .int y5, .int ((y2 + 1) + (7 * y5))] [] (e_X5_readHandler hP h) mt_X5_readHandler ml_X5_96 rfl rfl rfl dX5_tailFault_96 rfl rfl (Nat.le_of_ble_eq_true rfl) (Nat.le_of_ble_eq_true rfl) (Nat.le_of_ble_eq_true rfl) (fun I5 P5 hP h => ?_)
      refine g_iinc cx (v := (y5 + 1)) dX5_tailFault_99 rfl rfl (Nat.le_of_ble_eq_true rfl) (Gx.L [.ref 2, .ref y1, .int y2, .int y3, .float 0, .int (y5 + 1)] rfl ?_)
      refine g_goto cx (tgt := 74) dX5_tailFault_102 rfl ?_
      exact ih _ _ _ _ _ _ hP h
def w_X5_tailFault (x1 : Nat) (I : zI) (P : zP) (K : Int32 → zI → zP → Prop) : Prop := SHy[x1]? = some (3, 11) ∧ (if (4 + (I x1 9)) < (I 2 1) then (∃ v3, P 2 0 = some v3 ∧ (w_X9_byteAt v3 (4 + (I x1 9)) I P (fun (v5 : Int32) (I5 : zI) (P5 : zP) => (if v5 ≤ 8 then (if (((4 + (I x1 9)) + 1) + (7 * v5)) = (I5 2 1) then (∃ n9, l_X5_tailFault_74 K n9 x1 (4 + (I x1 9)) v5 0 (zu I5 x1 10 v5) P5) else (K (if (I5 2 1) < (((4 + (I x1 9)) + 1) + (7 * v5)) then (I5 2 1) else (((4 + (I x1 9)) + 1) + (7 * v5))) I5 P5)) else (K (4 + (I x1 9)) I5 P5))))) else (K (I 2 1) I P))
theorem e_X5_tailFault {x1 : Nat} {I : zI} {P : zP} {K : Int32 → zI → zP → Prop} (hP : PSt P) (h : w_X5_tailFault x1 I P K) : Ev yX5_tailFault cX5_tailFault 6 (some .int) 2 45 0 0 [.ref 2, .ref x1] SHy I P (zKi K) := by
  refine Ev.start [.ref 2, .ref x1, .float 0, .float 0, .float 0, .float 0] pn_X5 rfl (Nat.le_of_ble_eq_true rfl) rfl (fun κ cx hE => ?_)
  unfold w_X5_tailFault at h
  refine g_iconst cx dX5_tailFault_0 ic_4 ?_
  refine g_aload_n cx dX5_tailFault_1 rfl ?_
  obtain ⟨hs1, h⟩ := h
  refine g_getI cx lk_X5_47 hs1 (Nat.le_of_ble_eq_true rfl) rfl dX5_tailFault_2 (x := (I x1 9)) rfl ?_
  refine g_iadd cx dX5_tailFault_5 ?_
  refine g_istore_n cx dX5_tailFault_6 (Nat.le_of_ble_eq_true rfl) (Gx.L [.ref 2, .ref x1, .int (4 + (I x1 9)), .float 0, .float 0, .float 0] rfl ?_)
  refine g_iload_n cx dX5_tailFault_7 rfl ?_
  refine g_aload_n cx dX5_tailFault_8 rfl ?_
  refine g_getI cx lk_X5_15 rfl (Nat.le_of_ble_eq_true rfl) rfl dX5_tailFault_9 (x := (I 2 1)) rfl ?_
  refine g_icmp_lt cx (tgt := 20) dX5_tailFault_12 rfl (fun c2 => ?_) (fun c2 => ?_)
  · have h := zifp c2 h
    refine g_aload_n cx dX5_tailFault_20 rfl ?_
    obtain ⟨v3, hv4, h⟩ := h
    refine g_getR cx lk_X5_9 rfl (Nat.le_of_ble_eq_true rfl) rfl dX5_tailFault_21 hv4 ?_
    refine g_iload_n cx dX5_tailFault_24 rfl ?_
    refine g_wSi cx [.ref v3, .int (4 + (I x1 9))] [] (e_X9_byteAt hP h) mt_X9_byteAt ml_X5_35 dX5_tailFault_25 rfl rfl (Nat.le_of_ble_eq_true rfl) (Nat.le_of_ble_eq_true rfl) (Nat.le_of_ble_eq_true rfl) (fun v5 I5 P5 hP h => ?_)
    refine g_istore_n cx dX5_tailFault_28 (Nat.le_of_ble_eq_true rfl) (Gx.L [.ref 2, .ref x1, .int (4 + (I x1 9)), .int v5, .float 0, .float 0] rfl ?_)
    refine g_iload_n cx dX5_tailFault_29 rfl ?_
    refine g_bipush cx dX5_tailFault_30 bp_8 ?_
    refine g_icmp_le cx (tgt := 37) dX5_tailFault_32 rfl (fun c6 => ?_) (fun c6 => ?_)
    · have h := zifp c6 h
      refine g_iload_n cx dX5_tailFault_37 rfl ?_
      refine g_iconst cx dX5_tailFault_38 ic_1 ?_
      refine g_iadd cx dX5_tailFault_39 ?_
      refine g_bipush cx dX5_tailFault_40 bp_7 ?_
      refine g_iload_n cx dX5_tailFault_42 rfl ?_
      refine g_imul cx dX5_tailFault_43 ?_
      refine g_iadd cx dX5_tailFault_44 ?_
      refine g_istore cx dX5_tailFault_45 (Nat.le_of_ble_eq_true rfl) (Gx.L [.ref 2, .ref x1, .int (4 + (I x1 9)), .int v5, .int (((4 + (I x1 9)) + 1) + (7 * v5)), .float 0] rfl ?_)
      refine g_iload cx dX5_tailFault_47 rfl ?_
      refine g_aload_n cx dX5_tailFault_49 rfl ?_
      refine g_getI cx lk_X5_15 rfl (Nat.le_of_ble_eq_true rfl) rfl dX5_tailFault_50 (x := (I5 2 1)) rfl ?_
      refine g_icmp_eq cx (tgt := 66) dX5_tailFault_53 rfl (fun c7 => ?_) (fun c7 => ?_)
      · have h := zifp c7 h
        refine g_aload_n cx dX5_tailFault_66 rfl ?_
        refine g_iload_n cx dX5_tailFault_67 rfl ?_
        refine g_pI cx lk_X5_90 hs1 (Nat.le_of_ble_eq_true rfl) rfl dX5_tailFault_68 fi_3_10 rfl rfl ?_
        refine g_iconst cx dX5_tailFault_71 ic_0 ?_
        refine g_istore cx dX5_tailFault_72 (Nat.le_of_ble_eq_true rfl) (Gx.L [.ref 2, .ref x1, .int (4 + (I x1 9)), .int v5, .int (((4 + (I x1 9)) + 1) + (7 * v5)), .int 0] rfl ?_)
        refine (Gx.unset 4 (Gx.L [.ref 2, .ref x1, .int (4 + (I x1 9)), .int v5, .float 0, .int 0] rfl ?_))
        obtain ⟨n9, h⟩ := h
        exact gl_X5_tailFault_74 cx hE n9 _ _ _ _ _ _ hP h
      · have h := zifn c7 h
        refine g_iload cx dX5_tailFault_56 rfl ?_
        refine g_aload_n cx dX5_tailFault_58 rfl ?_
        refine g_getI cx lk_X5_15 rfl (Nat.le_of_ble_eq_true rfl) rfl dX5_tailFault_59 (x := (I5 2 1)) rfl ?_
        refine g_mmin cx ml_X5_19 dX5_tailFault_62 rfl (Nat.le_of_ble_eq_true rfl) (Nat.le_of_ble_eq_true rfl) (Nat.le_of_ble_eq_true rfl) rfl rfl ?_
        exact g_wi cx hE dX5_tailFault_65 rfl rfl hP h
    · have h := zifn c6 h
      refine g_iload_n cx dX5_tailFault_35 rfl ?_
      exact g_wi cx hE dX5_tailFault_36 rfl rfl hP h
  · have h := zifn c2 h
    refine g_aload_n cx dX5_tailFault_15 rfl ?_
    refine g_getI cx lk_X5_15 rfl (Nat.le_of_ble_eq_true rfl) rfl dX5_tailFault_16 (x := (I 2 1)) rfl ?_
    exact g_wi cx hE dX5_tailFault_19 rfl rfl hP h
def j_X5_formFault_35 (K : Int32 → zI → zP → Prop) (y3 : Nat) (y4 : Int32) (I : zI) (P : zP) : Prop := if y4 = (-1) then (w_X5_tailFault y3 I P (fun (v2 : Int32) (I2 : zI) (P2 : zP) => (K v2 I2 P2))) else (K y4 I P)
theorem gj_X5_formFault_35 {κ : zX} (cx : Cx yX5_formFault cX5_formFault 5 (some .int) 4 94 κ) {K : Int32 → zI → zP → Prop} (hE : zEnd (zKi K) 0 0 κ) {y3 : Nat} {y4 : Int32} {I : zI} {P : zP} (hP : PSt P) (h : j_X5_formFault_35 K y3 y4 I P) : Gx κ 35 [.ref 2, .float 0, .float 0, .ref y3, .int y4] [] SHy I P 0 0 := by
  unfold j_X5_formFault_35 at h
  refine g_iload cx dX5_formFault_35 rfl ?_
  refine g_iconst cx dX5_formFault_37 ic_m1 ?_
  refine g_icmp_ne cx (tgt := 48) dX5_formFault_38 rfl (fun c1 => ?_) (fun c1 => ?_)
  · have h := zifn c1 h
    refine g_iload cx dX5_formFault_48 rfl ?_
    exact g_wi cx hE dX5_formFault_50 rfl rfl hP h
  · have h := zifp c1 h
    refine g_aload_n cx dX5_formFault_41 rfl ?_
    refine g_aload_n cx dX5_formFault_42 rfl ?_
    refine g_wVi cx [.ref y3] [] (e_X5_tailFault hP h) mt_X5_tailFault ml_X5_32 rfl rfl rfl dX5_formFault_43 rfl rfl (Nat.le_of_ble_eq_true rfl) (Nat.le_of_ble_eq_true rfl) (Nat.le_of_ble_eq_true rfl) (fun v2 I2 P2 hP h => ?_)
    refine g_istore cx dX5_formFault_46 (Nat.le_of_ble_eq_true rfl) (Gx.L [.ref 2, .float 0, .float 0, .ref y3, .int v2] rfl ?_)
    refine g_iload cx dX5_formFault_48 rfl ?_
    exact g_wi cx hE dX5_formFault_50 rfl rfl hP h
def w_X5_formFault (x1 : Nat) (x2 : Int32) (x3 : Nat) (I : zI) (P : zP) (K : Int32 → zI → zP → Prop) : Prop := SHy[x1]? = some (11, (zlen x1)) ∧ (w_X5_headFault x3 (zu I 2 1 (if (Int32.ofNat (zlen x1)) < x2 then (Int32.ofNat (zlen x1)) else x2)) (zu P 2 0 (some x1)) (fun (v2 : Int32) (I2 : zI) (P2 : zP) => (if v2 = (-1) then (w_X5_codeFault x3 I2 P2 (fun (v4 : Int32) (I4 : zI) (P4 : zP) => (j_X5_formFault_35 K x3 v4 I4 P4))) else (j_X5_formFault_35 K x3 v2 I2 P2))))
theorem e_X5_formFault {x1 : Nat} {x2 : Int32} {x3 : Nat} {I : zI} {P : zP} {K : Int32 → zI → zP → Prop} (hP : PSt P) (h : w_X5_formFault x1 x2 x3 I P K) : Ev yX5_formFault cX5_formFault 5 (some .int) 4 94 0 0 [.ref 2, .ref x1, .int x2, .ref x3] SHy I P (zKi K) := by
  refine Ev.start [.ref 2, .ref x1, .int x2, .ref x3, .float 0] pn_X5 rfl (Nat.le_of_ble_eq_true rfl) rfl (fun κ cx hE => ?_)
  unfold w_X5_formFault at h
  refine g_aload_n cx dX5_formFault_0 rfl ?_
  refine g_aload_n cx dX5_formFault_1 rfl ?_
  refine g_pR cx lk_X5_9 rfl (Nat.le_of_ble_eq_true rfl) rfl dX5_formFault_2 fi_5_0 (fun _ => rfl) (fun _ => rfl) ?_
  have hP := pst_put (v := some x1) (k := 0) hP (show SHy[2]? = some (5, 2) from rfl) (by decide +kernel)
  refine g_aload_n cx dX5_formFault_5 rfl ?_
  refine g_iload_n cx dX5_formFault_6 rfl ?_
  refine g_aload_n cx dX5_formFault_7 rfl ?_
  obtain ⟨hs1, h⟩ := h
  refine g_alen cx hs1 (Nat.le_of_ble_eq_true rfl) (Nat.le_of_ble_eq_true rfl) dX5_formFault_8 ?_
  refine g_mmin cx ml_X5_19 dX5_formFault_9 rfl (Nat.le_of_ble_eq_true rfl) (Nat.le_of_ble_eq_true rfl) (Nat.le_of_ble_eq_true rfl) rfl rfl ?_
  refine g_pI cx lk_X5_15 rfl (Nat.le_of_ble_eq_true rfl) rfl dX5_formFault_12 fi_5_1 rfl rfl ?_
  refine g_aload_n cx dX5_formFault_15 rfl ?_
  refine g_aload_n cx dX5_formFault_16 rfl ?_
  refine g_wVi cx [.ref x3] [] (e_X5_headFault hP h) mt_X5_headFault ml_X5_25 rfl rfl rfl dX5_formFault_17 rfl rfl (Nat.le_of_ble_eq_true rfl) (Nat.le_of_ble_eq_true rfl) (Nat.le_of_ble_eq_true rfl) (fun v2 I2 P2 hP h => ?_)
  refine g_istore cx dX5_formFault_20 (Nat.le_of_ble_eq_true rfl) (Gx.L [.ref 2, .ref x1, .int x2, .ref x3, .int v2] rfl ?_)
  refine g_iload cx dX5_formFault_22 rfl ?_
  refine g_iconst cx dX5_formFault_24 ic_m1 ?_
  refine g_icmp_ne cx (tgt := 35) dX5_formFault_25 rfl (fun c3 => ?_) (fun c3 => ?_)
  · have h := zifn c3 h
    refine (Gx.unset 1 (Gx.unset 2 (Gx.L [.ref 2, .float 0, .float 0, .ref x3, .int v2] rfl ?_)))
    exact gj_X5_formFault_35 cx hE hP h
  · have h := zifp c3 h
    refine g_aload_n cx dX5_formFault_28 rfl ?_
    refine g_aload_n cx dX5_formFault_29 rfl ?_
    refine g_wVi cx [.ref x3] [] (e_X5_codeFault hP h) mt_X5_codeFault ml_X5_29 rfl rfl rfl dX5_formFault_30 rfl rfl (Nat.le_of_ble_eq_true rfl) (Nat.le_of_ble_eq_true rfl) (Nat.le_of_ble_eq_true rfl) (fun v4 I4 P4 hP h => ?_)
    refine g_istore cx dX5_formFault_33 (Nat.le_of_ble_eq_true rfl) (Gx.L [.ref 2, .ref x1, .int x2, .ref x3, .int v4] rfl ?_)
    refine (Gx.unset 1 (Gx.unset 2 (Gx.L [.ref 2, .float 0, .float 0, .ref x3, .int v4] rfl ?_)))
    exact gj_X5_formFault_35 cx hE hP h
def w_X6_markAt (o : Nat) (x1 : Int32) (I : zI) (P : zP) (K : Int32 → zI → zP → Prop) : Prop := if x1 < 0 then (K 0 I P) else (SHy[o]? = some (6, 13) ∧ (if (I o 11) ≤ x1 then (K 0 I P) else (if 60 ≤ x1 then (K 0 I P) else (∃ v5, P o 1 = some v5 ∧ (SHy[v5]? = some (11, (zlen v5)) ∧ (vp_in x1 (zlen v5) ∧ (K (I v5 ((x1).toNatClampNeg)) I P)))))))
theorem e_X6_markAt {o : Nat} {x1 : Int32} {I : zI} {P : zP} {K : Int32 → zI → zP → Prop} (hP : PSt P) (h : w_X6_markAt o x1 I P K) : Ev yX6_markAt cX6_markAt 2 (some .int) 0 0 0 0 [.ref o, .int x1] SHy I P (zKi K) := by
  refine Ev.start [.ref o, .int x1] pn_X6 rfl (Nat.le_of_ble_eq_true rfl) rfl (fun κ cx hE => ?_)
  unfold w_X6_markAt at h
  refine g_iload_n cx dX6_markAt_0 rfl ?_
  refine g_if_lt cx (tgt := 27) dX6_markAt_1 rfl (fun c1 => ?_) (fun c1 => ?_)
  · have h := zifp c1 h
    refine g_iconst cx dX6_markAt_27 ic_0 ?_
    exact g_wi cx hE dX6_markAt_28 rfl rfl hP h
  · have h := zifn c1 h
    refine g_iload_n cx dX6_markAt_4 rfl ?_
    refine g_aload_n cx dX6_markAt_5 rfl ?_
    obtain ⟨hs2, h⟩ := h
    refine g_getI cx lk_X6_46 hs2 (Nat.le_of_ble_eq_true rfl) rfl dX6_markAt_6 (x := (I o 11)) rfl ?_
    refine g_icmp_ge cx (tgt := 27) dX6_markAt_9 rfl (fun c3 => ?_) (fun c3 => ?_)
    · have h := zifp c3 h
      refine g_iconst cx dX6_markAt_27 ic_0 ?_
      exact g_wi cx hE dX6_markAt_28 rfl rfl hP h
    · have h := zifn c3 h
      refine g_iload_n cx dX6_markAt_12 rfl ?_
      refine g_bipush cx dX6_markAt_13 bp_60 ?_
      refine g_icmp_ge cx (tgt := 27) dX6_markAt_15 rfl (fun c4 => ?_) (fun c4 => ?_)
      · have h := zifp c4 h
        refine g_iconst cx dX6_markAt_27 ic_0 ?_
        exact g_wi cx hE dX6_markAt_28 rfl rfl hP h
      · have h := zifn c4 h
        refine g_aload_n cx dX6_markAt_18 rfl ?_
        obtain ⟨v5, hv6, h⟩ := h
        refine g_getR cx lk_X6_15 hs2 (Nat.le_of_ble_eq_true rfl) rfl dX6_markAt_19 hv6 ?_
        refine g_iload_n cx dX6_markAt_22 rfl ?_
        obtain ⟨hs7, h⟩ := h
        obtain ⟨hc8, h⟩ := h
        refine g_iald cx dX6_markAt_23 hs7 hc8 (x := (I v5 ((x1).toNatClampNeg))) rfl ?_
        refine g_goto cx (tgt := 28) dX6_markAt_24 rfl ?_
        exact g_wi cx hE dX6_markAt_28 rfl rfl hP h
def w_X6_recordsKept (o : Nat) (I : zI) (P : zP) (K : Int32 → zI → zP → Prop) : Prop := SHy[o]? = some (6, 13) ∧ (K (if 400 < (I o 12) then 400 else (I o 12)) I P)
theorem e_X6_recordsKept {o : Nat} {I : zI} {P : zP} {K : Int32 → zI → zP → Prop} (hP : PSt P) (h : w_X6_recordsKept o I P K) : Ev yX6_recordsKept cX6_recordsKept 1 (some .int) 1 21 0 0 [.ref o] SHy I P (zKi K) := by
  refine Ev.start [.ref o] pn_X6 rfl (Nat.le_of_ble_eq_true rfl) rfl (fun κ cx hE => ?_)
  unfold w_X6_recordsKept at h
  refine g_aload_n cx dX6_recordsKept_0 rfl ?_
  obtain ⟨hs1, h⟩ := h
  refine g_getI cx lk_X6_49 hs1 (Nat.le_of_ble_eq_true rfl) rfl dX6_recordsKept_1 (x := (I o 12)) rfl ?_
  refine g_sipush cx dX6_recordsKept_4 sp_400 ?_
  refine g_mmin cx ml_X6_58 dX6_recordsKept_7 rfl (Nat.le_of_ble_eq_true rfl) (Nat.le_of_ble_eq_true rfl) (Nat.le_of_ble_eq_true rfl) rfl rfl ?_
  exact g_wi cx hE dX6_recordsKept_10 rfl rfl hP h
def w_X6_recordPart (o : Nat) (x1 : Int32) (x2 : Int32) (I : zI) (P : zP) (K : Int32 → zI → zP → Prop) : Prop := if x1 < 0 then (K 0 I P) else (SHy[o]? = some (6, 13) ∧ (w_X6_recordsKept o I P (fun (v3 : Int32) (I3 : zI) (P3 : zP) => (if x1 < v3 then (if x2 = 0 then (∃ v11, P3 o 2 = some v11 ∧ (SHy[v11]? = some (11, (zlen v11)) ∧ (vp_in x1 (zlen v11) ∧ (K (I3 v11 ((x1).toNatClampNeg)) I3 P3)))) else (if x2 = 1 then (∃ v7, P3 o 3 = some v7 ∧ (SHy[v7]? = some (11, (zlen v7)) ∧ (vp_in x1 (zlen v7) ∧ (K (I3 v7 ((x1).toNatClampNeg)) I3 P3)))) else (K 0 I3 P3))) else (K 0 I3 P3)))))
theorem e_X6_recordPart {o : Nat} {x1 : Int32} {x2 : Int32} {I : zI} {P : zP} {K : Int32 → zI → zP → Prop} (hP : PSt P) (h : w_X6_recordPart o x1 x2 I P K) : Ev yX6_recordPart cX6_recordPart 3 (some .int) 2 41 0 0 [.ref o, .int x1, .int x2] SHy I P (zKi K) := by
  refine Ev.start [.ref o, .int x1, .int x2] pn_X6 rfl (Nat.le_of_ble_eq_true rfl) rfl (fun κ cx hE => ?_)
  unfold w_X6_recordPart at h
  refine g_iload_n cx dX6_recordPart_0 rfl ?_
  refine g_if_lt cx (tgt := 12) dX6_recordPart_1 rfl (fun c1 => ?_) (fun c1 => ?_)
  · have h := zifp c1 h
    refine g_iconst cx dX6_recordPart_12 ic_0 ?_
    exact g_wi cx hE dX6_recordPart_13 rfl rfl hP h
  · have h := zifn c1 h
    refine g_iload_n cx dX6_recordPart_4 rfl ?_
    refine g_aload_n cx dX6_recordPart_5 rfl ?_
    obtain ⟨hs2, h⟩ := h
    refine g_wVi cx [] [.int x1] (e_X6_recordsKept hP h) mt_X6_recordsKept ml_X6_64 hs2 rfl rfl dX6_recordPart_6 rfl rfl (Nat.le_of_ble_eq_true rfl) (Nat.le_of_ble_eq_true rfl) (Nat.le_of_ble_eq_true rfl) (fun v3 I3 P3 hP h => ?_)
    refine g_icmp_lt cx (tgt := 14) dX6_recordPart_9 rfl (fun c4 => ?_) (fun c4 => ?_)
    · have h := zifp c4 h
      refine g_iload_n cx dX6_recordPart_14 rfl ?_
      refine g_if_ne cx (tgt := 25) dX6_recordPart_15 rfl (fun c5 => ?_) (fun c5 => ?_)
      · have h := zifn c5 h
        refine g_iload_n cx dX6_recordPart_25 rfl ?_
        refine g_iconst cx dX6_recordPart_26 ic_1 ?_
        refine g_icmp_ne cx (tgt := 39) dX6_recordPart_27 rfl (fun c6 => ?_) (fun c6 => ?_)
        · have h := zifn c6 h
          refine g_iconst cx dX6_recordPart_39 ic_0 ?_
          exact g_wi cx hE dX6_recordPart_40 rfl rfl hP h
        · have h := zifp c6 h
          refine g_aload_n cx dX6_recordPart_30 rfl ?_
          obtain ⟨v7, hv8, h⟩ := h
          refine g_getR cx lk_X6_21 hs2 (Nat.le_of_ble_eq_true rfl) rfl dX6_recordPart_31 hv8 ?_
          refine g_iload_n cx dX6_recordPart_34 rfl ?_
          obtain ⟨hs9, h⟩ := h
          obtain ⟨hc10, h⟩ := h
          refine g_iald cx dX6_recordPart_35 hs9 hc10 (x := (I3 v7 ((x1).toNatClampNeg))) rfl ?_
          refine g_goto cx (tgt := 40) dX6_recordPart_36 rfl ?_
          exact g_wi cx hE dX6_recordPart_40 rfl rfl hP h
      · have h := zifp c5 h
        refine g_aload_n cx dX6_recordPart_18 rfl ?_
        obtain ⟨v11, hv12, h⟩ := h
        refine g_getR cx lk_X6_18 hs2 (Nat.le_of_ble_eq_true rfl) rfl dX6_recordPart_19 hv12 ?_
        refine g_iload_n cx dX6_recordPart_22 rfl ?_
        obtain ⟨hs13, h⟩ := h
        obtain ⟨hc14, h⟩ := h
        refine g_iald cx dX6_recordPart_23 hs13 hc14 (x := (I3 v11 ((x1).toNatClampNeg))) rfl ?_
        exact g_wi cx hE dX6_recordPart_24 rfl rfl hP h
    · have h := zifn c4 h
      refine g_iconst cx dX6_recordPart_12 ic_0 ?_
      exact g_wi cx hE dX6_recordPart_13 rfl rfl hP h
def l_X6_recordsOf_4 (K : Int32 → zI → zP → Prop) : Nat → Nat → Int32 → Int32 → Int32 → zI → zP → Prop
  | 0, _, _, _, _, _, _ => False
  | n + 1, y0, y1, y2, y3, I, P => SHy[y0]? = some (6, 13) ∧ (w_X6_recordsKept y0 I P (fun (v2 : Int32) (I2 : zI) (P2 : zP) => (if v2 ≤ y3 then (K y2 I2 P2) else (∃ v4, P2 y0 2 = some v4 ∧ (SHy[v4]? = some (11, (zlen v4)) ∧ (vp_in y3 (zlen v4) ∧ (if (I2 v4 ((y3).toNatClampNeg)) = y1 then ((l_X6_recordsOf_4 K n) y0 y1 (y2 + 1) (y3 + 1) I2 P2) else ((l_X6_recordsOf_4 K n) y0 y1 y2 (y3 + 1) I2 P2))))))))
theorem gl_X6_recordsOf_4 {κ : zX} (cx : Cx yX6_recordsOf cX6_recordsOf 4 (some .int) 2 41 κ) {K : Int32 → zI → zP → Prop} (hE : zEnd (zKi K) 0 0 κ) : ∀ (n : Nat) (y0 : Nat) (y1 : Int32) (y2 : Int32) (y3 : Int32) (I : zI) (P : zP), PSt P → l_X6_recordsOf_4 K n y0 y1 y2 y3 I P → Gx κ 4 [.ref y0, .int y1, .int y2, .int y3] [] SHy I P 0 0 := by
  intro n
  induction n with
  | zero =>
    intro y0 y1 y2 y3 I P hP h
    rw [l_X6_recordsOf_4] at h
    exact False.elim h
  | succ n ih =>
    intro y0 y1 y2 y3 I P hP h
    rw [l_X6_recordsOf_4] at h
    refine g_iload_n cx dX6_recordsOf_4 rfl ?_
    refine g_aload_n cx dX6_recordsOf_5 rfl ?_
    obtain ⟨hs1, h⟩ := h
    refine g_wVi cx [] [.int y3] (e_X6_recordsKept hP h) mt_X6_recordsKept ml_X6_64 hs1 rfl rfl dX6_recordsOf_6 rfl rfl (Nat.le_of_ble_eq_true rfl) (Nat.le_of_ble_eq_true rfl) (Nat.le_of_ble_eq_true rfl) (fun v2 I2 P2 hP h => ?_)
    refine g_icmp_ge cx (tgt := 31) dX6_recordsOf_9 rfl (fun c3 => ?_) (fun c3 => ?_)
    · have h := zifp c3 h
      refine g_iload_n cx dX6_recordsOf_31 rfl ?_
      exact g_wi cx hE dX6_recordsOf_32 rfl rfl hP h
    · have h := zifn c3 h
      refine g_aload_n cx dX6_recordsOf_12 rfl ?_
      obtain ⟨v4, hv5, h⟩ := h
      refine g_getR cx lk_X6_18 hs1 (Nat.le_of_ble_eq_true rfl) rfl dX6_recordsOf_13 hv5 ?_
      refine g_iload_n cx dX6_recordsOf_16 rfl ?_
      obtain ⟨hs6, h⟩ := h
      obtain ⟨hc7, h⟩ := h
      refine g_iald cx dX6_recordsOf_17 hs6 hc7 (x := (I2 v4 ((y3).toNatClampNeg))) rfl ?_
      refine g_iload_n cx dX6_recordsOf_18 rfl ?_
      refine g_icmp_ne cx (tgt := 25) dX6_recordsOf_19 rfl (fun c8 => ?_) (fun c8 => ?_)
      · have h := zifn c8 h
        refine g_iinc cx (v := (y3 + 1)) dX6_recordsOf_25 rfl rfl (Nat.le_of_ble_eq_true rfl) (Gx.L [.ref y0, .int y1, .int y2, .int (y3 + 1)] rfl ?_)
        refine g_goto cx (tgt := 4) dX6_recordsOf_28 rfl ?_
        exact ih _ _ _ _ _ _ hP h
      · have h := zifp c8 h
        refine g_iinc cx (v := (y2 + 1)) dX6_recordsOf_22 rfl rfl (Nat.le_of_ble_eq_true rfl) (Gx.L [.ref y0, .int y1, .int (y2 + 1), .int y3] rfl ?_)
        refine g_iinc cx (v := (y3 + 1)) dX6_recordsOf_25 rfl rfl (Nat.le_of_ble_eq_true rfl) (Gx.L [.ref y0, .int y1, .int (y2 + 1), .int (y3 + 1)] rfl ?_)
        refine g_goto cx (tgt := 4) dX6_recordsOf_28 rfl ?_
        exact ih _ _ _ _ _ _ hP h
def w_X6_recordsOf (o : Nat) (x1 : Int32) (I : zI) (P : zP) (K : Int32 → zI → zP → Prop) : Prop := ∃ n9, l_X6_recordsOf_4 K n9 o x1 0 0 I P
theorem e_X6_recordsOf {o : Nat} {x1 : Int32} {I : zI} {P : zP} {K : Int32 → zI → zP → Prop} (hP : PSt P) (h : w_X6_recordsOf o x1 I P K) : Ev yX6_recordsOf cX6_recordsOf 4 (some .int) 2 41 0 0 [.ref o, .int x1] SHy I P (zKi K) := by
  refine Ev.start [.ref o, .int x1, .float 0, .float 0] pn_X6 rfl (Nat.le_of_ble_eq_true rfl) rfl (fun κ cx hE => ?_)
  unfold w_X6_recordsOf at h
  refine g_iconst cx dX6_recordsOf_0 ic_0 ?_
  refine g_istore_n cx dX6_recordsOf_1 (Nat.le_of_ble_eq_true rfl) (Gx.L [.ref o, .int x1, .int 0, .float 0] rfl ?_)
  refine g_iconst cx dX6_recordsOf_2 ic_0 ?_
  refine g_istore_n cx dX6_recordsOf_3 (Nat.le_of_ble_eq_true rfl) (Gx.L [.ref o, .int x1, .int 0, .int 0] rfl ?_)
  obtain ⟨n9, h⟩ := h
  exact gl_X6_recordsOf_4 cx hE n9 _ _ _ _ _ _ hP h
def w_X6_tell (o : Nat) (x1 : Int32) (I : zI) (P : zP) (K : Int32 → zI → zP → Prop) : Prop := if x1 = 0 then (SHy[o]? = some (6, 13) ∧ (K (I o 4) I P)) else (if x1 = 1 then (SHy[o]? = some (6, 13) ∧ (K (I o 5) I P)) else (if x1 = 2 then (SHy[o]? = some (6, 13) ∧ (K (I o 6) I P)) else (if x1 = 3 then (SHy[o]? = some (6, 13) ∧ (K (I o 11) I P)) else (if x1 = 4 then (SHy[o]? = some (6, 13) ∧ (K (I o 12) I P)) else (if x1 = 5 then (SHy[o]? = some (6, 13) ∧ (K (I o 7) I P)) else (if x1 = 6 then (SHy[o]? = some (6, 13) ∧ (K (I o 9) I P)) else (if x1 = 7 then (SHy[o]? = some (6, 13) ∧ (K (I o 10) I P)) else (if x1 = 8 then (SHy[o]? = some (6, 13) ∧ (K (I o 8) I P)) else (K (-2) I P)))))))))
theorem e_X6_tell {o : Nat} {x1 : Int32} {I : zI} {P : zP} {K : Int32 → zI → zP → Prop} (hP : PSt P) (h : w_X6_tell o x1 I P K) : Ev yX6_tell cX6_tell 2 (some .int) 0 0 0 0 [.ref o, .int x1] SHy I P (zKi K) := by
  refine Ev.start [.ref o, .int x1] pn_X6 rfl (Nat.le_of_ble_eq_true rfl) rfl (fun κ cx hE => ?_)
  unfold w_X6_tell at h
  refine g_iload_n cx dX6_tell_0 rfl ?_
  by_cases c1 : x1 = 0
  · have h := zifp c1 h
    refine g_tabIn cx (tgt := 52) (off := 51) dX6_tell_1 (by rw [c1]; decide) (by rw [c1]; decide) (by rw [c1]; rfl) rfl ?_
    refine g_aload_n cx dX6_tell_52 rfl ?_
    obtain ⟨hs2, h⟩ := h
    refine g_getI cx lk_X6_24 hs2 (Nat.le_of_ble_eq_true rfl) rfl dX6_tell_53 (x := (I o 4)) rfl ?_
    exact g_wi cx hE dX6_tell_56 rfl rfl hP h
  · have h := zifn c1 h
    by_cases c3 : x1 = 1
    · have h := zifp c3 h
      refine g_tabIn cx (tgt := 57) (off := 56) dX6_tell_1 (by rw [c3]; decide) (by rw [c3]; decide) (by rw [c3]; rfl) rfl ?_
      refine g_aload_n cx dX6_tell_57 rfl ?_
      obtain ⟨hs4, h⟩ := h
      refine g_getI cx lk_X6_28 hs4 (Nat.le_of_ble_eq_true rfl) rfl dX6_tell_58 (x := (I o 5)) rfl ?_
      exact g_wi cx hE dX6_tell_61 rfl rfl hP h
    · have h := zifn c3 h
      by_cases c5 : x1 = 2
      · have h := zifp c5 h
        refine g_tabIn cx (tgt := 62) (off := 61) dX6_tell_1 (by rw [c5]; decide) (by rw [c5]; decide) (by rw [c5]; rfl) rfl ?_
        refine g_aload_n cx dX6_tell_62 rfl ?_
        obtain ⟨hs6, h⟩ := h
        refine g_getI cx lk_X6_31 hs6 (Nat.le_of_ble_eq_true rfl) rfl dX6_tell_63 (x := (I o 6)) rfl ?_
        exact g_wi cx hE dX6_tell_66 rfl rfl hP h
      · have h := zifn c5 h
        by_cases c7 : x1 = 3
        · have h := zifp c7 h
          refine g_tabIn cx (tgt := 67) (off := 66) dX6_tell_1 (by rw [c7]; decide) (by rw [c7]; decide) (by rw [c7]; rfl) rfl ?_
          refine g_aload_n cx dX6_tell_67 rfl ?_
          obtain ⟨hs8, h⟩ := h
          refine g_getI cx lk_X6_46 hs8 (Nat.le_of_ble_eq_true rfl) rfl dX6_tell_68 (x := (I o 11)) rfl ?_
          exact g_wi cx hE dX6_tell_71 rfl rfl hP h
        · have h := zifn c7 h
          by_cases c9 : x1 = 4
          · have h := zifp c9 h
            refine g_tabIn cx (tgt := 72) (off := 71) dX6_tell_1 (by rw [c9]; decide) (by rw [c9]; decide) (by rw [c9]; rfl) rfl ?_
            refine g_aload_n cx dX6_tell_72 rfl ?_
            obtain ⟨hs10, h⟩ := h
            refine g_getI cx lk_X6_49 hs10 (Nat.le_of_ble_eq_true rfl) rfl dX6_tell_73 (x := (I o 12)) rfl ?_
            exact g_wi cx hE dX6_tell_76 rfl rfl hP h
          · have h := zifn c9 h
            by_cases c11 : x1 = 5
            · have h := zifp c11 h
              refine g_tabIn cx (tgt := 77) (off := 76) dX6_tell_1 (by rw [c11]; decide) (by rw [c11]; decide) (by rw [c11]; rfl) rfl ?_
              refine g_aload_n cx dX6_tell_77 rfl ?_
              obtain ⟨hs12, h⟩ := h
              refine g_getI cx lk_X6_34 hs12 (Nat.le_of_ble_eq_true rfl) rfl dX6_tell_78 (x := (I o 7)) rfl ?_
              exact g_wi cx hE dX6_tell_81 rfl rfl hP h
            · have h := zifn c11 h
              by_cases c13 : x1 = 6
              · have h := zifp c13 h
                refine g_tabIn cx (tgt := 82) (off := 81) dX6_tell_1 (by rw [c13]; decide) (by rw [c13]; decide) (by rw [c13]; rfl) rfl ?_
                refine g_aload_n cx dX6_tell_82 rfl ?_
                obtain ⟨hs14, h⟩ := h
                refine g_getI cx lk_X6_40 hs14 (Nat.le_of_ble_eq_true rfl) rfl dX6_tell_83 (x := (I o 9)) rfl ?_
                exact g_wi cx hE dX6_tell_86 rfl rfl hP h
              · have h := zifn c13 h
                by_cases c15 : x1 = 7
                · have h := zifp c15 h
                  refine g_tabIn cx (tgt := 87) (off := 86) dX6_tell_1 (by rw [c15]; decide) (by rw [c15]; decide) (by rw [c15]; rfl) rfl ?_
                  refine g_aload_n cx dX6_tell_87 rfl ?_
                  obtain ⟨hs16, h⟩ := h
                  refine g_getI cx lk_X6_43 hs16 (Nat.le_of_ble_eq_true rfl) rfl dX6_tell_88 (x := (I o 10)) rfl ?_
                  exact g_wi cx hE dX6_tell_91 rfl rfl hP h
                · have h := zifn c15 h
                  by_cases c17 : x1 = 8
                  · have h := zifp c17 h
                    refine g_tabIn cx (tgt := 92) (off := 91) dX6_tell_1 (by rw [c17]; decide) (by rw [c17]; decide) (by rw [c17]; rfl) rfl ?_
                    refine g_aload_n cx dX6_tell_92 rfl ?_
                    obtain ⟨hs18, h⟩ := h
                    refine g_getI cx lk_X6_37 hs18 (Nat.le_of_ble_eq_true rfl) rfl dX6_tell_93 (x := (I o 8)) rfl ?_
                    exact g_wi cx hE dX6_tell_96 rfl rfl hP h
                  · have h := zifn c17 h
                    refine g_tabOut cx (tgt := 97) dX6_tell_1 (by have q0 : (x1 : Int32).toInt ≠ 0 := i32ne c1; have q1 : (x1 : Int32).toInt ≠ 1 := i32ne c3; have q2 : (x1 : Int32).toInt ≠ 2 := i32ne c5; have q3 : (x1 : Int32).toInt ≠ 3 := i32ne c7; have q4 : (x1 : Int32).toInt ≠ 4 := i32ne c9; have q5 : (x1 : Int32).toInt ≠ 5 := i32ne c11; have q6 : (x1 : Int32).toInt ≠ 6 := i32ne c13; have q7 : (x1 : Int32).toInt ≠ 7 := i32ne c15; have q8 : (x1 : Int32).toInt ≠ 8 := i32ne c17; omega) rfl ?_
                    refine g_bipush cx dX6_tell_97 bp_m2 ?_
                    exact g_wi cx hE dX6_tell_99 rfl rfl hP h
def w_X7_aheadOp (x1 : Int32) (I : zI) (P : zP) (K : Int32 → zI → zP → Prop) : Prop := if x1 = 0 then (K 48 I P) else (if x1 = 1 then (K 55 I P) else (if x1 = 2 then (K 50 I P) else (if x1 = 3 then (K 51 I P) else (if x1 = 4 then (K 53 I P) else (if x1 = 5 then (K 55 I P) else (if x1 = 6 then (K 56 I P) else (K 55 I P)))))))
theorem e_X7_aheadOp {x1 : Int32} {I : zI} {P : zP} {K : Int32 → zI → zP → Prop} (hP : PSt P) (h : w_X7_aheadOp x1 I P K) : Ev yX7_aheadOp cX7_aheadOp 1 (some .int) 0 0 0 0 [.int x1] SHy I P (zKi K) := by
  refine Ev.start [.int x1] pn_X7 rfl (Nat.le_of_ble_eq_true rfl) rfl (fun κ cx hE => ?_)
  unfold w_X7_aheadOp at h
  refine g_iload_n cx dX7_aheadOp_0 rfl ?_
  by_cases c1 : x1 = 0
  · have h := zifp c1 h
    refine g_tabIn cx (tgt := 44) (off := 43) dX7_aheadOp_1 (by rw [c1]; decide) (by rw [c1]; decide) (by rw [c1]; rfl) rfl ?_
    refine g_bipush cx dX7_aheadOp_44 bp_48 ?_
    exact g_wi cx hE dX7_aheadOp_46 rfl rfl hP h
  · have h := zifn c1 h
    by_cases c2 : x1 = 1
    · have h := zifp c2 h
      refine g_tabIn cx (tgt := 59) (off := 58) dX7_aheadOp_1 (by rw [c2]; decide) (by rw [c2]; decide) (by rw [c2]; rfl) rfl ?_
      refine g_bipush cx dX7_aheadOp_59 bp_55 ?_
      exact g_wi cx hE dX7_aheadOp_61 rfl rfl hP h
    · have h := zifn c2 h
      by_cases c3 : x1 = 2
      · have h := zifp c3 h
        refine g_tabIn cx (tgt := 50) (off := 49) dX7_aheadOp_1 (by rw [c3]; decide) (by rw [c3]; decide) (by rw [c3]; rfl) rfl ?_
        refine g_bipush cx dX7_aheadOp_50 bp_50 ?_
        exact g_wi cx hE dX7_aheadOp_52 rfl rfl hP h
      · have h := zifn c3 h
        by_cases c4 : x1 = 3
        · have h := zifp c4 h
          refine g_tabIn cx (tgt := 53) (off := 52) dX7_aheadOp_1 (by rw [c4]; decide) (by rw [c4]; decide) (by rw [c4]; rfl) rfl ?_
          refine g_bipush cx dX7_aheadOp_53 bp_51 ?_
          exact g_wi cx hE dX7_aheadOp_55 rfl rfl hP h
        · have h := zifn c4 h
          by_cases c5 : x1 = 4
          · have h := zifp c5 h
            refine g_tabIn cx (tgt := 56) (off := 55) dX7_aheadOp_1 (by rw [c5]; decide) (by rw [c5]; decide) (by rw [c5]; rfl) rfl ?_
            refine g_bipush cx dX7_aheadOp_56 bp_53 ?_
            exact g_wi cx hE dX7_aheadOp_58 rfl rfl hP h
          · have h := zifn c5 h
            by_cases c6 : x1 = 5
            · have h := zifp c6 h
              refine g_tabIn cx (tgt := 59) (off := 58) dX7_aheadOp_1 (by rw [c6]; decide) (by rw [c6]; decide) (by rw [c6]; rfl) rfl ?_
              refine g_bipush cx dX7_aheadOp_59 bp_55 ?_
              exact g_wi cx hE dX7_aheadOp_61 rfl rfl hP h
            · have h := zifn c6 h
              by_cases c7 : x1 = 6
              · have h := zifp c7 h
                refine g_tabIn cx (tgt := 47) (off := 46) dX7_aheadOp_1 (by rw [c7]; decide) (by rw [c7]; decide) (by rw [c7]; rfl) rfl ?_
                refine g_bipush cx dX7_aheadOp_47 bp_56 ?_
                exact g_wi cx hE dX7_aheadOp_49 rfl rfl hP h
              · have h := zifn c7 h
                refine g_tabOut cx (tgt := 59) dX7_aheadOp_1 (by have q0 : (x1 : Int32).toInt ≠ 0 := i32ne c1; have q1 : (x1 : Int32).toInt ≠ 1 := i32ne c2; have q2 : (x1 : Int32).toInt ≠ 2 := i32ne c3; have q3 : (x1 : Int32).toInt ≠ 3 := i32ne c4; have q4 : (x1 : Int32).toInt ≠ 4 := i32ne c5; have q5 : (x1 : Int32).toInt ≠ 5 := i32ne c6; have q6 : (x1 : Int32).toInt ≠ 6 := i32ne c7; omega) rfl ?_
                refine g_bipush cx dX7_aheadOp_59 bp_55 ?_
                exact g_wi cx hE dX7_aheadOp_61 rfl rfl hP h
def w_X7_caughtAt (x1 : Nat) (x2 : Int32) (I : zI) (P : zP) (K : Int32 → zI → zP → Prop) : Prop := SHy[x1]? = some (3, 11) ∧ (∃ v2, P x1 5 = some v2 ∧ (w_X9_handlerPart v2 x2 2 I P (fun (v4 : Int32) (I4 : zI) (P4 : zP) => (w_X3_beginsAt x1 v4 I4 P4 (fun (v5 : Int32) (I5 : zI) (P5 : zP) => (if v5 = 0 then (K 0 I5 P5) else (vp_in v4 400 ∧ (K (I5 11 ((v4).toNatClampNeg)) I5 P5))))))))
theorem e_X7_caughtAt {x1 : Nat} {x2 : Int32} {I : zI} {P : zP} {K : Int32 → zI → zP → Prop} (hP : PSt P) (h : w_X7_caughtAt x1 x2 I P K) : Ev yX7_caughtAt cX7_caughtAt 4 (some .int) 1 23 0 0 [.ref 7, .ref x1, .int x2] SHy I P (zKi K) := by
  refine Ev.start [.ref 7, .ref x1, .int x2, .float 0] pn_X7 rfl (Nat.le_of_ble_eq_true rfl) rfl (fun κ cx hE => ?_)
  unfold w_X7_caughtAt at h
  refine g_aload_n cx dX7_caughtAt_0 rfl ?_
  obtain ⟨hs1, h⟩ := h
  obtain ⟨v2, hv3, h⟩ := h
  refine g_getR cx lk_X7_132 hs1 (Nat.le_of_ble_eq_true rfl) rfl dX7_caughtAt_1 hv3 ?_
  refine g_iload_n cx dX7_caughtAt_4 rfl ?_
  refine g_iconst cx dX7_caughtAt_5 ic_2 ?_
  refine g_wSi cx [.ref v2, .int x2, .int 2] [] (e_X9_handlerPart hP h) mt_X9_handlerPart ml_X7_135 dX7_caughtAt_6 rfl rfl (Nat.le_of_ble_eq_true rfl) (Nat.le_of_ble_eq_true rfl) (Nat.le_of_ble_eq_true rfl) (fun v4 I4 P4 hP h => ?_)
  refine g_istore_n cx dX7_caughtAt_9 (Nat.le_of_ble_eq_true rfl) (Gx.L [.ref 7, .ref x1, .int x2, .int v4] rfl ?_)
  refine g_aload_n cx dX7_caughtAt_10 rfl ?_
  refine g_iload_n cx dX7_caughtAt_11 rfl ?_
  refine g_wVi cx [.int v4] [] (e_X3_beginsAt hP h) mt_X3_beginsAt ml_X7_105 hs1 rfl rfl dX7_caughtAt_12 rfl rfl (Nat.le_of_ble_eq_true rfl) (Nat.le_of_ble_eq_true rfl) (Nat.le_of_ble_eq_true rfl) (fun v5 I5 P5 hP h => ?_)
  refine g_if_eq cx (tgt := 27) dX7_caughtAt_15 rfl (fun c6 => ?_) (fun c6 => ?_)
  · have h := zifp c6 h
    refine g_iconst cx dX7_caughtAt_27 ic_0 ?_
    exact g_wi cx hE dX7_caughtAt_28 rfl rfl hP h
  · have h := zifn c6 h
    refine g_aload_n cx dX7_caughtAt_18 rfl ?_
    refine g_getR cx lk_X7_21 rfl (Nat.le_of_ble_eq_true rfl) rfl dX7_caughtAt_19 (v := 11) (pst hP 8 rfl) ?_
    refine g_iload_n cx dX7_caughtAt_22 rfl ?_
    obtain ⟨hc7, h⟩ := h
    refine g_iald cx dX7_caughtAt_23 rfl hc7 (x := (I5 11 ((v4).toNatClampNeg))) rfl ?_
    refine g_goto cx (tgt := 28) dX7_caughtAt_24 rfl ?_
    exact g_wi cx hE dX7_caughtAt_28 rfl rfl hP h
def w_X7_countProbe (x1 : Int32) (x2 : Int32) (I : zI) (P : zP) (K : zI → zP → Prop) : Prop := if x1 = 0 then (vp_in x2 400 ∧ (vp_in x2 400 ∧ (K (zu I 8 ((x2).toNatClampNeg) ((I 8 ((x2).toNatClampNeg)) + 2)) P))) else (if x1 = 1 then (vp_in x2 400 ∧ (vp_in x2 400 ∧ (vp_in x2 400 ∧ (vp_in x2 400 ∧ (K (zu (zu I 9 ((x2).toNatClampNeg) ((I 9 ((x2).toNatClampNeg)) + 3)) 10 ((x2).toNatClampNeg) (((zu I 9 ((x2).toNatClampNeg) ((I 9 ((x2).toNatClampNeg)) + 3)) 10 ((x2).toNatClampNeg)) + 1)) P))))) else (if x1 = 2 then (K (zu I 7 11 ((I 7 11) + 1)) P) else (if x1 = 3 then (K (zu I 7 12 ((I 7 12) + 1)) P) else (if x1 = 4 then (vp_in x2 400 ∧ (vp_in x2 400 ∧ (vp_in x2 400 ∧ (vp_in x2 400 ∧ (K (zu (zu I 8 ((x2).toNatClampNeg) ((I 8 ((x2).toNatClampNeg)) + 2)) 9 ((x2).toNatClampNeg) (((zu I 8 ((x2).toNatClampNeg) ((I 8 ((x2).toNatClampNeg)) + 2)) 9 ((x2).toNatClampNeg)) + 2)) P))))) else (if x1 = 5 then (vp_in x2 400 ∧ (vp_in x2 400 ∧ (K (zu I 11 ((x2).toNatClampNeg) ((I 11 ((x2).toNatClampNeg)) + 1)) P))) else (if x1 = 6 then (vp_in x2 400 ∧ (vp_in x2 400 ∧ (K (zu I 8 ((x2).toNatClampNeg) ((I 8 ((x2).toNatClampNeg)) + 2)) P))) else (vp_in x2 400 ∧ (vp_in x2 400 ∧ (K (zu I 9 ((x2).toNatClampNeg) ((I 9 ((x2).toNatClampNeg)) + 2)) P)))))))))
theorem e_X7_countProbe {x1 : Int32} {x2 : Int32} {I : zI} {P : zP} {K : zI → zP → Prop} (hP : PSt P) (h : w_X7_countProbe x1 x2 I P K) : Ev yX7_countProbe cX7_countProbe 3 none 0 0 0 0 [.ref 7, .int x1, .int x2] SHy I P (zKv K) := by
  refine Ev.start [.ref 7, .int x1, .int x2] pn_X7 rfl (Nat.le_of_ble_eq_true rfl) rfl (fun κ cx hE => ?_)
  unfold w_X7_countProbe at h
  refine g_iload_n cx dX7_countProbe_0 rfl ?_
  by_cases c1 : x1 = 0
  · have h := zifp c1 h
    refine g_tabIn cx (tgt := 44) (off := 43) dX7_countProbe_1 (by rw [c1]; decide) (by rw [c1]; decide) (by rw [c1]; rfl) rfl ?_
    refine g_aload_n cx dX7_countProbe_44 rfl ?_
    refine g_getR cx lk_X7_9 rfl (Nat.le_of_ble_eq_true rfl) rfl dX7_countProbe_45 (v := 8) (pst hP 5 rfl) ?_
    refine g_iload_n cx dX7_countProbe_48 rfl ?_
    refine g_dup2 cx dX7_countProbe_49 rfl rfl ?_
    obtain ⟨hc2, h⟩ := h
    refine g_iald cx dX7_countProbe_50 rfl hc2 (x := (I 8 ((x2).toNatClampNeg))) rfl ?_
    refine g_iconst cx dX7_countProbe_51 ic_2 ?_
    refine g_iadd cx dX7_countProbe_52 ?_
    obtain ⟨hc3, h⟩ := h
    refine g_iast cx dX7_countProbe_53 rfl hc3 ?_
    refine g_goto cx (tgt := 152) dX7_countProbe_54 rfl ?_
    exact g_wv cx hE dX7_countProbe_152 rfl hP h
  · have h := zifn c1 h
    by_cases c4 : x1 = 1
    · have h := zifp c4 h
      refine g_tabIn cx (tgt := 57) (off := 56) dX7_countProbe_1 (by rw [c4]; decide) (by rw [c4]; decide) (by rw [c4]; rfl) rfl ?_
      refine g_aload_n cx dX7_countProbe_57 rfl ?_
      refine g_getR cx lk_X7_15 rfl (Nat.le_of_ble_eq_true rfl) rfl dX7_countProbe_58 (v := 9) (pst hP 6 rfl) ?_
      refine g_iload_n cx dX7_countProbe_61 rfl ?_
      refine g_dup2 cx dX7_countProbe_62 rfl rfl ?_
      obtain ⟨hc5, h⟩ := h
      refine g_iald cx dX7_countProbe_63 rfl hc5 (x := (I 9 ((x2).toNatClampNeg))) rfl ?_
      refine g_iconst cx dX7_countProbe_64 ic_3 ?_
      refine g_iadd cx dX7_countProbe_65 ?_
      obtain ⟨hc6, h⟩ := h
      refine g_iast cx dX7_countProbe_66 rfl hc6 ?_
      refine g_aload_n cx dX7_countProbe_67 rfl ?_
      refine g_getR cx lk_X7_18 rfl (Nat.le_of_ble_eq_true rfl) rfl dX7_countProbe_68 (v := 10) (pst hP 7 rfl) ?_
      refine g_iload_n cx dX7_countProbe_71 rfl ?_
      refine g_dup2 cx dX7_countProbe_72 rfl rfl ?_
      obtain ⟨hc7, h⟩ := h
      refine g_iald cx dX7_countProbe_73 rfl hc7 (x := ((zu I 9 ((x2).toNatClampNeg) ((I 9 ((x2).toNatClampNeg)) + 3)) 10 ((x2).toNatClampNeg))) rfl ?_
      refine g_iconst cx dX7_countProbe_74 ic_1 ?_
      refine g_iadd cx dX7_countProbe_75 ?_
      obtain ⟨hc8, h⟩ := h
      refine g_iast cx dX7_countProbe_76 rfl hc8 ?_
      refine g_goto cx (tgt := 152) dX7_countProbe_77 rfl ?_
      exact g_wv cx hE dX7_countProbe_152 rfl hP h
    · have h := zifn c4 h
      by_cases c9 : x1 = 2
      · have h := zifp c9 h
        refine g_tabIn cx (tgt := 80) (off := 79) dX7_countProbe_1 (by rw [c9]; decide) (by rw [c9]; decide) (by rw [c9]; rfl) rfl ?_
        refine g_aload_n cx dX7_countProbe_80 rfl ?_
        refine g_dup cx dX7_countProbe_81 rfl ?_
        refine g_getI cx lk_X7_46 rfl (Nat.le_of_ble_eq_true rfl) rfl dX7_countProbe_82 (x := (I 7 11)) rfl ?_
        refine g_iconst cx dX7_countProbe_85 ic_1 ?_
        refine g_iadd cx dX7_countProbe_86 ?_
        refine g_pI cx lk_X7_46 rfl (Nat.le_of_ble_eq_true rfl) rfl dX7_countProbe_87 fi_7_11 rfl rfl ?_
        refine g_goto cx (tgt := 152) dX7_countProbe_90 rfl ?_
        exact g_wv cx hE dX7_countProbe_152 rfl hP h
      · have h := zifn c9 h
        by_cases c10 : x1 = 3
        · have h := zifp c10 h
          refine g_tabIn cx (tgt := 93) (off := 92) dX7_countProbe_1 (by rw [c10]; decide) (by rw [c10]; decide) (by rw [c10]; rfl) rfl ?_
          refine g_aload_n cx dX7_countProbe_93 rfl ?_
          refine g_dup cx dX7_countProbe_94 rfl ?_
          refine g_getI cx lk_X7_50 rfl (Nat.le_of_ble_eq_true rfl) rfl dX7_countProbe_95 (x := (I 7 12)) rfl ?_
          refine g_iconst cx dX7_countProbe_98 ic_1 ?_
          refine g_iadd cx dX7_countProbe_99 ?_
          refine g_pI cx lk_X7_50 rfl (Nat.le_of_ble_eq_true rfl) rfl dX7_countProbe_100 fi_7_12 rfl rfl ?_
          refine g_goto cx (tgt := 152) dX7_countProbe_103 rfl ?_
          exact g_wv cx hE dX7_countProbe_152 rfl hP h
        · have h := zifn c10 h
          by_cases c11 : x1 = 4
          · have h := zifp c11 h
            refine g_tabIn cx (tgt := 106) (off := 105) dX7_countProbe_1 (by rw [c11]; decide) (by rw [c11]; decide) (by rw [c11]; rfl) rfl ?_
            refine g_aload_n cx dX7_countProbe_106 rfl ?_
            refine g_getR cx lk_X7_9 rfl (Nat.le_of_ble_eq_true rfl) rfl dX7_countProbe_107 (v := 8) (pst hP 5 rfl) ?_
            refine g_iload_n cx dX7_countProbe_110 rfl ?_
            refine g_dup2 cx dX7_countProbe_111 rfl rfl ?_
            obtain ⟨hc12, h⟩ := h
            refine g_iald cx dX7_countProbe_112 rfl hc12 (x := (I 8 ((x2).toNatClampNeg))) rfl ?_
            refine g_iconst cx dX7_countProbe_113 ic_2 ?_
            refine g_iadd cx dX7_countProbe_114 ?_
            obtain ⟨hc13, h⟩ := h
            refine g_iast cx dX7_countProbe_115 rfl hc13 ?_
            refine g_aload_n cx dX7_countProbe_116 rfl ?_
            refine g_getR cx lk_X7_15 rfl (Nat.le_of_ble_eq_true rfl) rfl dX7_countProbe_117 (v := 9) (pst hP 6 rfl) ?_
            refine g_iload_n cx dX7_countProbe_120 rfl ?_
            refine g_dup2 cx dX7_countProbe_121 rfl rfl ?_
            obtain ⟨hc14, h⟩ := h
            refine g_iald cx dX7_countProbe_122 rfl hc14 (x := ((zu I 8 ((x2).toNatClampNeg) ((I 8 ((x2).toNatClampNeg)) + 2)) 9 ((x2).toNatClampNeg))) rfl ?_
            refine g_iconst cx dX7_countProbe_123 ic_2 ?_
            refine g_iadd cx dX7_countProbe_124 ?_
            obtain ⟨hc15, h⟩ := h
            refine g_iast cx dX7_countProbe_125 rfl hc15 ?_
            refine g_goto cx (tgt := 152) dX7_countProbe_126 rfl ?_
            exact g_wv cx hE dX7_countProbe_152 rfl hP h
          · have h := zifn c11 h
            by_cases c16 : x1 = 5
            · have h := zifp c16 h
              refine g_tabIn cx (tgt := 129) (off := 128) dX7_countProbe_1 (by rw [c16]; decide) (by rw [c16]; decide) (by rw [c16]; rfl) rfl ?_
              refine g_aload_n cx dX7_countProbe_129 rfl ?_
              refine g_getR cx lk_X7_21 rfl (Nat.le_of_ble_eq_true rfl) rfl dX7_countProbe_130 (v := 11) (pst hP 8 rfl) ?_
              refine g_iload_n cx dX7_countProbe_133 rfl ?_
              refine g_dup2 cx dX7_countProbe_134 rfl rfl ?_
              obtain ⟨hc17, h⟩ := h
              refine g_iald cx dX7_countProbe_135 rfl hc17 (x := (I 11 ((x2).toNatClampNeg))) rfl ?_
              refine g_iconst cx dX7_countProbe_136 ic_1 ?_
              refine g_iadd cx dX7_countProbe_137 ?_
              obtain ⟨hc18, h⟩ := h
              refine g_iast cx dX7_countProbe_138 rfl hc18 ?_
              refine g_goto cx (tgt := 152) dX7_countProbe_139 rfl ?_
              exact g_wv cx hE dX7_countProbe_152 rfl hP h
            · have h := zifn c16 h
              by_cases c19 : x1 = 6
              · have h := zifp c19 h
                refine g_tabIn cx (tgt := 44) (off := 43) dX7_countProbe_1 (by rw [c19]; decide) (by rw [c19]; decide) (by rw [c19]; rfl) rfl ?_
                refine g_aload_n cx dX7_countProbe_44 rfl ?_
                refine g_getR cx lk_X7_9 rfl (Nat.le_of_ble_eq_true rfl) rfl dX7_countProbe_45 (v := 8) (pst hP 5 rfl) ?_
                refine g_iload_n cx dX7_countProbe_48 rfl ?_
                refine g_dup2 cx dX7_countProbe_49 rfl rfl ?_
                obtain ⟨hc20, h⟩ := h
                refine g_iald cx dX7_countProbe_50 rfl hc20 (x := (I 8 ((x2).toNatClampNeg))) rfl ?_
                refine g_iconst cx dX7_countProbe_51 ic_2 ?_
                refine g_iadd cx dX7_countProbe_52 ?_
                obtain ⟨hc21, h⟩ := h
                refine g_iast cx dX7_countProbe_53 rfl hc21 ?_
                refine g_goto cx (tgt := 152) dX7_countProbe_54 rfl ?_
                exact g_wv cx hE dX7_countProbe_152 rfl hP h
              · have h := zifn c19 h
                refine g_tabOut cx (tgt := 142) dX7_countProbe_1 (by have q0 : (x1 : Int32).toInt ≠ 0 := i32ne c1; have q1 : (x1 : Int32).toInt ≠ 1 := i32ne c4; have q2 : (x1 : Int32).toInt ≠ 2 := i32ne c9; have q3 : (x1 : Int32).toInt ≠ 3 := i32ne c10; have q4 : (x1 : Int32).toInt ≠ 4 := i32ne c11; have q5 : (x1 : Int32).toInt ≠ 5 := i32ne c16; have q6 : (x1 : Int32).toInt ≠ 6 := i32ne c19; omega) rfl ?_
                refine g_aload_n cx dX7_countProbe_142 rfl ?_
                refine g_getR cx lk_X7_15 rfl (Nat.le_of_ble_eq_true rfl) rfl dX7_countProbe_143 (v := 9) (pst hP 6 rfl) ?_
                refine g_iload_n cx dX7_countProbe_146 rfl ?_
                refine g_dup2 cx dX7_countProbe_147 rfl rfl ?_
                obtain ⟨hc22, h⟩ := h
                refine g_iald cx dX7_countProbe_148 rfl hc22 (x := (I 9 ((x2).toNatClampNeg))) rfl ?_
                refine g_iconst cx dX7_countProbe_149 ic_2 ?_
                refine g_iadd cx dX7_countProbe_150 ?_
                obtain ⟨hc23, h⟩ := h
                refine g_iast cx dX7_countProbe_151 rfl hc23 ?_
                exact g_wv cx hE dX7_countProbe_152 rfl hP h
def l_X7_countProbes_66 (K : zI → zP → Prop) : Nat → Nat → Int32 → zI → zP → Prop
  | 0, _, _, _, _ => False
  | n + 1, y1, y3, I, P => SHy[y1]? = some (3, 11) ∧ (if (I y1 9) ≤ y3 then (K I P) else (w_X3_beginsAt y1 y3 I P (fun (v3 : Int32) (I3 : zI) (P3 : zP) => (if v3 = 0 then ((l_X7_countProbes_66 K n) y1 (y3 + 1) I3 P3) else (∃ v5, P3 y1 1 = some v5 ∧ (SHy[v5]? = some (11, (zlen v5)) ∧ (vp_in y3 (zlen v5) ∧ (if (I3 v5 ((y3).toNatClampNeg)) = 42 then (vp_in y3 400 ∧ (vp_in y3 400 ∧ ((l_X7_countProbes_66 K n) y1 (y3 + 1) (zu I3 8 ((y3).toNatClampNeg) ((I3 8 ((y3).toNatClampNeg)) + (2 * (I3 7 12)))) P3))) else ((l_X7_countProbes_66 K n) y1 (y3 + 1) I3 P3)))))))))
theorem gl_X7_countProbes_66 {κ : zX} (cx : Cx yX7_countProbes cX7_countProbes 5 none 1 22 κ) {K : zI → zP → Prop} (hE : zEnd (zKv K) 0 0 κ) : ∀ (n : Nat) (y1 : Nat) (y3 : Int32) (I : zI) (P : zP), PSt P → l_X7_countProbes_66 K n y1 y3 I P → Gx κ 66 [.ref 7, .ref y1, .float 0, .int y3, .float 0] [] SHy I P 0 0 := by
  intro n
  induction n with
  | zero =>
    intro y1 y3 I P hP h
    rw [l_X7_countProbes_66] at h
    exact False.elim h
  | succ n ih =>
    intro y1 y3 I P hP h
    rw [l_X7_countProbes_66] at h
    refine g_iload_n cx dX7_countProbes_66 rfl ?_
    refine g_aload_n cx dX7_countProbes_67 rfl ?_
    obtain ⟨hs1, h⟩ := h
    refine g_getI cx lk_X7_116 hs1 (Nat.le_of_ble_eq_true rfl) rfl dX7_countProbes_68 (x := (I y1 9)) rfl ?_
    refine g_icmp_ge cx (tgt := 114) dX7_countProbes_71 rfl (fun c2 => ?_) (fun c2 => ?_)
    · have h := zifp c2 h
      exact g_wv cx hE dX7_countProbes_114 rfl hP h
    · have h := zifn c2 h
      refine g_aload_n cx dX7_countProbes_74 rfl ?_
      refine g_iload_n cx dX7_countProbes_75 rfl ?_
      refine g_wVi cx [.int y3] [] (e_X3_beginsAt hP h) mt_X3_beginsAt ml_X7_105 hs1 rfl rfl dX7_countProbes_76 rfl rfl (Nat.le_of_ble_eq_true rfl) (Nat.le_of_ble_eq_true rfl) (Nat.le_of_ble_eq_true rfl) (fun v3 I3 P3 hP h => ?_)
      refine g_if_eq cx (tgt := 108) dX7_countProbes_79 rfl (fun c4 => ?_) (fun c4 => ?_)
      · have h := zifp c4 h
        refine g_iinc cx (v := (y3 + 1)) dX7_countProbes_108 rfl rfl (Nat.le_of_ble_eq_true rfl) (Gx.L [.ref 7, .ref y1, .float 0, .int (y3 + 1), .float 0] rfl ?_)
        refine g_goto cx (tgt := 66) dX7_countProbes_111 rfl ?_
        exact ih _ _ _ _ hP h
      · have h := zifn c4 h
        refine g_aload_n cx dX7_countProbes_82 rfl ?_
        obtain ⟨v5, hv6, h⟩ := h
        refine g_getR cx lk_X7_119 hs1 (Nat.le_of_ble_eq_true rfl) rfl dX7_countProbes_83 hv6 ?_
        refine g_iload_n cx dX7_countProbes_86 rfl ?_
        obtain ⟨hs7, h⟩ := h
        obtain ⟨hc8, h⟩ := h
        refine g_iald cx dX7_countProbes_87 hs7 hc8 (x := (I3 v5 ((y3).toNatClampNeg))) rfl ?_
        refine g_bipush cx dX7_countProbes_88 bp_42 ?_
        refine g_icmp_ne cx (tgt := 108) dX7_countProbes_90 rfl (fun c9 => ?_) (fun c9 => ?_)
        · have h := zifn c9 h
          refine g_iinc cx (v := (y3 + 1)) dX7_countProbes_108 rfl rfl (Nat.le_of_ble_eq_true rfl) (Gx.L [.ref 7, .ref y1, .float 0, .int (y3 + 1), .float 0] rfl ?_)
          refine g_goto cx (tgt := 66) dX7_countProbes_111 rfl ?_
          exact ih _ _ _ _ hP h
        · have h := zifp c9 h
          refine g_aload_n cx dX7_countProbes_93 rfl ?_
          refine g_getR cx lk_X7_9 rfl (Nat.le_of_ble_eq_true rfl) rfl dX7_countProbes_94 (v := 8) (pst hP 5 rfl) ?_
          refine g_iload_n cx dX7_countProbes_97 rfl ?_
          refine g_dup2 cx dX7_countProbes_98 rfl rfl ?_
          obtain ⟨hc10, h⟩ := h
          refine g_iald cx dX7_countProbes_99 rfl hc10 (x := (I3 8 ((y3).toNatClampNeg))) rfl ?_
          refine g_iconst cx dX7_countProbes_100 ic_2 ?_
          refine g_aload_n cx dX7_countProbes_101 rfl ?_
          refine g_getI cx lk_X7_50 rfl (Nat.le_of_ble_eq_true rfl) rfl dX7_countProbes_102 (x := (I3 7 12)) rfl ?_
          refine g_imul cx dX7_countProbes_105 ?_
          refine g_iadd cx dX7_countProbes_106 ?_
          obtain ⟨hc11, h⟩ := h
          refine g_iast cx dX7_countProbes_107 rfl hc11 ?_
          refine g_iinc cx (v := (y3 + 1)) dX7_countProbes_108 rfl rfl (Nat.le_of_ble_eq_true rfl) (Gx.L [.ref 7, .ref y1, .float 0, .int (y3 + 1), .float 0] rfl ?_)
          refine g_goto cx (tgt := 66) dX7_countProbes_111 rfl ?_
          exact ih _ _ _ _ hP h
def l_X7_countProbes_2 (K : zI → zP → Prop) : Nat → Nat → Int32 → zI → zP → Prop
  | 0, _, _, _, _ => False
  | n + 1, y1, y3, I, P => if (I 108 5) ≤ y3 then (∃ n9, l_X7_countProbes_66 K n9 y1 0 I P) else (if 24 ≤ y3 then (∃ n9, l_X7_countProbes_66 K n9 y1 0 I P) else (vp_in y3 24 ∧ (vp_in y3 24 ∧ (SHy[y1]? = some (3, 11) ∧ (if (I 110 ((y3).toNatClampNeg)) = (I y1 0) then (w_X3_beginsAt y1 (I 111 ((y3).toNatClampNeg)) I P (fun (v7 : Int32) (I7 : zI) (P7 : zP) => (if v7 = 0 then ((l_X7_countProbes_2 K n) y1 (y3 + 1) I7 P7) else (vp_in y3 24 ∧ (w_X7_countProbe (I7 109 ((y3).toNatClampNeg)) (I 111 ((y3).toNatClampNeg)) I7 P7 (fun (I10 : zI) (P10 : zP) => ((l_X7_countProbes_2 K n) y1 (y3 + 1) I10 P10))))))) else ((l_X7_countProbes_2 K n) y1 (y3 + 1) I P))))))
theorem gl_X7_countProbes_2 {κ : zX} (cx : Cx yX7_countProbes cX7_countProbes 5 none 1 22 κ) {K : zI → zP → Prop} (hE : zEnd (zKv K) 0 0 κ) : ∀ (n : Nat) (y1 : Nat) (y3 : Int32) (I : zI) (P : zP), PSt P → l_X7_countProbes_2 K n y1 y3 I P → Gx κ 2 [.ref 7, .ref y1, .ref 108, .int y3, .float 0] [] SHy I P 0 0 := by
  intro n
  induction n with
  | zero =>
    intro y1 y3 I P hP h
    rw [l_X7_countProbes_2] at h
    exact False.elim h
  | succ n ih =>
    intro y1 y3 I P hP h
    rw [l_X7_countProbes_2] at h
    refine g_iload_n cx dX7_countProbes_2 rfl ?_
    refine g_aload_n cx dX7_countProbes_3 rfl ?_
    refine g_getI cx lk_X7_89 rfl (Nat.le_of_ble_eq_true rfl) rfl dX7_countProbes_4 (x := (I 108 5)) rfl ?_
    refine g_icmp_ge cx (tgt := 64) dX7_countProbes_7 rfl (fun c1 => ?_) (fun c1 => ?_)
    · have h := zifp c1 h
      refine g_iconst cx dX7_countProbes_64 ic_0 ?_
      refine g_istore_n cx dX7_countProbes_65 (Nat.le_of_ble_eq_true rfl) (Gx.L [.ref 7, .ref y1, .ref 108, .int 0, .float 0] rfl ?_)
      refine (Gx.unset 2 (Gx.L [.ref 7, .ref y1, .float 0, .int 0, .float 0] rfl ?_))
      obtain ⟨n9, h⟩ := h
      exact gl_X7_countProbes_66 cx hE n9 _ _ _ _ hP h
    · have h := zifn c1 h
      refine g_iload_n cx dX7_countProbes_10 rfl ?_
      refine g_bipush cx dX7_countProbes_11 bp_24 ?_
      refine g_icmp_ge cx (tgt := 64) dX7_countProbes_13 rfl (fun c2 => ?_) (fun c2 => ?_)
      · have h := zifp c2 h
        refine g_iconst cx dX7_countProbes_64 ic_0 ?_
        refine g_istore_n cx dX7_countProbes_65 (Nat.le_of_ble_eq_true rfl) (Gx.L [.ref 7, .ref y1, .ref 108, .int 0, .float 0] rfl ?_)
        refine (Gx.unset 2 (Gx.L [.ref 7, .ref y1, .float 0, .int 0, .float 0] rfl ?_))
        obtain ⟨n9, h⟩ := h
        exact gl_X7_countProbes_66 cx hE n9 _ _ _ _ hP h
      · have h := zifn c2 h
        refine g_aload_n cx dX7_countProbes_16 rfl ?_
        refine g_getR cx lk_X7_94 rfl (Nat.le_of_ble_eq_true rfl) rfl dX7_countProbes_17 (v := 111) (pst hP 106 rfl) ?_
        refine g_iload_n cx dX7_countProbes_20 rfl ?_
        obtain ⟨hc3, h⟩ := h
        refine g_iald cx dX7_countProbes_21 rfl hc3 (x := (I 111 ((y3).toNatClampNeg))) rfl ?_
        refine g_istore cx dX7_countProbes_22 (Nat.le_of_ble_eq_true rfl) (Gx.L [.ref 7, .ref y1, .ref 108, .int y3, .int (I 111 ((y3).toNatClampNeg))] rfl ?_)
        refine g_aload_n cx dX7_countProbes_24 rfl ?_
        refine g_getR cx lk_X7_97 rfl (Nat.le_of_ble_eq_true rfl) rfl dX7_countProbes_25 (v := 110) (pst hP 105 rfl) ?_
        refine g_iload_n cx dX7_countProbes_28 rfl ?_
        obtain ⟨hc4, h⟩ := h
        refine g_iald cx dX7_countProbes_29 rfl hc4 (x := (I 110 ((y3).toNatClampNeg))) rfl ?_
        refine g_aload_n cx dX7_countProbes_30 rfl ?_
        obtain ⟨hs5, h⟩ := h
        refine g_getI cx lk_X7_100 hs5 (Nat.le_of_ble_eq_true rfl) rfl dX7_countProbes_31 (x := (I y1 0)) rfl ?_
        refine g_icmp_ne cx (tgt := 58) dX7_countProbes_34 rfl (fun c6 => ?_) (fun c6 => ?_)
        · have h := zifn c6 h
          refine g_iinc cx (v := (y3 + 1)) dX7_countProbes_58 rfl rfl (Nat.le_of_ble_eq_true rfl) (Gx.L [.ref 7, .ref y1, .ref 108, .int (y3 + 1), .int (I 111 ((y3).toNatClampNeg))] rfl ?_)
          refine g_goto cx (tgt := 2) dX7_countProbes_61 rfl ?_
          refine (Gx.unset 4 (Gx.L [.ref 7, .ref y1, .ref 108, .int (y3 + 1), .float 0] rfl ?_))
          exact ih _ _ _ _ hP h
        · have h := zifp c6 h
          refine g_aload_n cx dX7_countProbes_37 rfl ?_
          refine g_iload cx dX7_countProbes_38 rfl ?_
          refine g_wVi cx [.int (I 111 ((y3).toNatClampNeg))] [] (e_X3_beginsAt hP h) mt_X3_beginsAt ml_X7_105 hs5 rfl rfl dX7_countProbes_40 rfl rfl (Nat.le_of_ble_eq_true rfl) (Nat.le_of_ble_eq_true rfl) (Nat.le_of_ble_eq_true rfl) (fun v7 I7 P7 hP h => ?_)
          refine g_if_eq cx (tgt := 58) dX7_countProbes_43 rfl (fun c8 => ?_) (fun c8 => ?_)
          · have h := zifp c8 h
            refine g_iinc cx (v := (y3 + 1)) dX7_countProbes_58 rfl rfl (Nat.le_of_ble_eq_true rfl) (Gx.L [.ref 7, .ref y1, .ref 108, .int (y3 + 1), .int (I 111 ((y3).toNatClampNeg))] rfl ?_)
            refine g_goto cx (tgt := 2) dX7_countProbes_61 rfl ?_
            refine (Gx.unset 4 (Gx.L [.ref 7, .ref y1, .ref 108, .int (y3 + 1), .float 0] rfl ?_))
            exact ih _ _ _ _ hP h
          · have h := zifn c8 h
            refine g_aload_n cx dX7_countProbes_46 rfl ?_
            refine g_aload_n cx dX7_countProbes_47 rfl ?_
            refine g_getR cx lk_X7_109 rfl (Nat.le_of_ble_eq_true rfl) rfl dX7_countProbes_48 (v := 109) (pst hP 104 rfl) ?_
            refine g_iload_n cx dX7_countProbes_51 rfl ?_
            obtain ⟨hc9, h⟩ := h
            refine g_iald cx dX7_countProbes_52 rfl hc9 (x := (I7 109 ((y3).toNatClampNeg))) rfl ?_
            refine g_iload cx dX7_countProbes_53 rfl ?_
            refine g_wVv cx [.int (I7 109 ((y3).toNatClampNeg)), .int (I 111 ((y3).toNatClampNeg))] [] (e_X7_countProbe hP h) mt_X7_countProbe ml_X7_112 rfl rfl rfl dX7_countProbes_55 rfl rfl (Nat.le_of_ble_eq_true rfl) (Nat.le_of_ble_eq_true rfl) (Nat.le_of_ble_eq_true rfl) (fun I10 P10 hP h => ?_)
            refine g_iinc cx (v := (y3 + 1)) dX7_countProbes_58 rfl rfl (Nat.le_of_ble_eq_true rfl) (Gx.L [.ref 7, .ref y1, .ref 108, .int (y3 + 1), .int (I 111 ((y3).toNatClampNeg))] rfl ?_)
            refine g_goto cx (tgt := 2) dX7_countProbes_61 rfl ?_
            refine (Gx.unset 4 (Gx.L [.ref 7, .ref y1, .ref 108, .int (y3 + 1), .float 0] rfl ?_))
            exact ih _ _ _ _ hP h
def w_X7_countProbes (x1 : Nat) (I : zI) (P : zP) (K : zI → zP → Prop) : Prop := ∃ n9, l_X7_countProbes_2 K n9 x1 0 I P
theorem e_X7_countProbes {x1 : Nat} {I : zI} {P : zP} {K : zI → zP → Prop} (hP : PSt P) (h : w_X7_countProbes x1 I P K) : Ev yX7_countProbes cX7_countProbes 5 none 1 22 0 0 [.ref 7, .ref x1, .ref 108] SHy I P (zKv K) := by
  refine Ev.start [.ref 7, .ref x1, .ref 108, .float 0, .float 0] pn_X7 rfl (Nat.le_of_ble_eq_true rfl) rfl (fun κ cx hE => ?_)
  unfold w_X7_countProbes at h
  refine g_iconst cx dX7_countProbes_0 ic_0 ?_
  refine g_istore_n cx dX7_countProbes_1 (Nat.le_of_ble_eq_true rfl) (Gx.L [.ref 7, .ref x1, .ref 108, .int 0, .float 0] rfl ?_)
  obtain ⟨n9, h⟩ := h
  exact gl_X7_countProbes_2 cx hE n9 _ _ _ _ hP h
def w_X7_groupAt (x1 : Int32) (I : zI) (P : zP) (K : Int32 → zI → zP → Prop) : Prop := if x1 < 0 then (K 0 I P) else (if 400 < x1 then (K 0 I P) else (vp_in x1 401 ∧ (K (I 12 ((x1).toNatClampNeg)) I P)))
theorem e_X7_groupAt {x1 : Int32} {I : zI} {P : zP} {K : Int32 → zI → zP → Prop} (hP : PSt P) (h : w_X7_groupAt x1 I P K) : Ev yX7_groupAt cX7_groupAt 2 (some .int) 0 0 0 0 [.ref 7, .int x1] SHy I P (zKi K) := by
  refine Ev.start [.ref 7, .int x1] pn_X7 rfl (Nat.le_of_ble_eq_true rfl) rfl (fun κ cx hE => ?_)
  unfold w_X7_groupAt at h
  refine g_iload_n cx dX7_groupAt_0 rfl ?_
  refine g_if_lt cx (tgt := 20) dX7_groupAt_1 rfl (fun c1 => ?_) (fun c1 => ?_)
  · have h := zifp c1 h
    refine g_iconst cx dX7_groupAt_20 ic_0 ?_
    exact g_wi cx hE dX7_groupAt_21 rfl rfl hP h
  · have h := zifn c1 h
    refine g_iload_n cx dX7_groupAt_4 rfl ?_
    refine g_sipush cx dX7_groupAt_5 sp_400 ?_
    refine g_icmp_gt cx (tgt := 20) dX7_groupAt_8 rfl (fun c2 => ?_) (fun c2 => ?_)
    · have h := zifp c2 h
      refine g_iconst cx dX7_groupAt_20 ic_0 ?_
      exact g_wi cx hE dX7_groupAt_21 rfl rfl hP h
    · have h := zifn c2 h
      refine g_aload_n cx dX7_groupAt_11 rfl ?_
      refine g_getR cx lk_X7_24 rfl (Nat.le_of_ble_eq_true rfl) rfl dX7_groupAt_12 (v := 12) (pst hP 9 rfl) ?_
      refine g_iload_n cx dX7_groupAt_15 rfl ?_
      obtain ⟨hc3, h⟩ := h
      refine g_iald cx dX7_groupAt_16 rfl hc3 (x := (I 12 ((x1).toNatClampNeg))) rfl ?_
      refine g_goto cx (tgt := 21) dX7_groupAt_17 rfl ?_
      exact g_wi cx hE dX7_groupAt_21 rfl rfl hP h
def w_X7_reaches (x1 : Int32) (x2 : Int32) (I : zI) (P : zP) (K : Int32 → zI → zP → Prop) : Prop := if (x2 - x1) < (-128) then (K 0 I P) else (if 127 < (x2 - x1) then (K 0 I P) else (K 1 I P))
theorem e_X7_reaches {x1 : Int32} {x2 : Int32} {I : zI} {P : zP} {K : Int32 → zI → zP → Prop} (hP : PSt P) (h : w_X7_reaches x1 x2 I P K) : Ev yX7_reaches cX7_reaches 2 (some .boolean) 0 0 0 0 [.int x1, .int x2] SHy I P (zKi K) := by
  refine Ev.start [.int x1, .int x2] pn_X7 rfl (Nat.le_of_ble_eq_true rfl) rfl (fun κ cx hE => ?_)
  unfold w_X7_reaches at h
  refine g_iload_n cx dX7_reaches_0 rfl ?_
  refine g_iload_n cx dX7_reaches_1 rfl ?_
  refine g_isub cx dX7_reaches_2 ?_
  refine g_bipush cx dX7_reaches_3 bp_m128 ?_
  refine g_icmp_lt cx (tgt := 20) dX7_reaches_5 rfl (fun c1 => ?_) (fun c1 => ?_)
  · have h := zifp c1 h
    refine g_iconst cx dX7_reaches_20 ic_0 ?_
    exact g_wi cx hE dX7_reaches_21 rfl rfl hP h
  · have h := zifn c1 h
    refine g_iload_n cx dX7_reaches_8 rfl ?_
    refine g_iload_n cx dX7_reaches_9 rfl ?_
    refine g_isub cx dX7_reaches_10 ?_
    refine g_bipush cx dX7_reaches_11 bp_127 ?_
    refine g_icmp_gt cx (tgt := 20) dX7_reaches_13 rfl (fun c2 => ?_) (fun c2 => ?_)
    · have h := zifp c2 h
      refine g_iconst cx dX7_reaches_20 ic_0 ?_
      exact g_wi cx hE dX7_reaches_21 rfl rfl hP h
    · have h := zifn c2 h
      refine g_iconst cx dX7_reaches_16 ic_1 ?_
      refine g_goto cx (tgt := 21) dX7_reaches_17 rfl ?_
      exact g_wi cx hE dX7_reaches_21 rfl rfl hP h
