def w_X1_putInLine (x1 : Int32) (I : zI) (P : zP) (K : zI → zP → Prop) : Prop := vp_in x1 400 ∧ (if (I 6 ((x1).toNatClampNeg)) = 0 then (if (I 4 2) < 0 then (K I P) else (if 400 ≤ (I 4 2) then (K I P) else (vp_in x1 400 ∧ (vp_in ((zu I 6 ((x1).toNatClampNeg) (vp_nar .boolean 1)) 4 2) 400 ∧ (K (zu (zu (zu I 6 ((x1).toNatClampNeg) (vp_nar .boolean 1)) 5 ((((zu I 6 ((x1).toNatClampNeg) (vp_nar .boolean 1)) 4 2)).toNatClampNeg) x1) 4 2 (((zu (zu I 6 ((x1).toNatClampNeg) (vp_nar .boolean 1)) 5 ((((zu I 6 ((x1).toNatClampNeg) (vp_nar .boolean 1)) 4 2)).toNatClampNeg) x1) 4 2) + 1)) P))))) else (K I P))
theorem e_X1_putInLine {x1 : Int32} {I : zI} {P : zP} {K : zI → zP → Prop} (hP : PSt P) (h : w_X1_putInLine x1 I P K) : Ev yX1_putInLine cX1_putInLine 2 none 0 0 0 0 [.ref 4, .int x1] SHy I P (zKv K) := by
  refine Ev.start [.ref 4, .int x1] pn_X1 rfl (Nat.le_of_ble_eq_true rfl) rfl (fun κ cx hE => ?_)
  unfold w_X1_putInLine at h
  refine g_aload_n cx dX1_putInLine_0 rfl ?_
  refine g_getR cx lk_X1_15 rfl (Nat.le_of_ble_eq_true rfl) rfl dX1_putInLine_1 (v := 6) (pst hP 3 rfl) ?_
  refine g_iload_n cx dX1_putInLine_4 rfl ?_
  obtain ⟨hc1, h⟩ := h
  refine g_bald cx dX1_putInLine_5 rfl hc1 (x := (I 6 ((x1).toNatClampNeg))) rfl ?_
  refine g_if_ne cx (tgt := 53) dX1_putInLine_6 rfl (fun c2 => ?_) (fun c2 => ?_)
  · have h := zifn c2 h
    exact g_wv cx hE dX1_putInLine_53 rfl hP h
  · have h := zifp c2 h
    refine g_aload_n cx dX1_putInLine_9 rfl ?_
    refine g_getI cx lk_X1_19 rfl (Nat.le_of_ble_eq_true rfl) rfl dX1_putInLine_10 (x := (I 4 2)) rfl ?_
    refine g_if_lt cx (tgt := 53) dX1_putInLine_13 rfl (fun c3 => ?_) (fun c3 => ?_)
    · have h := zifp c3 h
      exact g_wv cx hE dX1_putInLine_53 rfl hP h
    · have h := zifn c3 h
      refine g_aload_n cx dX1_putInLine_16 rfl ?_
      refine g_getI cx lk_X1_19 rfl (Nat.le_of_ble_eq_true rfl) rfl dX1_putInLine_17 (x := (I 4 2)) rfl ?_
      refine g_sipush cx dX1_putInLine_20 sp_400 ?_
      refine g_icmp_ge cx (tgt := 53) dX1_putInLine_23 rfl (fun c4 => ?_) (fun c4 => ?_)
      · have h := zifp c4 h
        exact g_wv cx hE dX1_putInLine_53 rfl hP h
      · have h := zifn c4 h
        refine g_aload_n cx dX1_putInLine_26 rfl ?_
        refine g_getR cx lk_X1_15 rfl (Nat.le_of_ble_eq_true rfl) rfl dX1_putInLine_27 (v := 6) (pst hP 3 rfl) ?_
        refine g_iload_n cx dX1_putInLine_30 rfl ?_
        refine g_iconst cx dX1_putInLine_31 ic_1 ?_
        obtain ⟨hc5, h⟩ := h
        refine g_bast cx dX1_putInLine_32 rfl hc5 ?_
        refine g_aload_n cx dX1_putInLine_33 rfl ?_
        refine g_getR cx lk_X1_9 rfl (Nat.le_of_ble_eq_true rfl) rfl dX1_putInLine_34 (v := 5) (pst hP 2 rfl) ?_
        refine g_aload_n cx dX1_putInLine_37 rfl ?_
        refine g_getI cx lk_X1_19 rfl (Nat.le_of_ble_eq_true rfl) rfl dX1_putInLine_38 (x := ((zu I 6 ((x1).toNatClampNeg) (vp_nar .boolean 1)) 4 2)) rfl ?_
        refine g_iload_n cx dX1_putInLine_41 rfl ?_
        obtain ⟨hc6, h⟩ := h
        refine g_iast cx dX1_putInLine_42 rfl hc6 ?_
        refine g_aload_n cx dX1_putInLine_43 rfl ?_
        refine g_dup cx dX1_putInLine_44 rfl ?_
        refine g_getI cx lk_X1_19 rfl (Nat.le_of_ble_eq_true rfl) rfl dX1_putInLine_45 (x := ((zu (zu I 6 ((x1).toNatClampNeg) (vp_nar .boolean 1)) 5 ((((zu I 6 ((x1).toNatClampNeg) (vp_nar .boolean 1)) 4 2)).toNatClampNeg) x1) 4 2)) rfl ?_
        refine g_iconst cx dX1_putInLine_48 ic_1 ?_
        refine g_iadd cx dX1_putInLine_49 ?_
        refine g_pI cx lk_X1_19 rfl (Nat.le_of_ble_eq_true rfl) rfl dX1_putInLine_50 fi_1_2 rfl rfl ?_
        exact g_wv cx hE dX1_putInLine_53 rfl hP h
def w_X3_beginsAt (o : Nat) (x1 : Int32) (I : zI) (P : zP) (K : Int32 → zI → zP → Prop) : Prop := if x1 < 0 then (K 0 I P) else (SHy[o]? = some (3, 11) ∧ (if (I o 9) ≤ x1 then (K 0 I P) else (if 400 ≤ x1 then (K 0 I P) else (∃ v5, P o 2 = some v5 ∧ (SHy[v5]? = some (11, (zlen v5)) ∧ (vp_in x1 (zlen v5) ∧ (if (I v5 ((x1).toNatClampNeg)) ≤ 0 then (K 0 I P) else (K 1 I P))))))))
theorem e_X3_beginsAt {o : Nat} {x1 : Int32} {I : zI} {P : zP} {K : Int32 → zI → zP → Prop} (hP : PSt P) (h : w_X3_beginsAt o x1 I P K) : Ev yX3_beginsAt cX3_beginsAt 2 (some .boolean) 0 0 0 0 [.ref o, .int x1] SHy I P (zKi K) := by
  refine Ev.start [.ref o, .int x1] pn_X3 rfl (Nat.le_of_ble_eq_true rfl) rfl (fun κ cx hE => ?_)
  unfold w_X3_beginsAt at h
  refine g_iload_n cx dX3_beginsAt_0 rfl ?_
  refine g_if_lt cx (tgt := 32) dX3_beginsAt_1 rfl (fun c1 => ?_) (fun c1 => ?_)
  · have h := zifp c1 h
    refine g_iconst cx dX3_beginsAt_32 ic_0 ?_
    exact g_wi cx hE dX3_beginsAt_33 rfl rfl hP h
  · have h := zifn c1 h
    refine g_iload_n cx dX3_beginsAt_4 rfl ?_
    refine g_aload_n cx dX3_beginsAt_5 rfl ?_
    obtain ⟨hs2, h⟩ := h
    refine g_getI cx lk_X3_41 hs2 (Nat.le_of_ble_eq_true rfl) rfl dX3_beginsAt_6 (x := (I o 9)) rfl ?_
    refine g_icmp_ge cx (tgt := 32) dX3_beginsAt_9 rfl (fun c3 => ?_) (fun c3 => ?_)
    · have h := zifp c3 h
      refine g_iconst cx dX3_beginsAt_32 ic_0 ?_
      exact g_wi cx hE dX3_beginsAt_33 rfl rfl hP h
    · have h := zifn c3 h
      refine g_iload_n cx dX3_beginsAt_12 rfl ?_
      refine g_sipush cx dX3_beginsAt_13 sp_400 ?_
      refine g_icmp_ge cx (tgt := 32) dX3_beginsAt_16 rfl (fun c4 => ?_) (fun c4 => ?_)
      · have h := zifp c4 h
        refine g_iconst cx dX3_beginsAt_32 ic_0 ?_
        exact g_wi cx hE dX3_beginsAt_33 rfl rfl hP h
      · have h := zifn c4 h
        refine g_aload_n cx dX3_beginsAt_19 rfl ?_
        obtain ⟨v5, hv6, h⟩ := h
        refine g_getR cx lk_X3_15 hs2 (Nat.le_of_ble_eq_true rfl) rfl dX3_beginsAt_20 hv6 ?_
        refine g_iload_n cx dX3_beginsAt_23 rfl ?_
        obtain ⟨hs7, h⟩ := h
        obtain ⟨hc8, h⟩ := h
        refine g_iald cx dX3_beginsAt_24 hs7 hc8 (x := (I v5 ((x1).toNatClampNeg))) rfl ?_
        refine g_if_le cx (tgt := 32) dX3_beginsAt_25 rfl (fun c9 => ?_) (fun c9 => ?_)
        · have h := zifp c9 h
          refine g_iconst cx dX3_beginsAt_32 ic_0 ?_
          exact g_wi cx hE dX3_beginsAt_33 rfl rfl hP h
        · have h := zifn c9 h
          refine g_iconst cx dX3_beginsAt_28 ic_1 ?_
          refine g_goto cx (tgt := 33) dX3_beginsAt_29 rfl ?_
          exact g_wi cx hE dX3_beginsAt_33 rfl rfl hP h
def w_X1_comeTo (x1 : Nat) (x2 : Int32) (x3 : Int32) (x4 : Int32) (I : zI) (P : zP) (K : zI → zP → Prop) : Prop := SHy[x1]? = some (3, 11) ∧ (w_X3_beginsAt x1 x2 I P (fun (v2 : Int32) (I2 : zI) (P2 : zP) => (if v2 = 0 then (K (zu I2 4 5 1) P2) else (∃ v4, P2 x1 3 = some v4 ∧ (SHy[v4]? = some (11, (zlen v4)) ∧ (vp_in x2 (zlen v4) ∧ (if (I2 v4 ((x2).toNatClampNeg)) = (-1) then (∃ v32, P2 x1 3 = some v32 ∧ (SHy[v32]? = some (11, (zlen v32)) ∧ (vp_in x2 (zlen v32) ∧ (∃ v36, P2 x1 4 = some v36 ∧ (SHy[v36]? = some (11, (zlen v36)) ∧ (vp_in x2 (zlen v36) ∧ (w_X1_putInLine x2 (zu (zu I2 v32 ((x2).toNatClampNeg) x3) v36 ((x2).toNatClampNeg) x4) P2 (fun (I40 : zI) (P40 : zP) => (K I40 P40))))))))) else (∃ v9, P2 x1 3 = some v9 ∧ (SHy[v9]? = some (11, (zlen v9)) ∧ (vp_in x2 (zlen v9) ∧ (if (I2 v9 ((x2).toNatClampNeg)) = x3 then (∃ v14, P2 x1 4 = some v14 ∧ (SHy[v14]? = some (11, (zlen v14)) ∧ (vp_in x2 (zlen v14) ∧ (∃ v18, P2 x1 4 = some v18 ∧ (SHy[v18]? = some (11, (zlen v18)) ∧ (vp_in x2 (zlen v18) ∧ (∃ v22, P2 x1 4 = some v22 ∧ (SHy[v22]? = some (11, (zlen v22)) ∧ (vp_in x2 (zlen v22) ∧ (if ((I2 v18 ((x2).toNatClampNeg)) &&& ((((((I2 v14 ((x2).toNatClampNeg)) ^^^ x4) ||| ((((I2 v14 ((x2).toNatClampNeg)) ^^^ x4) : Int32) >>> ((1 : Int32) &&& 31))) &&& 5592405) ||| ((((((I2 v14 ((x2).toNatClampNeg)) ^^^ x4) ||| ((((I2 v14 ((x2).toNatClampNeg)) ^^^ x4) : Int32) >>> ((1 : Int32) &&& 31))) &&& 5592405) : Int32) <<< ((1 : Int32) &&& 31))) ^^^ (-1))) = (I2 v22 ((x2).toNatClampNeg)) then (K I2 P2) else (∃ v27, P2 x1 4 = some v27 ∧ (SHy[v27]? = some (11, (zlen v27)) ∧ (vp_in x2 (zlen v27) ∧ (w_X1_putInLine x2 (zu I2 v27 ((x2).toNatClampNeg) ((I2 v18 ((x2).toNatClampNeg)) &&& ((((((I2 v14 ((x2).toNatClampNeg)) ^^^ x4) ||| ((((I2 v14 ((x2).toNatClampNeg)) ^^^ x4) : Int32) >>> ((1 : Int32) &&& 31))) &&& 5592405) ||| ((((((I2 v14 ((x2).toNatClampNeg)) ^^^ x4) ||| ((((I2 v14 ((x2).toNatClampNeg)) ^^^ x4) : Int32) >>> ((1 : Int32) &&& 31))) &&& 5592405) : Int32) <<< ((1 : Int32) &&& 31))) ^^^ (-1)))) P2 (fun (I31 : zI) (P31 : zP) => (K I31 P31)))))))))))))))) else (K (zu I2 4 5 1) P2))))))))))))
theorem e_X1_comeTo {x1 : Nat} {x2 : Int32} {x3 : Int32} {x4 : Int32} {I : zI} {P : zP} {K : zI → zP → Prop} (hP : PSt P) (h : w_X1_comeTo x1 x2 x3 x4 I P K) : Ev yX1_comeTo cX1_comeTo 8 none 1 21 0 0 [.ref 4, .ref x1, .int x2, .int x3, .int x4] SHy I P (zKv K) := by
  refine Ev.start [.ref 4, .ref x1, .int x2, .int x3, .int x4, .float 0, .float 0, .float 0] pn_X1 rfl (Nat.le_of_ble_eq_true rfl) rfl (fun κ cx hE => ?_)
  unfold w_X1_comeTo at h
  refine g_aload_n cx dX1_comeTo_0 rfl ?_
  refine g_iload_n cx dX1_comeTo_1 rfl ?_
  obtain ⟨hs1, h⟩ := h
  refine g_wVi cx [.int x2] [] (e_X3_beginsAt hP h) mt_X3_beginsAt ml_X1_98 hs1 rfl rfl dX1_comeTo_2 rfl rfl (Nat.le_of_ble_eq_true rfl) (Nat.le_of_ble_eq_true rfl) (Nat.le_of_ble_eq_true rfl) (fun v2 I2 P2 hP h => ?_)
  refine g_if_ne cx (tgt := 14) dX1_comeTo_5 rfl (fun c3 => ?_) (fun c3 => ?_)
  · have h := zifn c3 h
    refine g_aload_n cx dX1_comeTo_14 rfl ?_
    obtain ⟨v4, hv5, h⟩ := h
    refine g_getR cx lk_X1_33 hs1 (Nat.le_of_ble_eq_true rfl) rfl dX1_comeTo_15 hv5 ?_
    refine g_iload_n cx dX1_comeTo_18 rfl ?_
    obtain ⟨hs6, h⟩ := h
    obtain ⟨hc7, h⟩ := h
    refine g_iald cx dX1_comeTo_19 hs6 hc7 (x := (I2 v4 ((x2).toNatClampNeg))) rfl ?_
    refine g_iconst cx dX1_comeTo_20 ic_m1 ?_
    refine g_icmp_ne cx (tgt := 45) dX1_comeTo_21 rfl (fun c8 => ?_) (fun c8 => ?_)
    · have h := zifn c8 h
      refine g_aload_n cx dX1_comeTo_45 rfl ?_
      obtain ⟨v9, hv10, h⟩ := h
      refine g_getR cx lk_X1_33 hs1 (Nat.le_of_ble_eq_true rfl) rfl dX1_comeTo_46 hv10 ?_
      refine g_iload_n cx dX1_comeTo_49 rfl ?_
      obtain ⟨hs11, h⟩ := h
      obtain ⟨hc12, h⟩ := h
      refine g_iald cx dX1_comeTo_50 hs11 hc12 (x := (I2 v9 ((x2).toNatClampNeg))) rfl ?_
      refine g_iload_n cx dX1_comeTo_51 rfl ?_
      refine g_icmp_eq cx (tgt := 61) dX1_comeTo_52 rfl (fun c13 => ?_) (fun c13 => ?_)
      · have h := zifp c13 h
        refine g_aload_n cx dX1_comeTo_61 rfl ?_
        obtain ⟨v14, hv15, h⟩ := h
        refine g_getR cx lk_X1_44 hs1 (Nat.le_of_ble_eq_true rfl) rfl dX1_comeTo_62 hv15 ?_
        refine g_iload_n cx dX1_comeTo_65 rfl ?_
        obtain ⟨hs16, h⟩ := h
        obtain ⟨hc17, h⟩ := h
        refine g_iald cx dX1_comeTo_66 hs16 hc17 (x := (I2 v14 ((x2).toNatClampNeg))) rfl ?_
        refine g_iload cx dX1_comeTo_67 rfl ?_
        refine g_ixor cx dX1_comeTo_69 ?_
        refine g_istore cx dX1_comeTo_70 (Nat.le_of_ble_eq_true rfl) (Gx.L [.ref 4, .ref x1, .int x2, .int x3, .int x4, .int ((I2 v14 ((x2).toNatClampNeg)) ^^^ x4), .float 0, .float 0] rfl ?_)
        refine g_iload cx dX1_comeTo_72 rfl ?_
        refine g_iload cx dX1_comeTo_74 rfl ?_
        refine g_iconst cx dX1_comeTo_76 ic_1 ?_
        refine g_ishr cx dX1_comeTo_77 ?_
        refine g_ior cx dX1_comeTo_78 ?_
        refine g_ldc cx dX1_comeTo_79 ldc_X1_47 ?_
        refine g_iand cx dX1_comeTo_81 ?_
        refine g_istore cx dX1_comeTo_82 (Nat.le_of_ble_eq_true rfl) (Gx.L [.ref 4, .ref x1, .int x2, .int x3, .int x4, .int ((I2 v14 ((x2).toNatClampNeg)) ^^^ x4), .int ((((I2 v14 ((x2).toNatClampNeg)) ^^^ x4) ||| ((((I2 v14 ((x2).toNatClampNeg)) ^^^ x4) : Int32) >>> ((1 : Int32) &&& 31))) &&& 5592405), .float 0] rfl ?_)
        refine g_aload_n cx dX1_comeTo_84 rfl ?_
        obtain ⟨v18, hv19, h⟩ := h
        refine g_getR cx lk_X1_44 hs1 (Nat.le_of_ble_eq_true rfl) rfl dX1_comeTo_85 hv19 ?_
        refine g_iload_n cx dX1_comeTo_88 rfl ?_
        obtain ⟨hs20, h⟩ := h
        obtain ⟨hc21, h⟩ := h
        refine g_iald cx dX1_comeTo_89 hs20 hc21 (x := (I2 v18 ((x2).toNatClampNeg))) rfl ?_
        refine g_iload cx dX1_comeTo_90 rfl ?_
        refine g_iload cx dX1_comeTo_92 rfl ?_
        refine g_iconst cx dX1_comeTo_94 ic_1 ?_
        refine g_ishl cx dX1_comeTo_95 ?_
        refine g_ior cx dX1_comeTo_96 ?_
        refine Gx.N 97 rfl ?_
        refine g_iconst cx dX1_comeTo_97 ic_m1 ?_
        refine g_ixor cx dX1_comeTo_98 ?_
        refine g_iand cx dX1_comeTo_99 ?_
        refine g_istore cx dX1_comeTo_100 (Nat.le_of_ble_eq_true rfl) (Gx.L [.ref 4, .ref x1, .int x2, .int x3, .int x4, .int ((I2 v14 ((x2).toNatClampNeg)) ^^^ x4), .int ((((I2 v14 ((x2).toNatClampNeg)) ^^^ x4) ||| ((((I2 v14 ((x2).toNatClampNeg)) ^^^ x4) : Int32) >>> ((1 : Int32) &&& 31))) &&& 5592405), .int ((I2 v18 ((x2).toNatClampNeg)) &&& ((((((I2 v14 ((x2).toNatClampNeg)) ^^^ x4) ||| ((((I2 v14 ((x2).toNatClampNeg)) ^^^ x4) : Int32) >>> ((1 : Int32) &&& 31))) &&& 5592405) ||| ((((((I2 v14 ((x2).toNatClampNeg)) ^^^ x4) ||| ((((I2 v14 ((x2).toNatClampNeg)) ^^^ x4) : Int32) >>> ((1 : Int32) &&& 31))) &&& 5592405) : Int32) <<< ((1 : Int32) &&& 31))) ^^^ (-1)))] rfl ?_)
        refine g_iload cx dX1_comeTo_102 rfl ?_
        refine g_aload_n cx dX1_comeTo_104 rfl ?_
        obtain ⟨v22, hv23, h⟩ := h
        refine g_getR cx lk_X1_44 hs1 (Nat.le_of_ble_eq_true rfl) rfl dX1_comeTo_105 hv23 ?_
        refine g_iload_n cx dX1_comeTo_108 rfl ?_
        obtain ⟨hs24, h⟩ := h
        obtain ⟨hc25, h⟩ := h
        refine g_iald cx dX1_comeTo_109 hs24 hc25 (x := (I2 v22 ((x2).toNatClampNeg))) rfl ?_
        refine g_icmp_eq cx (tgt := 126) dX1_comeTo_110 rfl (fun c26 => ?_) (fun c26 => ?_)
        · have h := zifp c26 h
          exact g_wv cx hE dX1_comeTo_126 rfl hP h
        · have h := zifn c26 h
          refine g_aload_n cx dX1_comeTo_113 rfl ?_
          obtain ⟨v27, hv28, h⟩ := h
          refine g_getR cx lk_X1_44 hs1 (Nat.le_of_ble_eq_true rfl) rfl dX1_comeTo_114 hv28 ?_
          refine g_iload_n cx dX1_comeTo_117 rfl ?_
          refine g_iload cx dX1_comeTo_118 rfl ?_
          obtain ⟨hs29, h⟩ := h
          obtain ⟨hc30, h⟩ := h
          refine g_iast cx dX1_comeTo_120 hs29 hc30 ?_
          refine g_aload_n cx dX1_comeTo_121 rfl ?_
          refine g_iload_n cx dX1_comeTo_122 rfl ?_
          refine g_wVv cx [.int x2] [] (e_X1_putInLine hP h) mt_X1_putInLine ml_X1_101 rfl rfl rfl dX1_comeTo_123 rfl rfl (Nat.le_of_ble_eq_true rfl) (Nat.le_of_ble_eq_true rfl) (Nat.le_of_ble_eq_true rfl) (fun I31 P31 hP h => ?_)
          exact g_wv cx hE dX1_comeTo_126 rfl hP h
      · have h := zifn c13 h
        refine g_aload_n cx dX1_comeTo_55 rfl ?_
        refine g_iconst cx dX1_comeTo_56 ic_1 ?_
        refine g_pI cx lk_X1_29 rfl (Nat.le_of_ble_eq_true rfl) rfl dX1_comeTo_57 fi_1_5 rfl rfl ?_
        exact g_wv cx hE dX1_comeTo_60 rfl hP h
    · have h := zifp c8 h
      refine g_aload_n cx dX1_comeTo_24 rfl ?_
      obtain ⟨v32, hv33, h⟩ := h
      refine g_getR cx lk_X1_33 hs1 (Nat.le_of_ble_eq_true rfl) rfl dX1_comeTo_25 hv33 ?_
      refine g_iload_n cx dX1_comeTo_28 rfl ?_
      refine g_iload_n cx dX1_comeTo_29 rfl ?_
      obtain ⟨hs34, h⟩ := h
      obtain ⟨hc35, h⟩ := h
      refine g_iast cx dX1_comeTo_30 hs34 hc35 ?_
      refine g_aload_n cx dX1_comeTo_31 rfl ?_
      obtain ⟨v36, hv37, h⟩ := h
      refine g_getR cx lk_X1_44 hs1 (Nat.le_of_ble_eq_true rfl) rfl dX1_comeTo_32 hv37 ?_
      refine g_iload_n cx dX1_comeTo_35 rfl ?_
      refine g_iload cx dX1_comeTo_36 rfl ?_
      obtain ⟨hs38, h⟩ := h
      obtain ⟨hc39, h⟩ := h
      refine g_iast cx dX1_comeTo_38 hs38 hc39 ?_
      refine g_aload_n cx dX1_comeTo_39 rfl ?_
      refine g_iload_n cx dX1_comeTo_40 rfl ?_
      refine g_wVv cx [.int x2] [] (e_X1_putInLine hP h) mt_X1_putInLine ml_X1_101 rfl rfl rfl dX1_comeTo_41 rfl rfl (Nat.le_of_ble_eq_true rfl) (Nat.le_of_ble_eq_true rfl) (Nat.le_of_ble_eq_true rfl) (fun I40 P40 hP h => ?_)
      exact g_wv cx hE dX1_comeTo_44 rfl hP h
  · have h := zifp c3 h
    refine g_aload_n cx dX1_comeTo_8 rfl ?_
    refine g_iconst cx dX1_comeTo_9 ic_1 ?_
    refine g_pI cx lk_X1_29 rfl (Nat.le_of_ble_eq_true rfl) rfl dX1_comeTo_10 fi_1_5 rfl rfl ?_
    exact g_wv cx hE dX1_comeTo_13 rfl hP h
def w_X1_put (x1 : Int32) (I : zI) (P : zP) (K : zI → zP → Prop) : Prop := if (((I 4 3) : Int32) >>> ((20 : Int32) &&& 31)) < 10 then (K (zu I 4 3 ((((((((I 4 3) : Int32) >>> ((20 : Int32) &&& 31)) + 1) : Int32) <<< ((20 : Int32) &&& 31)) ||| ((I 4 3) &&& 1048575)) ||| ((x1 : Int32) <<< (((2 * (((I 4 3) : Int32) >>> ((20 : Int32) &&& 31))) : Int32) &&& 31)))) P) else (K (zu I 4 5 1) P)
theorem e_X1_put {x1 : Int32} {I : zI} {P : zP} {K : zI → zP → Prop} (hP : PSt P) (h : w_X1_put x1 I P K) : Ev yX1_put cX1_put 3 none 0 0 0 0 [.ref 4, .int x1] SHy I P (zKv K) := by
  refine Ev.start [.ref 4, .int x1, .float 0] pn_X1 rfl (Nat.le_of_ble_eq_true rfl) rfl (fun κ cx hE => ?_)
  unfold w_X1_put at h
  refine g_aload_n cx dX1_put_0 rfl ?_
  refine g_getI cx lk_X1_23 rfl (Nat.le_of_ble_eq_true rfl) rfl dX1_put_1 (x := (I 4 3)) rfl ?_
  refine g_bipush cx dX1_put_4 bp_20 ?_
  refine g_ishr cx dX1_put_6 ?_
  refine g_istore_n cx dX1_put_7 (Nat.le_of_ble_eq_true rfl) (Gx.L [.ref 4, .int x1, .int (((I 4 3) : Int32) >>> ((20 : Int32) &&& 31))] rfl ?_)
  refine g_iload_n cx dX1_put_8 rfl ?_
  refine g_bipush cx dX1_put_9 bp_10 ?_
  refine g_icmp_lt cx (tgt := 20) dX1_put_11 rfl (fun c1 => ?_) (fun c1 => ?_)
  · have h := zifp c1 h
    refine g_aload_n cx dX1_put_20 rfl ?_
    refine g_iload_n cx dX1_put_21 rfl ?_
    refine g_iconst cx dX1_put_22 ic_1 ?_
    refine g_iadd cx dX1_put_23 ?_
    refine g_bipush cx dX1_put_24 bp_20 ?_
    refine g_ishl cx dX1_put_26 ?_
    refine g_aload_n cx dX1_put_27 rfl ?_
    refine g_getI cx lk_X1_23 rfl (Nat.le_of_ble_eq_true rfl) rfl dX1_put_28 (x := (I 4 3)) rfl ?_
    refine g_ldc cx dX1_put_31 ldc_X1_137 ?_
    refine g_iand cx dX1_put_33 ?_
    refine g_ior cx dX1_put_34 ?_
    refine g_iload_n cx dX1_put_35 rfl ?_
    refine g_iconst cx dX1_put_36 ic_2 ?_
    refine g_iload_n cx dX1_put_37 rfl ?_
    refine g_imul cx dX1_put_38 ?_
    refine g_ishl cx dX1_put_39 ?_
    refine g_ior cx dX1_put_40 ?_
    refine g_pI cx lk_X1_23 rfl (Nat.le_of_ble_eq_true rfl) rfl dX1_put_41 fi_1_3 rfl rfl ?_
    exact g_wv cx hE dX1_put_44 rfl hP h
  · have h := zifn c1 h
    refine g_aload_n cx dX1_put_14 rfl ?_
    refine g_iconst cx dX1_put_15 ic_1 ?_
    refine g_pI cx lk_X1_29 rfl (Nat.le_of_ble_eq_true rfl) rfl dX1_put_16 fi_1_5 rfl rfl ?_
    exact g_wv cx hE dX1_put_19 rfl hP h
def w_X1_takeAny (I : zI) (P : zP) (K : Int32 → zI → zP → Prop) : Prop := if 1 ≤ (((I 4 3) : Int32) >>> ((20 : Int32) &&& 31)) then (K ((((I 4 3) : Int32) >>> (((2 * ((((I 4 3) : Int32) >>> ((20 : Int32) &&& 31)) - 1)) : Int32) &&& 31)) &&& 3) (zu I 4 3 (((((((I 4 3) : Int32) >>> ((20 : Int32) &&& 31)) - 1) : Int32) <<< ((20 : Int32) &&& 31)) ||| ((I 4 3) &&& (((1 : Int32) <<< (((2 * ((((I 4 3) : Int32) >>> ((20 : Int32) &&& 31)) - 1)) : Int32) &&& 31)) - 1)))) P) else (K 0 (zu I 4 5 1) P)
theorem e_X1_takeAny {I : zI} {P : zP} {K : Int32 → zI → zP → Prop} (hP : PSt P) (h : w_X1_takeAny I P K) : Ev yX1_takeAny cX1_takeAny 4 (some .int) 0 0 0 0 [.ref 4] SHy I P (zKi K) := by
  refine Ev.start [.ref 4, .float 0, .float 0, .float 0] pn_X1 rfl (Nat.le_of_ble_eq_true rfl) rfl (fun κ cx hE => ?_)
  unfold w_X1_takeAny at h
  refine g_aload_n cx dX1_takeAny_0 rfl ?_
  refine g_getI cx lk_X1_23 rfl (Nat.le_of_ble_eq_true rfl) rfl dX1_takeAny_1 (x := (I 4 3)) rfl ?_
  refine g_bipush cx dX1_takeAny_4 bp_20 ?_
  refine g_ishr cx dX1_takeAny_6 ?_
  refine g_istore_n cx dX1_takeAny_7 (Nat.le_of_ble_eq_true rfl) (Gx.L [.ref 4, .int (((I 4 3) : Int32) >>> ((20 : Int32) &&& 31)), .float 0, .float 0] rfl ?_)
  refine g_iload_n cx dX1_takeAny_8 rfl ?_
  refine g_iconst cx dX1_takeAny_9 ic_1 ?_
  refine g_icmp_ge cx (tgt := 20) dX1_takeAny_10 rfl (fun c1 => ?_) (fun c1 => ?_)
  · have h := zifp c1 h
    refine g_aload_n cx dX1_takeAny_20 rfl ?_
    refine g_getI cx lk_X1_23 rfl (Nat.le_of_ble_eq_true rfl) rfl dX1_takeAny_21 (x := (I 4 3)) rfl ?_
    refine g_iconst cx dX1_takeAny_24 ic_2 ?_
    refine g_iload_n cx dX1_takeAny_25 rfl ?_
    refine g_iconst cx dX1_takeAny_26 ic_1 ?_
    refine g_isub cx dX1_takeAny_27 ?_
    refine g_imul cx dX1_takeAny_28 ?_
    refine g_ishr cx dX1_takeAny_29 ?_
    refine g_iconst cx dX1_takeAny_30 ic_3 ?_
    refine g_iand cx dX1_takeAny_31 ?_
    refine g_istore_n cx dX1_takeAny_32 (Nat.le_of_ble_eq_true rfl) (Gx.L [.ref 4, .int (((I 4 3) : Int32) >>> ((20 : Int32) &&& 31)), .int ((((I 4 3) : Int32) >>> (((2 * ((((I 4 3) : Int32) >>> ((20 : Int32) &&& 31)) - 1)) : Int32) &&& 31)) &&& 3), .float 0] rfl ?_)
    refine g_aload_n cx dX1_takeAny_33 rfl ?_
    refine g_getI cx lk_X1_23 rfl (Nat.le_of_ble_eq_true rfl) rfl dX1_takeAny_34 (x := (I 4 3)) rfl ?_
    refine g_iconst cx dX1_takeAny_37 ic_1 ?_
    refine g_iconst cx dX1_takeAny_38 ic_2 ?_
    refine g_iload_n cx dX1_takeAny_39 rfl ?_
    refine g_iconst cx dX1_takeAny_40 ic_1 ?_
    refine g_isub cx dX1_takeAny_41 ?_
    refine g_imul cx dX1_takeAny_42 ?_
    refine g_ishl cx dX1_takeAny_43 ?_
    refine g_iconst cx dX1_takeAny_44 ic_1 ?_
    refine g_isub cx dX1_takeAny_45 ?_
    refine g_iand cx dX1_takeAny_46 ?_
    refine g_istore_n cx dX1_takeAny_47 (Nat.le_of_ble_eq_true rfl) (Gx.L [.ref 4, .int (((I 4 3) : Int32) >>> ((20 : Int32) &&& 31)), .int ((((I 4 3) : Int32) >>> (((2 * ((((I 4 3) : Int32) >>> ((20 : Int32) &&& 31)) - 1)) : Int32) &&& 31)) &&& 3), .int ((I 4 3) &&& (((1 : Int32) <<< (((2 * ((((I 4 3) : Int32) >>> ((20 : Int32) &&& 31)) - 1)) : Int32) &&& 31)) - 1))] rfl ?_)
    refine Gx.N 48 rfl ?_
    refine g_aload_n cx dX1_takeAny_48 rfl ?_
    refine g_iload_n cx dX1_takeAny_49 rfl ?_
    refine g_iconst cx dX1_takeAny_50 ic_1 ?_
    refine g_isub cx dX1_takeAny_51 ?_
    refine g_bipush cx dX1_takeAny_52 bp_20 ?_
    refine g_ishl cx dX1_takeAny_54 ?_
    refine g_iload_n cx dX1_takeAny_55 rfl ?_
    refine g_ior cx dX1_takeAny_56 ?_
    refine g_pI cx lk_X1_23 rfl (Nat.le_of_ble_eq_true rfl) rfl dX1_takeAny_57 fi_1_3 rfl rfl ?_
    refine g_iload_n cx dX1_takeAny_60 rfl ?_
    exact g_wi cx hE dX1_takeAny_61 rfl rfl hP h
  · have h := zifn c1 h
    refine g_aload_n cx dX1_takeAny_13 rfl ?_
    refine g_iconst cx dX1_takeAny_14 ic_1 ?_
    refine g_pI cx lk_X1_29 rfl (Nat.le_of_ble_eq_true rfl) rfl dX1_takeAny_15 fi_1_5 rfl rfl ?_
    refine g_iconst cx dX1_takeAny_18 ic_0 ?_
    exact g_wi cx hE dX1_takeAny_19 rfl rfl hP h
def j_X1_doTyped_100 (K : zI → zP → Prop) (y1 : Int32) (I : zI) (P : zP) : Prop := if y1 = 36 then (w_X1_put 2 I P (fun (I5 : zI) (P5 : zP) => (K I5 P5))) else (vp_in y1 44 ∧ (if (zT2 y1) ≤ 0 then (K I P) else (w_X1_put 1 I P (fun (I4 : zI) (P4 : zP) => (K I4 P4)))))
theorem gj_X1_doTyped_100 {κ : zX} (cx : Cx yX1_doTyped cX1_doTyped 3 none 1 23 κ) {K : zI → zP → Prop} (hE : zEnd (zKv K) 0 0 κ) {y1 : Int32} {I : zI} {P : zP} (hP : PSt P) (h : j_X1_doTyped_100 K y1 I P) : Gx κ 100 [.ref 4, .int y1, .float 0] [] SHy I P 0 0 := by
  unfold j_X1_doTyped_100 at h
  refine g_iload_n cx dX1_doTyped_100 rfl ?_
  refine g_bipush cx dX1_doTyped_101 bp_36 ?_
  refine g_icmp_ne cx (tgt := 114) dX1_doTyped_103 rfl (fun c1 => ?_) (fun c1 => ?_)
  · have h := zifn c1 h
    refine g_gets cx (i := 2) rfl sk_X1_134 dX1_doTyped_114 ?_
    refine g_iload_n cx dX1_doTyped_117 rfl ?_
    obtain ⟨hc2, h⟩ := h
    refine g_tld cx (i := 2) rfl (show vp_in _ _ from hc2) dX1_doTyped_118 ?_
    refine g_if_le cx (tgt := 127) dX1_doTyped_119 rfl (fun c3 => ?_) (fun c3 => ?_)
    · have h := zifp c3 h
      exact g_wv cx hE dX1_doTyped_127 rfl hP h
    · have h := zifn c3 h
      refine g_aload_n cx dX1_doTyped_122 rfl ?_
      refine g_iconst cx dX1_doTyped_123 ic_1 ?_
      refine g_wVv cx [.int 1] [] (e_X1_put hP h) mt_X1_put ml_X1_125 rfl rfl rfl dX1_doTyped_124 rfl rfl (Nat.le_of_ble_eq_true rfl) (Nat.le_of_ble_eq_true rfl) (Nat.le_of_ble_eq_true rfl) (fun I4 P4 hP h => ?_)
      exact g_wv cx hE dX1_doTyped_127 rfl hP h
  · have h := zifp c1 h
    refine g_aload_n cx dX1_doTyped_106 rfl ?_
    refine g_iconst cx dX1_doTyped_107 ic_2 ?_
    refine g_wVv cx [.int 2] [] (e_X1_put hP h) mt_X1_put ml_X1_125 rfl rfl rfl dX1_doTyped_108 rfl rfl (Nat.le_of_ble_eq_true rfl) (Nat.le_of_ble_eq_true rfl) (Nat.le_of_ble_eq_true rfl) (fun I5 P5 hP h => ?_)
    refine g_goto cx (tgt := 127) dX1_doTyped_111 rfl ?_
    exact g_wv cx hE dX1_doTyped_127 rfl hP h
def j_X1_doTyped_96 (K : zI → zP → Prop) (y1 : Int32) (s0 : Int32) (s1 : Int32) (I : zI) (P : zP) : Prop := zbo (s1 ||| s0) ∧ (j_X1_doTyped_100 K y1 (zu I 4 5 (s1 ||| s0)) P)
theorem gj_X1_doTyped_96 {κ : zX} (cx : Cx yX1_doTyped cX1_doTyped 3 none 1 23 κ) {K : zI → zP → Prop} (hE : zEnd (zKv K) 0 0 κ) {y1 : Int32} {s0 : Int32} {s1 : Int32} {I : zI} {P : zP} (hP : PSt P) (h : j_X1_doTyped_96 K y1 s0 s1 I P) : Gx κ 96 [.ref 4, .int y1, .float 0] [.int s0, .int s1, .ref 4] SHy I P 0 0 := by
  unfold j_X1_doTyped_96 at h
  refine g_ior cx dX1_doTyped_96 ?_
  obtain ⟨hc1, h⟩ := h
  refine g_pI cx lk_X1_29 rfl (Nat.le_of_ble_eq_true rfl) rfl dX1_doTyped_97 fi_1_5 (zbo_n hc1) (zbo_f hc1) ?_
  exact gj_X1_doTyped_100 cx hE hP h
def j_X1_doTyped_78 (K : zI → zP → Prop) (y1 : Int32) (I : zI) (P : zP) : Prop := w_X1_takeAny I P (fun (v1 : Int32) (I1 : zI) (P1 : zP) => (if v1 = 2 then (j_X1_doTyped_96 K y1 0 (I 4 5) I1 P1) else (j_X1_doTyped_96 K y1 1 (I 4 5) I1 P1)))
theorem gj_X1_doTyped_78 {κ : zX} (cx : Cx yX1_doTyped cX1_doTyped 3 none 1 23 κ) {K : zI → zP → Prop} (hE : zEnd (zKv K) 0 0 κ) {y1 : Int32} {I : zI} {P : zP} (hP : PSt P) (h : j_X1_doTyped_78 K y1 I P) : Gx κ 78 [.ref 4, .int y1, .float 0] [] SHy I P 0 0 := by
  unfold j_X1_doTyped_78 at h
  refine g_aload_n cx dX1_doTyped_78 rfl ?_
  refine g_dup cx dX1_doTyped_79 rfl ?_
  refine g_getI cx lk_X1_29 rfl (Nat.le_of_ble_eq_true rfl) rfl dX1_doTyped_80 (x := (I 4 5)) rfl ?_
  refine g_aload_n cx dX1_doTyped_83 rfl ?_
  refine g_wVi cx [] [.int (I 4 5), .ref 4] (e_X1_takeAny hP h) mt_X1_takeAny ml_X1_108 rfl rfl rfl dX1_doTyped_84 rfl rfl (Nat.le_of_ble_eq_true rfl) (Nat.le_of_ble_eq_true rfl) (Nat.le_of_ble_eq_true rfl) (fun v1 I1 P1 hP h => ?_)
  refine g_iconst cx dX1_doTyped_87 ic_2 ?_
  refine g_icmp_eq cx (tgt := 95) dX1_doTyped_88 rfl (fun c2 => ?_) (fun c2 => ?_)
  · have h := zifp c2 h
    refine g_iconst cx dX1_doTyped_95 ic_0 ?_
    exact gj_X1_doTyped_96 cx hE hP h
  · have h := zifn c2 h
    refine g_iconst cx dX1_doTyped_91 ic_1 ?_
    refine g_goto cx (tgt := 96) dX1_doTyped_92 rfl ?_
    exact gj_X1_doTyped_96 cx hE hP h
def j_X1_doTyped_50 (X23 : Int32 → Int32 → zI → zP → Prop) (K : zI → zP → Prop) (y1 : Int32) (y2 : Int32) (s0 : Int32) (s1 : Int32) (I : zI) (P : zP) : Prop := zbo (s1 ||| s0) ∧ (X23 y1 (y2 + 1) (zu I 4 5 (s1 ||| s0)) P)
theorem gj_X1_doTyped_50 {κ : zX} (cx : Cx yX1_doTyped cX1_doTyped 3 none 1 23 κ) {K : zI → zP → Prop} (hE : zEnd (zKv K) 0 0 κ) {X23 : Int32 → Int32 → zI → zP → Prop} (hX23 : ∀ (y1 : Int32) (y2 : Int32) (I : zI) (P : zP), PSt P → X23 y1 y2 I P → Gx κ 23 [.ref 4, .int y1, .int y2] [] SHy I P 0 0) {y1 : Int32} {y2 : Int32} {s0 : Int32} {s1 : Int32} {I : zI} {P : zP} (hP : PSt P) (h : j_X1_doTyped_50 X23 K y1 y2 s0 s1 I P) : Gx κ 50 [.ref 4, .int y1, .int y2] [.int s0, .int s1, .ref 4] SHy I P 0 0 := by
  unfold j_X1_doTyped_50 at h
  refine g_ior cx dX1_doTyped_50 ?_
  obtain ⟨hc1, h⟩ := h
  refine g_pI cx lk_X1_29 rfl (Nat.le_of_ble_eq_true rfl) rfl dX1_doTyped_51 fi_1_5 (zbo_n hc1) (zbo_f hc1) ?_
  refine g_iinc cx (v := (y2 + 1)) dX1_doTyped_54 rfl rfl (Nat.le_of_ble_eq_true rfl) (Gx.L [.ref 4, .int y1, .int (y2 + 1)] rfl ?_)
  refine g_goto cx (tgt := 23) dX1_doTyped_57 rfl ?_
  exact hX23 _ _ _ _ hP h
def l_X1_doTyped_23 (K : zI → zP → Prop) : Nat → Int32 → Int32 → zI → zP → Prop
  | 0, _, _, _, _ => False
  | n + 1, y1, y2, I, P => vp_in y1 44 ∧ (if (zT1 y1) ≤ y2 then (if y1 = 37 then (j_X1_doTyped_78 K y1 I P) else (if y1 = 38 then (j_X1_doTyped_78 K y1 I P) else (if y1 = 39 then (j_X1_doTyped_78 K y1 I P) else (j_X1_doTyped_100 K y1 I P)))) else (w_X1_takeAny I P (fun (v6 : Int32) (I6 : zI) (P6 : zP) => (if v6 = 1 then (j_X1_doTyped_50 (l_X1_doTyped_23 K n) K y1 y2 0 (I 4 5) I6 P6) else (j_X1_doTyped_50 (l_X1_doTyped_23 K n) K y1 y2 1 (I 4 5) I6 P6)))))
theorem gl_X1_doTyped_23 {κ : zX} (cx : Cx yX1_doTyped cX1_doTyped 3 none 1 23 κ) {K : zI → zP → Prop} (hE : zEnd (zKv K) 0 0 κ) : ∀ (n : Nat) (y1 : Int32) (y2 : Int32) (I : zI) (P : zP), PSt P → l_X1_doTyped_23 K n y1 y2 I P → Gx κ 23 [.ref 4, .int y1, .int y2] [] SHy I P 0 0 := by
  intro n
  induction n with
  | zero =>
    intro y1 y2 I P hP h
    rw [l_X1_doTyped_23] at h
    exact False.elim h
  | succ n ih =>
    intro y1 y2 I P hP h
    rw [l_X1_doTyped_23] at h
    refine g_iload_n cx dX1_doTyped_23 rfl ?_
    refine g_gets cx (i := 1) rfl sk_X1_131 dX1_doTyped_24 ?_
    refine g_iload_n cx dX1_doTyped_27 rfl ?_
    obtain ⟨hc1, h⟩ := h
    refine g_tld cx (i := 1) rfl (show vp_in _ _ from hc1) dX1_doTyped_28 ?_
    refine g_icmp_ge cx (tgt := 60) dX1_doTyped_29 rfl (fun c2 => ?_) (fun c2 => ?_)
    · have h := zifp c2 h
      refine g_iload_n cx dX1_doTyped_60 rfl ?_
      refine g_bipush cx dX1_doTyped_61 bp_37 ?_
      refine g_icmp_eq cx (tgt := 78) dX1_doTyped_63 rfl (fun c3 => ?_) (fun c3 => ?_)
      · have h := zifp c3 h
        refine (Gx.unset 2 (Gx.L [.ref 4, .int y1, .float 0] rfl ?_))
        exact gj_X1_doTyped_78 cx hE hP h
      · have h := zifn c3 h
        refine g_iload_n cx dX1_doTyped_66 rfl ?_
        refine g_bipush cx dX1_doTyped_67 bp_38 ?_
        refine g_icmp_eq cx (tgt := 78) dX1_doTyped_69 rfl (fun c4 => ?_) (fun c4 => ?_)
        · have h := zifp c4 h
          refine (Gx.unset 2 (Gx.L [.ref 4, .int y1, .float 0] rfl ?_))
          exact gj_X1_doTyped_78 cx hE hP h
        · have h := zifn c4 h
          refine g_iload_n cx dX1_doTyped_72 rfl ?_
          refine g_bipush cx dX1_doTyped_73 bp_39 ?_
          refine g_icmp_ne cx (tgt := 100) dX1_doTyped_75 rfl (fun c5 => ?_) (fun c5 => ?_)
          · have h := zifn c5 h
            refine (Gx.unset 2 (Gx.L [.ref 4, .int y1, .float 0] rfl ?_))
            exact gj_X1_doTyped_100 cx hE hP h
          · have h := zifp c5 h
            refine (Gx.unset 2 (Gx.L [.ref 4, .int y1, .float 0] rfl ?_))
            exact gj_X1_doTyped_78 cx hE hP h
    · have h := zifn c2 h
      refine g_aload_n cx dX1_doTyped_32 rfl ?_
      refine g_dup cx dX1_doTyped_33 rfl ?_
      refine g_getI cx lk_X1_29 rfl (Nat.le_of_ble_eq_true rfl) rfl dX1_doTyped_34 (x := (I 4 5)) rfl ?_
      refine g_aload_n cx dX1_doTyped_37 rfl ?_
      refine g_wVi cx [] [.int (I 4 5), .ref 4] (e_X1_takeAny hP h) mt_X1_takeAny ml_X1_108 rfl rfl rfl dX1_doTyped_38 rfl rfl (Nat.le_of_ble_eq_true rfl) (Nat.le_of_ble_eq_true rfl) (Nat.le_of_ble_eq_true rfl) (fun v6 I6 P6 hP h => ?_)
      refine g_iconst cx dX1_doTyped_41 ic_1 ?_
      refine g_icmp_eq cx (tgt := 49) dX1_doTyped_42 rfl (fun c7 => ?_) (fun c7 => ?_)
      · have h := zifp c7 h
        refine g_iconst cx dX1_doTyped_49 ic_0 ?_
        exact gj_X1_doTyped_50 cx hE ih hP h
      · have h := zifn c7 h
        refine g_iconst cx dX1_doTyped_45 ic_1 ?_
        refine g_goto cx (tgt := 50) dX1_doTyped_46 rfl ?_
        exact gj_X1_doTyped_50 cx hE ih hP h
def w_X1_doTyped (x1 : Int32) (I : zI) (P : zP) (K : zI → zP → Prop) : Prop := if x1 < 0 then (K I P) else (if 44 ≤ x1 then (K I P) else (if x1 < 44 then (∃ n9, l_X1_doTyped_23 K n9 x1 0 I P) else (K I P)))
theorem e_X1_doTyped {x1 : Int32} {I : zI} {P : zP} {K : zI → zP → Prop} (hP : PSt P) (h : w_X1_doTyped x1 I P K) : Ev yX1_doTyped cX1_doTyped 3 none 1 23 0 0 [.ref 4, .int x1] SHy I P (zKv K) := by
  refine Ev.start [.ref 4, .int x1, .float 0] pn_X1 rfl (Nat.le_of_ble_eq_true rfl) rfl (fun κ cx hE => ?_)
  unfold w_X1_doTyped at h
  refine g_iload_n cx dX1_doTyped_0 rfl ?_
  refine g_if_lt cx (tgt := 20) dX1_doTyped_1 rfl (fun c1 => ?_) (fun c1 => ?_)
  · have h := zifp c1 h
    exact g_wv cx hE dX1_doTyped_20 rfl hP h
  · have h := zifn c1 h
    refine g_iload_n cx dX1_doTyped_4 rfl ?_
    refine g_gets cx (i := 1) rfl sk_X1_131 dX1_doTyped_5 ?_
    refine g_tlen cx (i := 1) rfl dX1_doTyped_8 (Gx.top 44 rfl ?_)
    refine g_icmp_ge cx (tgt := 20) dX1_doTyped_9 rfl (fun c2 => ?_) (fun c2 => ?_)
    · have h := zifp c2 h
      exact g_wv cx hE dX1_doTyped_20 rfl hP h
    · have h := zifn c2 h
      refine g_iload_n cx dX1_doTyped_12 rfl ?_
      refine g_gets cx (i := 2) rfl sk_X1_134 dX1_doTyped_13 ?_
      refine g_tlen cx (i := 2) rfl dX1_doTyped_16 (Gx.top 44 rfl ?_)
      refine g_icmp_lt cx (tgt := 21) dX1_doTyped_17 rfl (fun c3 => ?_) (fun c3 => ?_)
      · have h := zifp c3 h
        refine g_iconst cx dX1_doTyped_21 ic_0 ?_
        refine g_istore_n cx dX1_doTyped_22 (Nat.le_of_ble_eq_true rfl) (Gx.L [.ref 4, .int x1, .int 0] rfl ?_)
        obtain ⟨n9, h⟩ := h
        exact gl_X1_doTyped_23 cx hE n9 _ _ _ _ hP h
      · have h := zifn c3 h
        exact g_wv cx hE dX1_doTyped_20 rfl hP h
def w_X1_localType (x1 : Int32) (I : zI) (P : zP) (K : Int32 → zI → zP → Prop) : Prop := if x1 < 0 then (K 0 I P) else (if 12 ≤ x1 then (K 0 I P) else (K ((((I 4 4) : Int32) >>> (((2 * x1) : Int32) &&& 31)) &&& 3) I P))
theorem e_X1_localType {x1 : Int32} {I : zI} {P : zP} {K : Int32 → zI → zP → Prop} (hP : PSt P) (h : w_X1_localType x1 I P K) : Ev yX1_localType cX1_localType 2 (some .int) 0 0 0 0 [.ref 4, .int x1] SHy I P (zKi K) := by
  refine Ev.start [.ref 4, .int x1] pn_X1 rfl (Nat.le_of_ble_eq_true rfl) rfl (fun κ cx hE => ?_)
  unfold w_X1_localType at h
  refine g_iload_n cx dX1_localType_0 rfl ?_
  refine g_if_lt cx (tgt := 23) dX1_localType_1 rfl (fun c1 => ?_) (fun c1 => ?_)
  · have h := zifp c1 h
    refine g_iconst cx dX1_localType_23 ic_0 ?_
    exact g_wi cx hE dX1_localType_24 rfl rfl hP h
  · have h := zifn c1 h
    refine g_iload_n cx dX1_localType_4 rfl ?_
    refine g_bipush cx dX1_localType_5 bp_12 ?_
    refine g_icmp_ge cx (tgt := 23) dX1_localType_7 rfl (fun c2 => ?_) (fun c2 => ?_)
    · have h := zifp c2 h
      refine g_iconst cx dX1_localType_23 ic_0 ?_
      exact g_wi cx hE dX1_localType_24 rfl rfl hP h
    · have h := zifn c2 h
      refine g_aload_n cx dX1_localType_10 rfl ?_
      refine g_getI cx lk_X1_26 rfl (Nat.le_of_ble_eq_true rfl) rfl dX1_localType_11 (x := (I 4 4)) rfl ?_
      refine g_iconst cx dX1_localType_14 ic_2 ?_
      refine g_iload_n cx dX1_localType_15 rfl ?_
      refine g_imul cx dX1_localType_16 ?_
      refine g_ishr cx dX1_localType_17 ?_
      refine g_iconst cx dX1_localType_18 ic_3 ?_
      refine g_iand cx dX1_localType_19 ?_
      refine g_goto cx (tgt := 24) dX1_localType_20 rfl ?_
      exact g_wi cx hE dX1_localType_24 rfl rfl hP h
def j_X1_loadType_20 (K : zI → zP → Prop) (y2 : Int32) (s0 : Int32) (s1 : Int32) (I : zI) (P : zP) : Prop := zbo (s1 ||| s0) ∧ (w_X1_put y2 (zu I 4 5 (s1 ||| s0)) P (fun (I2 : zI) (P2 : zP) => (K I2 P2)))
theorem gj_X1_loadType_20 {κ : zX} (cx : Cx yX1_loadType cX1_loadType 3 none 1 22 κ) {K : zI → zP → Prop} (hE : zEnd (zKv K) 0 0 κ) {y2 : Int32} {s0 : Int32} {s1 : Int32} {I : zI} {P : zP} (hP : PSt P) (h : j_X1_loadType_20 K y2 s0 s1 I P) : Gx κ 20 [.ref 4, .float 0, .int y2] [.int s0, .int s1, .ref 4] SHy I P 0 0 := by
  unfold j_X1_loadType_20 at h
  refine g_ior cx dX1_loadType_20 ?_
  obtain ⟨hc1, h⟩ := h
  refine g_pI cx lk_X1_29 rfl (Nat.le_of_ble_eq_true rfl) rfl dX1_loadType_21 fi_1_5 (zbo_n hc1) (zbo_f hc1) ?_
  refine g_aload_n cx dX1_loadType_24 rfl ?_
  refine g_iload_n cx dX1_loadType_25 rfl ?_
  refine g_wVv cx [.int y2] [] (e_X1_put hP h) mt_X1_put ml_X1_125 rfl rfl rfl dX1_loadType_26 rfl rfl (Nat.le_of_ble_eq_true rfl) (Nat.le_of_ble_eq_true rfl) (Nat.le_of_ble_eq_true rfl) (fun I2 P2 hP h => ?_)
  exact g_wv cx hE dX1_loadType_29 rfl hP h
def w_X1_loadType (x1 : Int32) (I : zI) (P : zP) (K : zI → zP → Prop) : Prop := w_X1_localType x1 I P (fun (v1 : Int32) (I1 : zI) (P1 : zP) => (if v1 = 0 then (j_X1_loadType_20 K v1 1 (I1 4 5) I1 P1) else (j_X1_loadType_20 K v1 0 (I1 4 5) I1 P1)))
theorem e_X1_loadType {x1 : Int32} {I : zI} {P : zP} {K : zI → zP → Prop} (hP : PSt P) (h : w_X1_loadType x1 I P K) : Ev yX1_loadType cX1_loadType 3 none 1 22 0 0 [.ref 4, .int x1] SHy I P (zKv K) := by
  refine Ev.start [.ref 4, .int x1, .float 0] pn_X1 rfl (Nat.le_of_ble_eq_true rfl) rfl (fun κ cx hE => ?_)
  unfold w_X1_loadType at h
  refine g_aload_n cx dX1_loadType_0 rfl ?_
  refine g_iload_n cx dX1_loadType_1 rfl ?_
  refine g_wVi cx [.int x1] [] (e_X1_localType hP h) mt_X1_localType ml_X1_116 rfl rfl rfl dX1_loadType_2 rfl rfl (Nat.le_of_ble_eq_true rfl) (Nat.le_of_ble_eq_true rfl) (Nat.le_of_ble_eq_true rfl) (fun v1 I1 P1 hP h => ?_)
  refine g_istore_n cx dX1_loadType_5 (Nat.le_of_ble_eq_true rfl) (Gx.L [.ref 4, .int x1, .int v1] rfl ?_)
  refine g_aload_n cx dX1_loadType_6 rfl ?_
  refine g_dup cx dX1_loadType_7 rfl ?_
  refine g_getI cx lk_X1_29 rfl (Nat.le_of_ble_eq_true rfl) rfl dX1_loadType_8 (x := (I1 4 5)) rfl ?_
  refine g_iload_n cx dX1_loadType_11 rfl ?_
  refine g_if_ne cx (tgt := 19) dX1_loadType_12 rfl (fun c2 => ?_) (fun c2 => ?_)
  · have h := zifn c2 h
    refine g_iconst cx dX1_loadType_19 ic_0 ?_
    refine (Gx.unset 1 (Gx.L [.ref 4, .float 0, .int v1] rfl ?_))
    exact gj_X1_loadType_20 cx hE hP h
  · have h := zifp c2 h
    refine g_iconst cx dX1_loadType_15 ic_1 ?_
    refine g_goto cx (tgt := 20) dX1_loadType_16 rfl ?_
    refine (Gx.unset 1 (Gx.L [.ref 4, .float 0, .int v1] rfl ?_))
    exact gj_X1_loadType_20 cx hE hP h
def w_X1_setLocalType (x1 : Int32) (x2 : Int32) (I : zI) (P : zP) (K : zI → zP → Prop) : Prop := if x1 < 0 then (K I P) else (if 12 ≤ x1 then (K I P) else (K (zu I 4 4 (((I 4 4) &&& (((3 : Int32) <<< (((2 * x1) : Int32) &&& 31)) ^^^ (-1))) ||| ((x2 : Int32) <<< (((2 * x1) : Int32) &&& 31)))) P))
theorem e_X1_setLocalType {x1 : Int32} {x2 : Int32} {I : zI} {P : zP} {K : zI → zP → Prop} (hP : PSt P) (h : w_X1_setLocalType x1 x2 I P K) : Ev yX1_setLocalType cX1_setLocalType 3 none 0 0 0 0 [.ref 4, .int x1, .int x2] SHy I P (zKv K) := by
  refine Ev.start [.ref 4, .int x1, .int x2] pn_X1 rfl (Nat.le_of_ble_eq_true rfl) rfl (fun κ cx hE => ?_)
  unfold w_X1_setLocalType at h
  refine g_iload_n cx dX1_setLocalType_0 rfl ?_
  refine g_if_lt cx (tgt := 32) dX1_setLocalType_1 rfl (fun c1 => ?_) (fun c1 => ?_)
  · have h := zifp c1 h
    exact g_wv cx hE dX1_setLocalType_32 rfl hP h
  · have h := zifn c1 h
    refine g_iload_n cx dX1_setLocalType_4 rfl ?_
    refine g_bipush cx dX1_setLocalType_5 bp_12 ?_
    refine g_icmp_ge cx (tgt := 32) dX1_setLocalType_7 rfl (fun c2 => ?_) (fun c2 => ?_)
    · have h := zifp c2 h
      exact g_wv cx hE dX1_setLocalType_32 rfl hP h
    · have h := zifn c2 h
      refine g_aload_n cx dX1_setLocalType_10 rfl ?_
      refine g_aload_n cx dX1_setLocalType_11 rfl ?_
      refine g_getI cx lk_X1_26 rfl (Nat.le_of_ble_eq_true rfl) rfl dX1_setLocalType_12 (x := (I 4 4)) rfl ?_
      refine g_iconst cx dX1_setLocalType_15 ic_3 ?_
      refine g_iconst cx dX1_setLocalType_16 ic_2 ?_
      refine g_iload_n cx dX1_setLocalType_17 rfl ?_
      refine g_imul cx dX1_setLocalType_18 ?_
      refine g_ishl cx dX1_setLocalType_19 ?_
      refine g_iconst cx dX1_setLocalType_20 ic_m1 ?_
      refine g_ixor cx dX1_setLocalType_21 ?_
      refine g_iand cx dX1_setLocalType_22 ?_
      refine g_iload_n cx dX1_setLocalType_23 rfl ?_
      refine g_iconst cx dX1_setLocalType_24 ic_2 ?_
      refine g_iload_n cx dX1_setLocalType_25 rfl ?_
      refine g_imul cx dX1_setLocalType_26 ?_
      refine g_ishl cx dX1_setLocalType_27 ?_
      refine g_ior cx dX1_setLocalType_28 ?_
      refine g_pI cx lk_X1_26 rfl (Nat.le_of_ble_eq_true rfl) rfl dX1_setLocalType_29 fi_1_4 rfl rfl ?_
      exact g_wv cx hE dX1_setLocalType_32 rfl hP h
def w_X1_shiftAny (x1 : Int32) (I : zI) (P : zP) (K : zI → zP → Prop) : Prop := w_X1_takeAny I P (fun (v1 : Int32) (I1 : zI) (P1 : zP) => (if x1 = 6 then (w_X1_put v1 I1 P1 (fun (I7 : zI) (P7 : zP) => (w_X1_put v1 I7 P7 (fun (I8 : zI) (P8 : zP) => (K I8 P8))))) else (if x1 = 8 then (w_X1_takeAny I1 P1 (fun (v4 : Int32) (I4 : zI) (P4 : zP) => (w_X1_put v1 I4 P4 (fun (I5 : zI) (P5 : zP) => (w_X1_put v4 I5 P5 (fun (I6 : zI) (P6 : zP) => (K I6 P6))))))) else (K I1 P1))))
theorem e_X1_shiftAny {x1 : Int32} {I : zI} {P : zP} {K : zI → zP → Prop} (hP : PSt P) (h : w_X1_shiftAny x1 I P K) : Ev yX1_shiftAny cX1_shiftAny 4 none 1 23 0 0 [.ref 4, .int x1] SHy I P (zKv K) := by
  refine Ev.start [.ref 4, .int x1, .float 0, .float 0] pn_X1 rfl (Nat.le_of_ble_eq_true rfl) rfl (fun κ cx hE => ?_)
  unfold w_X1_shiftAny at h
  refine g_aload_n cx dX1_shiftAny_0 rfl ?_
  refine g_wVi cx [] [] (e_X1_takeAny hP h) mt_X1_takeAny ml_X1_108 rfl rfl rfl dX1_shiftAny_1 rfl rfl (Nat.le_of_ble_eq_true rfl) (Nat.le_of_ble_eq_true rfl) (Nat.le_of_ble_eq_true rfl) (fun v1 I1 P1 hP h => ?_)
  refine g_istore_n cx dX1_shiftAny_4 (Nat.le_of_ble_eq_true rfl) (Gx.L [.ref 4, .int x1, .int v1, .float 0] rfl ?_)
  refine g_iload_n cx dX1_shiftAny_5 rfl ?_
  refine g_bipush cx dX1_shiftAny_6 bp_6 ?_
  refine g_icmp_ne cx (tgt := 24) dX1_shiftAny_8 rfl (fun c2 => ?_) (fun c2 => ?_)
  · have h := zifn c2 h
    refine g_iload_n cx dX1_shiftAny_24 rfl ?_
    refine g_bipush cx dX1_shiftAny_25 bp_8 ?_
    refine g_icmp_ne cx (tgt := 45) dX1_shiftAny_27 rfl (fun c3 => ?_) (fun c3 => ?_)
    · have h := zifn c3 h
      exact g_wv cx hE dX1_shiftAny_45 rfl hP h
    · have h := zifp c3 h
      refine g_aload_n cx dX1_shiftAny_30 rfl ?_
      refine g_wVi cx [] [] (e_X1_takeAny hP h) mt_X1_takeAny ml_X1_108 rfl rfl rfl dX1_shiftAny_31 rfl rfl (Nat.le_of_ble_eq_true rfl) (Nat.le_of_ble_eq_true rfl) (Nat.le_of_ble_eq_true rfl) (fun v4 I4 P4 hP h => ?_)
      refine g_istore_n cx dX1_shiftAny_34 (Nat.le_of_ble_eq_true rfl) (Gx.L [.ref 4, .int x1, .int v1, .int v4] rfl ?_)
      refine g_aload_n cx dX1_shiftAny_35 rfl ?_
      refine g_iload_n cx dX1_shiftAny_36 rfl ?_
      refine g_wVv cx [.int v1] [] (e_X1_put hP h) mt_X1_put ml_X1_125 rfl rfl rfl dX1_shiftAny_37 rfl rfl (Nat.le_of_ble_eq_true rfl) (Nat.le_of_ble_eq_true rfl) (Nat.le_of_ble_eq_true rfl) (fun I5 P5 hP h => ?_)
      refine g_aload_n cx dX1_shiftAny_40 rfl ?_
      refine g_iload_n cx dX1_shiftAny_41 rfl ?_
      refine g_wVv cx [.int v4] [] (e_X1_put hP h) mt_X1_put ml_X1_125 rfl rfl rfl dX1_shiftAny_42 rfl rfl (Nat.le_of_ble_eq_true rfl) (Nat.le_of_ble_eq_true rfl) (Nat.le_of_ble_eq_true rfl) (fun I6 P6 hP h => ?_)
      exact g_wv cx hE dX1_shiftAny_45 rfl hP h
  · have h := zifp c2 h
    refine g_aload_n cx dX1_shiftAny_11 rfl ?_
    refine g_iload_n cx dX1_shiftAny_12 rfl ?_
    refine g_wVv cx [.int v1] [] (e_X1_put hP h) mt_X1_put ml_X1_125 rfl rfl rfl dX1_shiftAny_13 rfl rfl (Nat.le_of_ble_eq_true rfl) (Nat.le_of_ble_eq_true rfl) (Nat.le_of_ble_eq_true rfl) (fun I7 P7 hP h => ?_)
    refine g_aload_n cx dX1_shiftAny_16 rfl ?_
    refine g_iload_n cx dX1_shiftAny_17 rfl ?_
    refine g_wVv cx [.int v1] [] (e_X1_put hP h) mt_X1_put ml_X1_125 rfl rfl rfl dX1_shiftAny_18 rfl rfl (Nat.le_of_ble_eq_true rfl) (Nat.le_of_ble_eq_true rfl) (Nat.le_of_ble_eq_true rfl) (fun I8 P8 hP h => ?_)
    refine g_goto cx (tgt := 45) dX1_shiftAny_21 rfl ?_
    exact g_wv cx hE dX1_shiftAny_45 rfl hP h
def j_X1_takeInts_25 (X2 : Int32 → Int32 → zI → zP → Prop) (K : zI → zP → Prop) (y1 : Int32) (y2 : Int32) (s0 : Int32) (s1 : Int32) (I : zI) (P : zP) : Prop := zbo (s1 ||| s0) ∧ (X2 y1 (y2 + 1) (zu I 4 5 (s1 ||| s0)) P)
theorem gj_X1_takeInts_25 {κ : zX} (cx : Cx yX1_takeInts cX1_takeInts 3 none 1 23 κ) {K : zI → zP → Prop} (hE : zEnd (zKv K) 0 0 κ) {X2 : Int32 → Int32 → zI → zP → Prop} (hX2 : ∀ (y1 : Int32) (y2 : Int32) (I : zI) (P : zP), PSt P → X2 y1 y2 I P → Gx κ 2 [.ref 4, .int y1, .int y2] [] SHy I P 0 0) {y1 : Int32} {y2 : Int32} {s0 : Int32} {s1 : Int32} {I : zI} {P : zP} (hP : PSt P) (h : j_X1_takeInts_25 X2 K y1 y2 s0 s1 I P) : Gx κ 25 [.ref 4, .int y1, .int y2] [.int s0, .int s1, .ref 4] SHy I P 0 0 := by
  unfold j_X1_takeInts_25 at h
  refine g_ior cx dX1_takeInts_25 ?_
  obtain ⟨hc1, h⟩ := h
  refine g_pI cx lk_X1_29 rfl (Nat.le_of_ble_eq_true rfl) rfl dX1_takeInts_26 fi_1_5 (zbo_n hc1) (zbo_f hc1) ?_
  refine g_iinc cx (v := (y2 + 1)) dX1_takeInts_29 rfl rfl (Nat.le_of_ble_eq_true rfl) (Gx.L [.ref 4, .int y1, .int (y2 + 1)] rfl ?_)
  refine g_goto cx (tgt := 2) dX1_takeInts_32 rfl ?_
  exact hX2 _ _ _ _ hP h
def l_X1_takeInts_2 (K : zI → zP → Prop) : Nat → Int32 → Int32 → zI → zP → Prop
  | 0, _, _, _, _ => False
  | n + 1, y1, y2, I, P => if y1 ≤ y2 then (K I P) else (w_X1_takeAny I P (fun (v2 : Int32) (I2 : zI) (P2 : zP) => (if v2 = 1 then (j_X1_takeInts_25 (l_X1_takeInts_2 K n) K y1 y2 0 (I 4 5) I2 P2) else (j_X1_takeInts_25 (l_X1_takeInts_2 K n) K y1 y2 1 (I 4 5) I2 P2))))
theorem gl_X1_takeInts_2 {κ : zX} (cx : Cx yX1_takeInts cX1_takeInts 3 none 1 23 κ) {K : zI → zP → Prop} (hE : zEnd (zKv K) 0 0 κ) : ∀ (n : Nat) (y1 : Int32) (y2 : Int32) (I : zI) (P : zP), PSt P → l_X1_takeInts_2 K n y1 y2 I P → Gx κ 2 [.ref 4, .int y1, .int y2] [] SHy I P 0 0 := by
  intro n
  induction n with
  | zero =>
    intro y1 y2 I P hP h
    rw [l_X1_takeInts_2] at h
    exact False.elim h
  | succ n ih =>
    intro y1 y2 I P hP h
    rw [l_X1_takeInts_2] at h
    refine g_iload_n cx dX1_takeInts_2 rfl ?_
    refine g_iload_n cx dX1_takeInts_3 rfl ?_
    refine g_icmp_ge cx (tgt := 35) dX1_takeInts_4 rfl (fun c1 => ?_) (fun c1 => ?_)
    · have h := zifp c1 h
      exact g_wv cx hE dX1_takeInts_35 rfl hP h
    · have h := zifn c1 h
      refine g_aload_n cx dX1_takeInts_7 rfl ?_
      refine g_dup cx dX1_takeInts_8 rfl ?_
      refine g_getI cx lk_X1_29 rfl (Nat.le_of_ble_eq_true rfl) rfl dX1_takeInts_9 (x := (I 4 5)) rfl ?_
      refine g_aload_n cx dX1_takeInts_12 rfl ?_
      refine g_wVi cx [] [.int (I 4 5), .ref 4] (e_X1_takeAny hP h) mt_X1_takeAny ml_X1_108 rfl rfl rfl dX1_takeInts_13 rfl rfl (Nat.le_of_ble_eq_true rfl) (Nat.le_of_ble_eq_true rfl) (Nat.le_of_ble_eq_true rfl) (fun v2 I2 P2 hP h => ?_)
      refine g_iconst cx dX1_takeInts_16 ic_1 ?_
      refine g_icmp_eq cx (tgt := 24) dX1_takeInts_17 rfl (fun c3 => ?_) (fun c3 => ?_)
      · have h := zifp c3 h
        refine g_iconst cx dX1_takeInts_24 ic_0 ?_
        exact gj_X1_takeInts_25 cx hE ih hP h
      · have h := zifn c3 h
        refine g_iconst cx dX1_takeInts_20 ic_1 ?_
        refine g_goto cx (tgt := 25) dX1_takeInts_21 rfl ?_
        exact gj_X1_takeInts_25 cx hE ih hP h
def w_X1_takeInts (x1 : Int32) (I : zI) (P : zP) (K : zI → zP → Prop) : Prop := ∃ n9, l_X1_takeInts_2 K n9 x1 0 I P
theorem e_X1_takeInts {x1 : Int32} {I : zI} {P : zP} {K : zI → zP → Prop} (hP : PSt P) (h : w_X1_takeInts x1 I P K) : Ev yX1_takeInts cX1_takeInts 3 none 1 23 0 0 [.ref 4, .int x1] SHy I P (zKv K) := by
  refine Ev.start [.ref 4, .int x1, .float 0] pn_X1 rfl (Nat.le_of_ble_eq_true rfl) rfl (fun κ cx hE => ?_)
  unfold w_X1_takeInts at h
  refine g_iconst cx dX1_takeInts_0 ic_0 ?_
  refine g_istore_n cx dX1_takeInts_1 (Nat.le_of_ble_eq_true rfl) (Gx.L [.ref 4, .int x1, .int 0] rfl ?_)
  obtain ⟨n9, h⟩ := h
  exact gl_X1_takeInts_2 cx hE n9 _ _ _ _ hP h
def j_X1_doOp_139 (K : zI → zP → Prop) (s0 : Int32) (I : zI) (P : zP) : Prop := w_X1_takeInts s0 I P (fun (I1 : zI) (P1 : zP) => (w_X1_put 1 I1 P1 (fun (I2 : zI) (P2 : zP) => (K I2 P2))))
theorem gj_X1_doOp_139 {κ : zX} (cx : Cx yX1_doOp cX1_doOp 4 none 2 46 κ) {K : zI → zP → Prop} (hE : zEnd (zKv K) 0 0 κ) {s0 : Int32} {I : zI} {P : zP} (hP : PSt P) (h : j_X1_doOp_139 K s0 I P) : Gx κ 139 [.ref 4, .float 0, .float 0, .float 0] [.int s0, .ref 4] SHy I P 0 0 := by
  unfold j_X1_doOp_139 at h
  refine g_wVv cx [.int s0] [] (e_X1_takeInts hP h) mt_X1_takeInts ml_X1_122 rfl rfl rfl dX1_doOp_139 rfl rfl (Nat.le_of_ble_eq_true rfl) (Nat.le_of_ble_eq_true rfl) (Nat.le_of_ble_eq_true rfl) (fun I1 P1 hP h => ?_)
  refine g_aload_n cx dX1_doOp_142 rfl ?_
  refine g_iconst cx dX1_doOp_143 ic_1 ?_
  refine g_wVv cx [.int 1] [] (e_X1_put hP h) mt_X1_put ml_X1_125 rfl rfl rfl dX1_doOp_144 rfl rfl (Nat.le_of_ble_eq_true rfl) (Nat.le_of_ble_eq_true rfl) (Nat.le_of_ble_eq_true rfl) (fun I2 P2 hP h => ?_)
  refine g_goto cx (tgt := 155) dX1_doOp_147 rfl ?_
  exact g_wv cx hE dX1_doOp_155 rfl hP h
def w_X1_doOp (x1 : Int32) (x2 : Int32) (x3 : Nat) (I : zI) (P : zP) (K : zI → zP → Prop) : Prop := if x1 = 3 then (w_X1_loadType x2 I P (fun (I2 : zI) (P2 : zP) => (K I2 P2))) else (if x1 = 4 then (w_X1_takeAny I P (fun (v4 : Int32) (I4 : zI) (P4 : zP) => (w_X1_setLocalType x2 v4 I4 P4 (fun (I5 : zI) (P5 : zP) => (K I5 P5))))) else (if x1 = 5 then (w_X1_localType x2 I P (fun (v7 : Int32) (I7 : zI) (P7 : zP) => (if v7 = 1 then (zbo ((I 4 5) ||| 0) ∧ (K (zu I7 4 5 ((I 4 5) ||| 0)) P7)) else (zbo ((I 4 5) ||| 1) ∧ (K (zu I7 4 5 ((I 4 5) ||| 1)) P7))))) else (if x1 = 6 then (w_X1_shiftAny x1 I P (fun (I12 : zI) (P12 : zP) => (K I12 P12))) else (if x1 = 7 then (w_X1_shiftAny x1 I P (fun (I14 : zI) (P14 : zP) => (K I14 P14))) else (if x1 = 8 then (w_X1_shiftAny x1 I P (fun (I16 : zI) (P16 : zP) => (K I16 P16))) else (if x1 = 40 then (SHy[x3]? = some (14, (zlen x3)) ∧ (if (Int32.ofNat (zlen x3)) ≤ x2 then (j_X1_doOp_139 K 0 I P) else (vp_in x2 (zlen x3) ∧ (∃ v21, P x3 (x2).toNatClampNeg = some v21 ∧ (SHy[v21]? = some (3, 11) ∧ (j_X1_doOp_139 K (I v21 7) I P)))))) else (w_X1_doTyped x1 I P (fun (I24 : zI) (P24 : zP) => (K I24 P24)))))))))
theorem e_X1_doOp {x1 : Int32} {x2 : Int32} {x3 : Nat} {I : zI} {P : zP} {K : zI → zP → Prop} (hP : PSt P) (h : w_X1_doOp x1 x2 x3 I P K) : Ev yX1_doOp cX1_doOp 4 none 2 46 0 0 [.ref 4, .int x1, .int x2, .ref x3] SHy I P (zKv K) := by
  refine Ev.start [.ref 4, .int x1, .int x2, .ref x3] pn_X1 rfl (Nat.le_of_ble_eq_true rfl) rfl (fun κ cx hE => ?_)
  unfold w_X1_doOp at h
  refine g_iload_n cx dX1_doOp_0 rfl ?_
  by_cases c1 : x1 = 3
  · have h := zifp c1 h
    refine g_lookup cx (tgt := 68) (off := 67) dX1_doOp_1 (by decide) (by rw [c1]; decide) rfl ?_
    refine g_aload_n cx dX1_doOp_68 rfl ?_
    refine g_iload_n cx dX1_doOp_69 rfl ?_
    refine g_wVv cx [.int x2] [] (e_X1_loadType hP h) mt_X1_loadType ml_X1_105 rfl rfl rfl dX1_doOp_70 rfl rfl (Nat.le_of_ble_eq_true rfl) (Nat.le_of_ble_eq_true rfl) (Nat.le_of_ble_eq_true rfl) (fun I2 P2 hP h => ?_)
    refine g_goto cx (tgt := 155) dX1_doOp_73 rfl ?_
    exact g_wv cx hE dX1_doOp_155 rfl hP h
  · have h := zifn c1 h
    by_cases c3 : x1 = 4
    · have h := zifp c3 h
      refine g_lookup cx (tgt := 76) (off := 75) dX1_doOp_1 (by decide) (by rw [c3]; decide) rfl ?_
      refine g_aload_n cx dX1_doOp_76 rfl ?_
      refine g_iload_n cx dX1_doOp_77 rfl ?_
      refine g_aload_n cx dX1_doOp_78 rfl ?_
      refine g_wVi cx [] [.int x2, .ref 4] (e_X1_takeAny hP h) mt_X1_takeAny ml_X1_108 rfl rfl rfl dX1_doOp_79 rfl rfl (Nat.le_of_ble_eq_true rfl) (Nat.le_of_ble_eq_true rfl) (Nat.le_of_ble_eq_true rfl) (fun v4 I4 P4 hP h => ?_)
      refine g_wVv cx [.int x2, .int v4] [] (e_X1_setLocalType hP h) mt_X1_setLocalType ml_X1_112 rfl rfl rfl dX1_doOp_82 rfl rfl (Nat.le_of_ble_eq_true rfl) (Nat.le_of_ble_eq_true rfl) (Nat.le_of_ble_eq_true rfl) (fun I5 P5 hP h => ?_)
      refine g_goto cx (tgt := 155) dX1_doOp_85 rfl ?_
      exact g_wv cx hE dX1_doOp_155 rfl hP h
    · have h := zifn c3 h
      by_cases c6 : x1 = 5
      · have h := zifp c6 h
        refine g_lookup cx (tgt := 88) (off := 87) dX1_doOp_1 (by decide) (by rw [c6]; decide) rfl ?_
        refine g_aload_n cx dX1_doOp_88 rfl ?_
        refine g_dup cx dX1_doOp_89 rfl ?_
        refine g_getI cx lk_X1_29 rfl (Nat.le_of_ble_eq_true rfl) rfl dX1_doOp_90 (x := (I 4 5)) rfl ?_
        refine g_aload_n cx dX1_doOp_93 rfl ?_
        refine g_iload_n cx dX1_doOp_94 rfl ?_
        refine g_wVi cx [.int x2] [.int (I 4 5), .ref 4] (e_X1_localType hP h) mt_X1_localType ml_X1_116 rfl rfl rfl dX1_doOp_95 rfl rfl (Nat.le_of_ble_eq_true rfl) (Nat.le_of_ble_eq_true rfl) (Nat.le_of_ble_eq_true rfl) (fun v7 I7 P7 hP h => ?_)
        refine g_iconst cx dX1_doOp_98 ic_1 ?_
        refine g_icmp_eq cx (tgt := 106) dX1_doOp_99 rfl (fun c8 => ?_) (fun c8 => ?_)
        · have h := zifp c8 h
          refine g_iconst cx dX1_doOp_106 ic_0 ?_
          refine g_ior cx dX1_doOp_107 ?_
          obtain ⟨hc9, h⟩ := h
          refine g_pI cx lk_X1_29 rfl (Nat.le_of_ble_eq_true rfl) rfl dX1_doOp_108 fi_1_5 (zbo_n hc9) (zbo_f hc9) ?_
          refine g_goto cx (tgt := 155) dX1_doOp_111 rfl ?_
          exact g_wv cx hE dX1_doOp_155 rfl hP h
        · have h := zifn c8 h
          refine g_iconst cx dX1_doOp_102 ic_1 ?_
          refine g_goto cx (tgt := 107) dX1_doOp_103 rfl ?_
          refine g_ior cx dX1_doOp_107 ?_
          obtain ⟨hc10, h⟩ := h
          refine g_pI cx lk_X1_29 rfl (Nat.le_of_ble_eq_true rfl) rfl dX1_doOp_108 fi_1_5 (zbo_n hc10) (zbo_f hc10) ?_
          refine g_goto cx (tgt := 155) dX1_doOp_111 rfl ?_
          exact g_wv cx hE dX1_doOp_155 rfl hP h
      · have h := zifn c6 h
        by_cases c11 : x1 = 6
        · have h := zifp c11 h
          refine g_lookup cx (tgt := 114) (off := 113) dX1_doOp_1 (by decide) (by rw [c11]; decide) rfl ?_
          refine g_aload_n cx dX1_doOp_114 rfl ?_
          refine g_iload_n cx dX1_doOp_115 rfl ?_
          refine g_wVv cx [.int x1] [] (e_X1_shiftAny hP h) mt_X1_shiftAny ml_X1_119 rfl rfl rfl dX1_doOp_116 rfl rfl (Nat.le_of_ble_eq_true rfl) (Nat.le_of_ble_eq_true rfl) (Nat.le_of_ble_eq_true rfl) (fun I12 P12 hP h => ?_)
          refine g_goto cx (tgt := 155) dX1_doOp_119 rfl ?_
          exact g_wv cx hE dX1_doOp_155 rfl hP h
        · have h := zifn c11 h
          by_cases c13 : x1 = 7
          · have h := zifp c13 h
            refine g_lookup cx (tgt := 114) (off := 113) dX1_doOp_1 (by decide) (by rw [c13]; decide) rfl ?_
            refine g_aload_n cx dX1_doOp_114 rfl ?_
            refine g_iload_n cx dX1_doOp_115 rfl ?_
            refine g_wVv cx [.int x1] [] (e_X1_shiftAny hP h) mt_X1_shiftAny ml_X1_119 rfl rfl rfl dX1_doOp_116 rfl rfl (Nat.le_of_ble_eq_true rfl) (Nat.le_of_ble_eq_true rfl) (Nat.le_of_ble_eq_true rfl) (fun I14 P14 hP h => ?_)
            refine g_goto cx (tgt := 155) dX1_doOp_119 rfl ?_
            exact g_wv cx hE dX1_doOp_155 rfl hP h
          · have h := zifn c13 h
            by_cases c15 : x1 = 8
            · have h := zifp c15 h
              refine g_lookup cx (tgt := 114) (off := 113) dX1_doOp_1 (by decide) (by rw [c15]; decide) rfl ?_
              refine g_aload_n cx dX1_doOp_114 rfl ?_
              refine g_iload_n cx dX1_doOp_115 rfl ?_
              refine g_wVv cx [.int x1] [] (e_X1_shiftAny hP h) mt_X1_shiftAny ml_X1_119 rfl rfl rfl dX1_doOp_116 rfl rfl (Nat.le_of_ble_eq_true rfl) (Nat.le_of_ble_eq_true rfl) (Nat.le_of_ble_eq_true rfl) (fun I16 P16 hP h => ?_)
              refine g_goto cx (tgt := 155) dX1_doOp_119 rfl ?_
              exact g_wv cx hE dX1_doOp_155 rfl hP h
            · have h := zifn c15 h
              by_cases c17 : x1 = 40
              · have h := zifp c17 h
                refine g_lookup cx (tgt := 122) (off := 121) dX1_doOp_1 (by decide) (by rw [c17]; decide) rfl ?_
                refine g_aload_n cx dX1_doOp_122 rfl ?_
                refine g_iload_n cx dX1_doOp_123 rfl ?_
                refine g_aload_n cx dX1_doOp_124 rfl ?_
                obtain ⟨hs18, h⟩ := h
                refine g_alen cx hs18 (Nat.le_of_ble_eq_true rfl) (Nat.le_of_ble_eq_true rfl) dX1_doOp_125 ?_
                refine g_icmp_ge cx (tgt := 138) dX1_doOp_126 rfl (fun c19 => ?_) (fun c19 => ?_)
                · have h := zifp c19 h
                  refine g_iconst cx dX1_doOp_138 ic_0 ?_
                  refine (Gx.unset 1 (Gx.unset 2 (Gx.unset 3 (Gx.L [.ref 4, .float 0, .float 0, .float 0] rfl ?_))))
                  exact gj_X1_doOp_139 cx hE hP h
                · have h := zifn c19 h
                  refine g_aload_n cx dX1_doOp_129 rfl ?_
                  refine g_iload_n cx dX1_doOp_130 rfl ?_
                  obtain ⟨hc20, h⟩ := h
                  obtain ⟨v21, hv22, h⟩ := h
                  refine g_aald cx hs18 (Nat.le_of_ble_eq_true rfl) (Nat.le_of_ble_eq_true rfl) hc20 hv22 dX1_doOp_131 ?_
                  obtain ⟨hs23, h⟩ := h
                  refine g_getI cx lk_X1_48 hs23 (Nat.le_of_ble_eq_true rfl) rfl dX1_doOp_132 (x := (I v21 7)) rfl ?_
                  refine g_goto cx (tgt := 139) dX1_doOp_135 rfl ?_
                  refine (Gx.unset 1 (Gx.unset 2 (Gx.unset 3 (Gx.L [.ref 4, .float 0, .float 0, .float 0] rfl ?_))))
                  exact gj_X1_doOp_139 cx hE hP h
              · have h := zifn c17 h
                refine g_lookup cx (tgt := 150) (off := 149) dX1_doOp_1 (by decide) (by have q0 : (x1 : Int32).toInt ≠ 3 := i32ne c1; have q1 : (x1 : Int32).toInt ≠ 4 := i32ne c3; have q2 : (x1 : Int32).toInt ≠ 5 := i32ne c6; have q3 : (x1 : Int32).toInt ≠ 6 := i32ne c11; have q4 : (x1 : Int32).toInt ≠ 7 := i32ne c13; have q5 : (x1 : Int32).toInt ≠ 8 := i32ne c15; have q6 : (x1 : Int32).toInt ≠ 40 := i32ne c17; show Op.lookupswitch.offset [(3, 67), (4, 75), (5, 87), (6, 113), (7, 113), (8, 113), (40, 121)] 149 _ = _; (repeat (rw [Op.lookupswitch.offset_cons, if_neg (by omega)])); rfl) rfl ?_
                refine g_aload_n cx dX1_doOp_150 rfl ?_
                refine g_iload_n cx dX1_doOp_151 rfl ?_
                refine g_wVv cx [.int x1] [] (e_X1_doTyped hP h) mt_X1_doTyped ml_X1_128 rfl rfl rfl dX1_doOp_152 rfl rfl (Nat.le_of_ble_eq_true rfl) (Nat.le_of_ble_eq_true rfl) (Nat.le_of_ble_eq_true rfl) (fun I24 P24 hP h => ?_)
                exact g_wv cx hE dX1_doOp_155 rfl hP h
def w_X9_goesOn (x1 : Int32) (I : zI) (P : zP) (K : Int32 → zI → zP → Prop) : Prop := if x1 = 20 then (K 0 I P) else (if x1 = 84 then (K 0 I P) else (if x1 = 33 then (K 0 I P) else (if x1 = 41 then (K 0 I P) else (if x1 = 42 then (K 0 I P) else (K 1 I P)))))
theorem e_X9_goesOn {x1 : Int32} {I : zI} {P : zP} {K : Int32 → zI → zP → Prop} (hP : PSt P) (h : w_X9_goesOn x1 I P K) : Ev yX9_goesOn cX9_goesOn 1 (some .boolean) 0 0 0 0 [.int x1] SHy I P (zKi K) := by
  refine Ev.start [.int x1] pn_X9 rfl (Nat.le_of_ble_eq_true rfl) rfl (fun κ cx hE => ?_)
  unfold w_X9_goesOn at h
  refine g_iload_n cx dX9_goesOn_0 rfl ?_
  refine g_bipush cx dX9_goesOn_1 bp_20 ?_
  refine g_icmp_eq cx (tgt := 34) dX9_goesOn_3 rfl (fun c1 => ?_) (fun c1 => ?_)
  · have h := zifp c1 h
    refine g_iconst cx dX9_goesOn_34 ic_0 ?_
    exact g_wi cx hE dX9_goesOn_35 rfl rfl hP h
  · have h := zifn c1 h
    refine g_iload_n cx dX9_goesOn_6 rfl ?_
    refine g_bipush cx dX9_goesOn_7 bp_84 ?_
    refine g_icmp_eq cx (tgt := 34) dX9_goesOn_9 rfl (fun c2 => ?_) (fun c2 => ?_)
    · have h := zifp c2 h
      refine g_iconst cx dX9_goesOn_34 ic_0 ?_
      exact g_wi cx hE dX9_goesOn_35 rfl rfl hP h
    · have h := zifn c2 h
      refine g_iload_n cx dX9_goesOn_12 rfl ?_
      refine g_bipush cx dX9_goesOn_13 bp_33 ?_
      refine g_icmp_eq cx (tgt := 34) dX9_goesOn_15 rfl (fun c3 => ?_) (fun c3 => ?_)
      · have h := zifp c3 h
        refine g_iconst cx dX9_goesOn_34 ic_0 ?_
        exact g_wi cx hE dX9_goesOn_35 rfl rfl hP h
      · have h := zifn c3 h
        refine g_iload_n cx dX9_goesOn_18 rfl ?_
        refine g_bipush cx dX9_goesOn_19 bp_41 ?_
        refine g_icmp_eq cx (tgt := 34) dX9_goesOn_21 rfl (fun c4 => ?_) (fun c4 => ?_)
        · have h := zifp c4 h
          refine g_iconst cx dX9_goesOn_34 ic_0 ?_
          exact g_wi cx hE dX9_goesOn_35 rfl rfl hP h
        · have h := zifn c4 h
          refine g_iload_n cx dX9_goesOn_24 rfl ?_
          refine g_bipush cx dX9_goesOn_25 bp_42 ?_
          refine g_icmp_eq cx (tgt := 34) dX9_goesOn_27 rfl (fun c5 => ?_) (fun c5 => ?_)
          · have h := zifp c5 h
            refine g_iconst cx dX9_goesOn_34 ic_0 ?_
            exact g_wi cx hE dX9_goesOn_35 rfl rfl hP h
          · have h := zifn c5 h
            refine g_iconst cx dX9_goesOn_30 ic_1 ?_
            refine g_goto cx (tgt := 35) dX9_goesOn_31 rfl ?_
            exact g_wi cx hE dX9_goesOn_35 rfl rfl hP h
def w_X9_isLongJump (x1 : Int32) (I : zI) (P : zP) (K : Int32 → zI → zP → Prop) : Prop := if x1 < 84 then (K 0 I P) else (if 96 < x1 then (K 0 I P) else (K 1 I P))
theorem e_X9_isLongJump {x1 : Int32} {I : zI} {P : zP} {K : Int32 → zI → zP → Prop} (hP : PSt P) (h : w_X9_isLongJump x1 I P K) : Ev yX9_isLongJump cX9_isLongJump 1 (some .boolean) 0 0 0 0 [.int x1] SHy I P (zKi K) := by
  refine Ev.start [.int x1] pn_X9 rfl (Nat.le_of_ble_eq_true rfl) rfl (fun κ cx hE => ?_)
  unfold w_X9_isLongJump at h
  refine g_iload_n cx dX9_isLongJump_0 rfl ?_
  refine g_bipush cx dX9_isLongJump_1 bp_84 ?_
  refine g_icmp_lt cx (tgt := 16) dX9_isLongJump_3 rfl (fun c1 => ?_) (fun c1 => ?_)
  · have h := zifp c1 h
    refine g_iconst cx dX9_isLongJump_16 ic_0 ?_
    exact g_wi cx hE dX9_isLongJump_17 rfl rfl hP h
  · have h := zifn c1 h
    refine g_iload_n cx dX9_isLongJump_6 rfl ?_
    refine g_bipush cx dX9_isLongJump_7 bp_96 ?_
    refine g_icmp_gt cx (tgt := 16) dX9_isLongJump_9 rfl (fun c2 => ?_) (fun c2 => ?_)
    · have h := zifp c2 h
      refine g_iconst cx dX9_isLongJump_16 ic_0 ?_
      exact g_wi cx hE dX9_isLongJump_17 rfl rfl hP h
    · have h := zifn c2 h
      refine g_iconst cx dX9_isLongJump_12 ic_1 ?_
      refine g_goto cx (tgt := 17) dX9_isLongJump_13 rfl ?_
      exact g_wi cx hE dX9_isLongJump_17 rfl rfl hP h
def w_X9_shortOf (x1 : Int32) (I : zI) (P : zP) (K : Int32 → zI → zP → Prop) : Prop := w_X9_isLongJump x1 I P (fun (v1 : Int32) (I1 : zI) (P1 : zP) => (if v1 = 0 then (K x1 I1 P1) else (K (x1 - 64) I1 P1)))
theorem e_X9_shortOf {x1 : Int32} {I : zI} {P : zP} {K : Int32 → zI → zP → Prop} (hP : PSt P) (h : w_X9_shortOf x1 I P K) : Ev yX9_shortOf cX9_shortOf 1 (some .int) 1 20 0 0 [.int x1] SHy I P (zKi K) := by
  refine Ev.start [.int x1] pn_X9 rfl (Nat.le_of_ble_eq_true rfl) rfl (fun κ cx hE => ?_)
  unfold w_X9_shortOf at h
  refine g_iload_n cx dX9_shortOf_0 rfl ?_
  refine g_wSi cx [.int x1] [] (e_X9_isLongJump hP h) mt_X9_isLongJump ml_X9_207 dX9_shortOf_1 rfl rfl (Nat.le_of_ble_eq_true rfl) (Nat.le_of_ble_eq_true rfl) (Nat.le_of_ble_eq_true rfl) (fun v1 I1 P1 hP h => ?_)
  refine g_if_eq cx (tgt := 14) dX9_shortOf_4 rfl (fun c2 => ?_) (fun c2 => ?_)
  · have h := zifp c2 h
    refine g_iload_n cx dX9_shortOf_14 rfl ?_
    exact g_wi cx hE dX9_shortOf_15 rfl rfl hP h
  · have h := zifn c2 h
    refine g_iload_n cx dX9_shortOf_7 rfl ?_
    refine g_bipush cx dX9_shortOf_8 bp_64 ?_
    refine g_isub cx dX9_shortOf_10 ?_
    refine g_goto cx (tgt := 15) dX9_shortOf_11 rfl ?_
    exact g_wi cx hE dX9_shortOf_15 rfl rfl hP h
def w_X9_signedByteAt (x1 : Nat) (x2 : Int32) (I : zI) (P : zP) (K : Int32 → zI → zP → Prop) : Prop := if x2 < 0 then (K 0 I P) else (SHy[x1]? = some (11, (zlen x1)) ∧ (if (Int32.ofNat (zlen x1)) ≤ x2 then (K 0 I P) else (vp_in x2 (zlen x1) ∧ (K (((I x1 ((x2).toNatClampNeg)) : Int32).toInt8.toInt32) I P))))
theorem e_X9_signedByteAt {x1 : Nat} {x2 : Int32} {I : zI} {P : zP} {K : Int32 → zI → zP → Prop} (hP : PSt P) (h : w_X9_signedByteAt x1 x2 I P K) : Ev yX9_signedByteAt cX9_signedByteAt 2 (some .int) 0 0 0 0 [.ref x1, .int x2] SHy I P (zKi K) := by
  refine Ev.start [.ref x1, .int x2] pn_X9 rfl (Nat.le_of_ble_eq_true rfl) rfl (fun κ cx hE => ?_)
  unfold w_X9_signedByteAt at h
  refine g_iload_n cx dX9_signedByteAt_0 rfl ?_
  refine g_if_lt cx (tgt := 17) dX9_signedByteAt_1 rfl (fun c1 => ?_) (fun c1 => ?_)
  · have h := zifp c1 h
    refine g_iconst cx dX9_signedByteAt_17 ic_0 ?_
    exact g_wi cx hE dX9_signedByteAt_18 rfl rfl hP h
  · have h := zifn c1 h
    refine g_iload_n cx dX9_signedByteAt_4 rfl ?_
    refine g_aload_n cx dX9_signedByteAt_5 rfl ?_
    obtain ⟨hs2, h⟩ := h
    refine g_alen cx hs2 (Nat.le_of_ble_eq_true rfl) (Nat.le_of_ble_eq_true rfl) dX9_signedByteAt_6 ?_
    refine g_icmp_ge cx (tgt := 17) dX9_signedByteAt_7 rfl (fun c3 => ?_) (fun c3 => ?_)
    · have h := zifp c3 h
      refine g_iconst cx dX9_signedByteAt_17 ic_0 ?_
      exact g_wi cx hE dX9_signedByteAt_18 rfl rfl hP h
    · have h := zifn c3 h
      refine g_aload_n cx dX9_signedByteAt_10 rfl ?_
      refine g_iload_n cx dX9_signedByteAt_11 rfl ?_
      obtain ⟨hc4, h⟩ := h
      refine g_iald cx dX9_signedByteAt_12 hs2 hc4 (x := (I x1 ((x2).toNatClampNeg))) rfl ?_
      refine g_i2b cx dX9_signedByteAt_13 ?_
      refine g_goto cx (tgt := 18) dX9_signedByteAt_14 rfl ?_
      exact g_wi cx hE dX9_signedByteAt_18 rfl rfl hP h
def w_X9_signedPairAt (x1 : Nat) (x2 : Int32) (I : zI) (P : zP) (K : Int32 → zI → zP → Prop) : Prop := if x2 < 0 then (K 0 I P) else (SHy[x1]? = some (11, (zlen x1)) ∧ (if ((Int32.ofNat (zlen x1)) - 1) ≤ x2 then (K 0 I P) else (vp_in x2 (zlen x1) ∧ (vp_in (x2 + 1) (zlen x1) ∧ (K ((((((I x1 ((x2).toNatClampNeg)) : Int32) <<< ((8 : Int32) &&& 31)) ||| (I x1 (((x2 + 1)).toNatClampNeg))) : Int32).toInt16.toInt32) I P)))))
theorem e_X9_signedPairAt {x1 : Nat} {x2 : Int32} {I : zI} {P : zP} {K : Int32 → zI → zP → Prop} (hP : PSt P) (h : w_X9_signedPairAt x1 x2 I P K) : Ev yX9_signedPairAt cX9_signedPairAt 2 (some .int) 0 0 0 0 [.ref x1, .int x2] SHy I P (zKi K) := by
  refine Ev.start [.ref x1, .int x2] pn_X9 rfl (Nat.le_of_ble_eq_true rfl) rfl (fun κ cx hE => ?_)
  unfold w_X9_signedPairAt at h
  refine g_iload_n cx dX9_signedPairAt_0 rfl ?_
  refine g_if_lt cx (tgt := 28) dX9_signedPairAt_1 rfl (fun c1 => ?_) (fun c1 => ?_)
  · have h := zifp c1 h
    refine g_iconst cx dX9_signedPairAt_28 ic_0 ?_
    exact g_wi cx hE dX9_signedPairAt_29 rfl rfl hP h
  · have h := zifn c1 h
    refine g_iload_n cx dX9_signedPairAt_4 rfl ?_
    refine g_aload_n cx dX9_signedPairAt_5 rfl ?_
    obtain ⟨hs2, h⟩ := h
    refine g_alen cx hs2 (Nat.le_of_ble_eq_true rfl) (Nat.le_of_ble_eq_true rfl) dX9_signedPairAt_6 ?_
    refine g_iconst cx dX9_signedPairAt_7 ic_1 ?_
    refine g_isub cx dX9_signedPairAt_8 ?_
    refine g_icmp_ge cx (tgt := 28) dX9_signedPairAt_9 rfl (fun c3 => ?_) (fun c3 => ?_)
    · have h := zifp c3 h
      refine g_iconst cx dX9_signedPairAt_28 ic_0 ?_
      exact g_wi cx hE dX9_signedPairAt_29 rfl rfl hP h
    · have h := zifn c3 h
      refine g_aload_n cx dX9_signedPairAt_12 rfl ?_
      refine g_iload_n cx dX9_signedPairAt_13 rfl ?_
      obtain ⟨hc4, h⟩ := h
      refine g_iald cx dX9_signedPairAt_14 hs2 hc4 (x := (I x1 ((x2).toNatClampNeg))) rfl ?_
      refine g_bipush cx dX9_signedPairAt_15 bp_8 ?_
      refine g_ishl cx dX9_signedPairAt_17 ?_
      refine g_aload_n cx dX9_signedPairAt_18 rfl ?_
      refine g_iload_n cx dX9_signedPairAt_19 rfl ?_
      refine g_iconst cx dX9_signedPairAt_20 ic_1 ?_
      refine g_iadd cx dX9_signedPairAt_21 ?_
      obtain ⟨hc5, h⟩ := h
      refine g_iald cx dX9_signedPairAt_22 hs2 hc5 (x := (I x1 (((x2 + 1)).toNatClampNeg))) rfl ?_
      refine g_ior cx dX9_signedPairAt_23 ?_
      refine g_i2s cx dX9_signedPairAt_24 ?_
      refine g_goto cx (tgt := 29) dX9_signedPairAt_25 rfl ?_
      exact g_wi cx hE dX9_signedPairAt_29 rfl rfl hP h
def w_X9_targetAt (x1 : Nat) (x2 : Int32) (x3 : Int32) (I : zI) (P : zP) (K : Int32 → zI → zP → Prop) : Prop := w_X9_byteAt x1 x2 I P (fun (v1 : Int32) (I1 : zI) (P1 : zP) => (if v1 = 33 then (w_X9_signedPairAt x1 ((x2 + 2) + (2 * x3)) I1 P1 (fun (v7 : Int32) (I7 : zI) (P7 : zP) => (K (x2 + v7) I7 P7))) else (w_X9_isLongJump v1 I1 P1 (fun (v3 : Int32) (I3 : zI) (P3 : zP) => (if v3 = 0 then (w_X9_signedByteAt x1 (x2 + 1) I3 P3 (fun (v5 : Int32) (I5 : zI) (P5 : zP) => (K (x2 + v5) I5 P5))) else (w_X9_signedPairAt x1 (x2 + 1) I3 P3 (fun (v6 : Int32) (I6 : zI) (P6 : zP) => (K (x2 + v6) I6 P6))))))))
theorem e_X9_targetAt {x1 : Nat} {x2 : Int32} {x3 : Int32} {I : zI} {P : zP} {K : Int32 → zI → zP → Prop} (hP : PSt P) (h : w_X9_targetAt x1 x2 x3 I P K) : Ev yX9_targetAt cX9_targetAt 4 (some .int) 1 21 0 0 [.ref x1, .int x2, .int x3] SHy I P (zKi K) := by
  refine Ev.start [.ref x1, .int x2, .int x3, .float 0] pn_X9 rfl (Nat.le_of_ble_eq_true rfl) rfl (fun κ cx hE => ?_)
  unfold w_X9_targetAt at h
  refine g_aload_n cx dX9_targetAt_0 rfl ?_
  refine g_iload_n cx dX9_targetAt_1 rfl ?_
  refine g_wSi cx [.ref x1, .int x2] [] (e_X9_byteAt hP h) mt_X9_byteAt ml_X9_107 dX9_targetAt_2 rfl rfl (Nat.le_of_ble_eq_true rfl) (Nat.le_of_ble_eq_true rfl) (Nat.le_of_ble_eq_true rfl) (fun v1 I1 P1 hP h => ?_)
  refine g_istore_n cx dX9_targetAt_5 (Nat.le_of_ble_eq_true rfl) (Gx.L [.ref x1, .int x2, .int x3, .int v1] rfl ?_)
  refine g_iload_n cx dX9_targetAt_6 rfl ?_
  refine g_bipush cx dX9_targetAt_7 bp_33 ?_
  refine g_icmp_ne cx (tgt := 26) dX9_targetAt_9 rfl (fun c2 => ?_) (fun c2 => ?_)
  · have h := zifn c2 h
    refine g_iload_n cx dX9_targetAt_26 rfl ?_
    refine g_iload_n cx dX9_targetAt_27 rfl ?_
    refine g_wSi cx [.int v1] [.int x2] (e_X9_isLongJump hP h) mt_X9_isLongJump ml_X9_207 dX9_targetAt_28 rfl rfl (Nat.le_of_ble_eq_true rfl) (Nat.le_of_ble_eq_true rfl) (Nat.le_of_ble_eq_true rfl) (fun v3 I3 P3 hP h => ?_)
    refine g_if_eq cx (tgt := 44) dX9_targetAt_31 rfl (fun c4 => ?_) (fun c4 => ?_)
    · have h := zifp c4 h
      refine g_aload_n cx dX9_targetAt_44 rfl ?_
      refine g_iload_n cx dX9_targetAt_45 rfl ?_
      refine g_iconst cx dX9_targetAt_46 ic_1 ?_
      refine g_iadd cx dX9_targetAt_47 ?_
      refine g_wSi cx [.ref x1, .int (x2 + 1)] [.int x2] (e_X9_signedByteAt hP h) mt_X9_signedByteAt ml_X9_225 dX9_targetAt_48 rfl rfl (Nat.le_of_ble_eq_true rfl) (Nat.le_of_ble_eq_true rfl) (Nat.le_of_ble_eq_true rfl) (fun v5 I5 P5 hP h => ?_)
      refine g_iadd cx dX9_targetAt_51 ?_
      exact g_wi cx hE dX9_targetAt_52 rfl rfl hP h
    · have h := zifn c4 h
      refine g_aload_n cx dX9_targetAt_34 rfl ?_
      refine g_iload_n cx dX9_targetAt_35 rfl ?_
      refine g_iconst cx dX9_targetAt_36 ic_1 ?_
      refine g_iadd cx dX9_targetAt_37 ?_
      refine g_wSi cx [.ref x1, .int (x2 + 1)] [.int x2] (e_X9_signedPairAt hP h) mt_X9_signedPairAt ml_X9_203 dX9_targetAt_38 rfl rfl (Nat.le_of_ble_eq_true rfl) (Nat.le_of_ble_eq_true rfl) (Nat.le_of_ble_eq_true rfl) (fun v6 I6 P6 hP h => ?_)
      refine g_goto cx (tgt := 51) dX9_targetAt_41 rfl ?_
      refine g_iadd cx dX9_targetAt_51 ?_
      exact g_wi cx hE dX9_targetAt_52 rfl rfl hP h
  · have h := zifp c2 h
    refine g_iload_n cx dX9_targetAt_12 rfl ?_
    refine g_aload_n cx dX9_targetAt_13 rfl ?_
    refine g_iload_n cx dX9_targetAt_14 rfl ?_
    refine g_iconst cx dX9_targetAt_15 ic_2 ?_
    refine g_iadd cx dX9_targetAt_16 ?_
    refine g_iconst cx dX9_targetAt_17 ic_2 ?_
    refine g_iload_n cx dX9_targetAt_18 rfl ?_
    refine g_imul cx dX9_targetAt_19 ?_
    refine g_iadd cx dX9_targetAt_20 ?_
    refine g_wSi cx [.ref x1, .int ((x2 + 2) + (2 * x3))] [.int x2] (e_X9_signedPairAt hP h) mt_X9_signedPairAt ml_X9_203 dX9_targetAt_21 rfl rfl (Nat.le_of_ble_eq_true rfl) (Nat.le_of_ble_eq_true rfl) (Nat.le_of_ble_eq_true rfl) (fun v7 I7 P7 hP h => ?_)
    refine g_iadd cx dX9_targetAt_24 ?_
    exact g_wi cx hE dX9_targetAt_25 rfl rfl hP h
def w_X9_isShortJump (x1 : Int32) (I : zI) (P : zP) (K : Int32 → zI → zP → Prop) : Prop := if x1 < 20 then (K 0 I P) else (if 32 < x1 then (K 0 I P) else (K 1 I P))
theorem e_X9_isShortJump {x1 : Int32} {I : zI} {P : zP} {K : Int32 → zI → zP → Prop} (hP : PSt P) (h : w_X9_isShortJump x1 I P K) : Ev yX9_isShortJump cX9_isShortJump 1 (some .boolean) 0 0 0 0 [.int x1] SHy I P (zKi K) := by
  refine Ev.start [.int x1] pn_X9 rfl (Nat.le_of_ble_eq_true rfl) rfl (fun κ cx hE => ?_)
  unfold w_X9_isShortJump at h
  refine g_iload_n cx dX9_isShortJump_0 rfl ?_
  refine g_bipush cx dX9_isShortJump_1 bp_20 ?_
  refine g_icmp_lt cx (tgt := 16) dX9_isShortJump_3 rfl (fun c1 => ?_) (fun c1 => ?_)
  · have h := zifp c1 h
    refine g_iconst cx dX9_isShortJump_16 ic_0 ?_
    exact g_wi cx hE dX9_isShortJump_17 rfl rfl hP h
  · have h := zifn c1 h
    refine g_iload_n cx dX9_isShortJump_6 rfl ?_
    refine g_bipush cx dX9_isShortJump_7 bp_32 ?_
    refine g_icmp_gt cx (tgt := 16) dX9_isShortJump_9 rfl (fun c2 => ?_) (fun c2 => ?_)
    · have h := zifp c2 h
      refine g_iconst cx dX9_isShortJump_16 ic_0 ?_
      exact g_wi cx hE dX9_isShortJump_17 rfl rfl hP h
    · have h := zifn c2 h
      refine g_iconst cx dX9_isShortJump_12 ic_1 ?_
      refine g_goto cx (tgt := 17) dX9_isShortJump_13 rfl ?_
      exact g_wi cx hE dX9_isShortJump_17 rfl rfl hP h
def w_X9_targetCount (x1 : Nat) (x2 : Int32) (I : zI) (P : zP) (K : Int32 → zI → zP → Prop) : Prop := w_X9_byteAt x1 x2 I P (fun (v1 : Int32) (I1 : zI) (P1 : zP) => (if v1 = 33 then (w_X9_byteAt x1 (x2 + 1) I1 P1 (fun (v7 : Int32) (I7 : zI) (P7 : zP) => (K (v7 + 1) I7 P7))) else (w_X9_isShortJump v1 I1 P1 (fun (v3 : Int32) (I3 : zI) (P3 : zP) => (if v3 = 0 then (w_X9_isLongJump v1 I3 P3 (fun (v5 : Int32) (I5 : zI) (P5 : zP) => (if v5 = 0 then (K 0 I5 P5) else (K 1 I5 P5)))) else (K 1 I3 P3))))))
theorem e_X9_targetCount {x1 : Nat} {x2 : Int32} {I : zI} {P : zP} {K : Int32 → zI → zP → Prop} (hP : PSt P) (h : w_X9_targetCount x1 x2 I P K) : Ev yX9_targetCount cX9_targetCount 3 (some .int) 1 21 0 0 [.ref x1, .int x2] SHy I P (zKi K) := by
  refine Ev.start [.ref x1, .int x2, .float 0] pn_X9 rfl (Nat.le_of_ble_eq_true rfl) rfl (fun κ cx hE => ?_)
  unfold w_X9_targetCount at h
  refine g_aload_n cx dX9_targetCount_0 rfl ?_
  refine g_iload_n cx dX9_targetCount_1 rfl ?_
  refine g_wSi cx [.ref x1, .int x2] [] (e_X9_byteAt hP h) mt_X9_byteAt ml_X9_107 dX9_targetCount_2 rfl rfl (Nat.le_of_ble_eq_true rfl) (Nat.le_of_ble_eq_true rfl) (Nat.le_of_ble_eq_true rfl) (fun v1 I1 P1 hP h => ?_)
  refine g_istore_n cx dX9_targetCount_5 (Nat.le_of_ble_eq_true rfl) (Gx.L [.ref x1, .int x2, .int v1] rfl ?_)
  refine g_iload_n cx dX9_targetCount_6 rfl ?_
  refine g_bipush cx dX9_targetCount_7 bp_33 ?_
  refine g_icmp_ne cx (tgt := 22) dX9_targetCount_9 rfl (fun c2 => ?_) (fun c2 => ?_)
  · have h := zifn c2 h
    refine g_iload_n cx dX9_targetCount_22 rfl ?_
    refine g_wSi cx [.int v1] [] (e_X9_isShortJump hP h) mt_X9_isShortJump ml_X9_222 dX9_targetCount_23 rfl rfl (Nat.le_of_ble_eq_true rfl) (Nat.le_of_ble_eq_true rfl) (Nat.le_of_ble_eq_true rfl) (fun v3 I3 P3 hP h => ?_)
    refine g_if_ne cx (tgt := 36) dX9_targetCount_26 rfl (fun c4 => ?_) (fun c4 => ?_)
    · have h := zifn c4 h
      refine g_iconst cx dX9_targetCount_36 ic_1 ?_
      refine g_goto cx (tgt := 41) dX9_targetCount_37 rfl ?_
      exact g_wi cx hE dX9_targetCount_41 rfl rfl hP h
    · have h := zifp c4 h
      refine g_iload_n cx dX9_targetCount_29 rfl ?_
      refine g_wSi cx [.int v1] [] (e_X9_isLongJump hP h) mt_X9_isLongJump ml_X9_207 dX9_targetCount_30 rfl rfl (Nat.le_of_ble_eq_true rfl) (Nat.le_of_ble_eq_true rfl) (Nat.le_of_ble_eq_true rfl) (fun v5 I5 P5 hP h => ?_)
      refine g_if_eq cx (tgt := 40) dX9_targetCount_33 rfl (fun c6 => ?_) (fun c6 => ?_)
      · have h := zifp c6 h
        refine g_iconst cx dX9_targetCount_40 ic_0 ?_
        exact g_wi cx hE dX9_targetCount_41 rfl rfl hP h
      · have h := zifn c6 h
        refine g_iconst cx dX9_targetCount_36 ic_1 ?_
        refine g_goto cx (tgt := 41) dX9_targetCount_37 rfl ?_
        exact g_wi cx hE dX9_targetCount_41 rfl rfl hP h
  · have h := zifp c2 h
    refine g_aload_n cx dX9_targetCount_12 rfl ?_
    refine g_iload_n cx dX9_targetCount_13 rfl ?_
    refine g_iconst cx dX9_targetCount_14 ic_1 ?_
    refine g_iadd cx dX9_targetCount_15 ?_
    refine g_wSi cx [.ref x1, .int (x2 + 1)] [] (e_X9_byteAt hP h) mt_X9_byteAt ml_X9_107 dX9_targetCount_16 rfl rfl (Nat.le_of_ble_eq_true rfl) (Nat.le_of_ble_eq_true rfl) (Nat.le_of_ble_eq_true rfl) (fun v7 I7 P7 hP h => ?_)
    refine g_iconst cx dX9_targetCount_19 ic_1 ?_
    refine g_iadd cx dX9_targetCount_20 ?_
    exact g_wi cx hE dX9_targetCount_21 rfl rfl hP h
def l_X1_goFrom_157 (K : zI → zP → Prop) : Nat → Nat → Int32 → Int32 → Int32 → zI → zP → Prop
  | 0, _, _, _, _, _, _ => False
  | n + 1, y1, y2, y5, y6, I, P => if y5 ≤ y6 then (K I P) else (SHy[y1]? = some (3, 11) ∧ (∃ v3, P y1 1 = some v3 ∧ (w_X9_targetAt v3 y2 y6 I P (fun (v5 : Int32) (I5 : zI) (P5 : zP) => (w_X1_comeTo y1 v5 (I5 4 3) (I5 4 4) I5 P5 (fun (I6 : zI) (P6 : zP) => ((l_X1_goFrom_157 K n) y1 y2 y5 (y6 + 1) I6 P6)))))))
theorem gl_X1_goFrom_157 {κ : zX} (cx : Cx yX1_goFrom cX1_goFrom 7 none 3 69 κ) {K : zI → zP → Prop} (hE : zEnd (zKv K) 0 0 κ) : ∀ (n : Nat) (y1 : Nat) (y2 : Int32) (y5 : Int32) (y6 : Int32) (I : zI) (P : zP), PSt P → l_X1_goFrom_157 K n y1 y2 y5 y6 I P → Gx κ 157 [.ref 4, .ref y1, .int y2, .float 0, .float 0, .int y5, .int y6] [] SHy I P 0 0 := by
  intro n
  induction n with
  | zero =>
    intro y1 y2 y5 y6 I P hP h
    rw [l_X1_goFrom_157] at h
    exact False.elim h
  | succ n ih =>
    intro y1 y2 y5 y6 I P hP h
    rw [l_X1_goFrom_157] at h
    refine g_iload cx dX1_goFrom_157 rfl ?_
    refine g_iload cx dX1_goFrom_159 rfl ?_
    refine g_icmp_ge cx (tgt := 193) dX1_goFrom_161 rfl (fun c1 => ?_) (fun c1 => ?_)
    · have h := zifp c1 h
      exact g_wv cx hE dX1_goFrom_193 rfl hP h
    · have h := zifn c1 h
      refine g_aload_n cx dX1_goFrom_164 rfl ?_
      refine g_aload_n cx dX1_goFrom_165 rfl ?_
      refine g_aload_n cx dX1_goFrom_166 rfl ?_
      obtain ⟨hs2, h⟩ := h
      obtain ⟨v3, hv4, h⟩ := h
      refine g_getR cx lk_X1_70 hs2 (Nat.le_of_ble_eq_true rfl) rfl dX1_goFrom_167 hv4 ?_
      refine g_iload_n cx dX1_goFrom_170 rfl ?_
      refine g_iload cx dX1_goFrom_171 rfl ?_
      refine g_wSi cx [.ref v3, .int y2, .int y6] [.ref y1, .ref 4] (e_X9_targetAt hP h) mt_X9_targetAt ml_X1_95 dX1_goFrom_173 rfl rfl (Nat.le_of_ble_eq_true rfl) (Nat.le_of_ble_eq_true rfl) (Nat.le_of_ble_eq_true rfl) (fun v5 I5 P5 hP h => ?_)
      refine g_aload_n cx dX1_goFrom_176 rfl ?_
      refine g_getI cx lk_X1_23 rfl (Nat.le_of_ble_eq_true rfl) rfl dX1_goFrom_177 (x := (I5 4 3)) rfl ?_
      refine g_aload_n cx dX1_goFrom_180 rfl ?_
      refine g_getI cx lk_X1_26 rfl (Nat.le_of_ble_eq_true rfl) rfl dX1_goFrom_181 (x := (I5 4 4)) rfl ?_
      refine g_wVv cx [.ref y1, .int v5, .int (I5 4 3), .int (I5 4 4)] [] (e_X1_comeTo hP h) mt_X1_comeTo ml_X1_51 rfl rfl rfl dX1_goFrom_184 rfl rfl (Nat.le_of_ble_eq_true rfl) (Nat.le_of_ble_eq_true rfl) (Nat.le_of_ble_eq_true rfl) (fun I6 P6 hP h => ?_)
      refine g_iinc cx (v := (y6 + 1)) dX1_goFrom_187 rfl rfl (Nat.le_of_ble_eq_true rfl) (Gx.L [.ref 4, .ref y1, .int y2, .float 0, .float 0, .int y5, .int (y6 + 1)] rfl ?_)
      refine g_goto cx (tgt := 157) dX1_goFrom_190 rfl ?_
      exact ih _ _ _ _ _ _ hP h
def j_X1_goFrom_144 (K : zI → zP → Prop) (y1 : Nat) (y2 : Int32) (I : zI) (P : zP) : Prop := SHy[y1]? = some (3, 11) ∧ (∃ v2, P y1 1 = some v2 ∧ (w_X9_targetCount v2 y2 I P (fun (v4 : Int32) (I4 : zI) (P4 : zP) => (∃ n9, l_X1_goFrom_157 K n9 y1 y2 v4 0 I4 P4))))
theorem gj_X1_goFrom_144 {κ : zX} (cx : Cx yX1_goFrom cX1_goFrom 7 none 3 69 κ) {K : zI → zP → Prop} (hE : zEnd (zKv K) 0 0 κ) {y1 : Nat} {y2 : Int32} {I : zI} {P : zP} (hP : PSt P) (h : j_X1_goFrom_144 K y1 y2 I P) : Gx κ 144 [.ref 4, .ref y1, .int y2, .float 0, .float 0, .float 0, .float 0] [] SHy I P 0 0 := by
  unfold j_X1_goFrom_144 at h
  refine g_aload_n cx dX1_goFrom_144 rfl ?_
  obtain ⟨hs1, h⟩ := h
  obtain ⟨v2, hv3, h⟩ := h
  refine g_getR cx lk_X1_70 hs1 (Nat.le_of_ble_eq_true rfl) rfl dX1_goFrom_145 hv3 ?_
  refine g_iload_n cx dX1_goFrom_148 rfl ?_
  refine g_wSi cx [.ref v2, .int y2] [] (e_X9_targetCount hP h) mt_X9_targetCount ml_X1_92 dX1_goFrom_149 rfl rfl (Nat.le_of_ble_eq_true rfl) (Nat.le_of_ble_eq_true rfl) (Nat.le_of_ble_eq_true rfl) (fun v4 I4 P4 hP h => ?_)
  refine g_istore cx dX1_goFrom_152 (Nat.le_of_ble_eq_true rfl) (Gx.L [.ref 4, .ref y1, .int y2, .float 0, .float 0, .int v4, .float 0] rfl ?_)
  refine g_iconst cx dX1_goFrom_154 ic_0 ?_
  refine g_istore cx dX1_goFrom_155 (Nat.le_of_ble_eq_true rfl) (Gx.L [.ref 4, .ref y1, .int y2, .float 0, .float 0, .int v4, .int 0] rfl ?_)
  obtain ⟨n9, h⟩ := h
  exact gl_X1_goFrom_157 cx hE n9 _ _ _ _ _ _ hP h
def l_X1_goFrom_23 (K : zI → zP → Prop) : Nat → Nat → Int32 → Nat → Int32 → zI → zP → Prop
  | 0, _, _, _, _, _, _ => False
  | n + 1, y1, y2, y3, y4, I, P => SHy[y1]? = some (3, 11) ∧ (if (I y1 10) ≤ y4 then (∃ v3, P y1 1 = some v3 ∧ (SHy[v3]? = some (11, (zlen v3)) ∧ (vp_in y2 (zlen v3) ∧ (w_X9_shortOf (I v3 ((y2).toNatClampNeg)) I P (fun (v7 : Int32) (I7 : zI) (P7 : zP) => (∃ v8, P7 y1 1 = some v8 ∧ (w_X9_byteAt v8 (y2 + 1) I7 P7 (fun (v10 : Int32) (I10 : zI) (P10 : zP) => (w_X1_doOp v7 v10 y3 I10 P10 (fun (I11 : zI) (P11 : zP) => (w_X9_goesOn (I v3 ((y2).toNatClampNeg)) I11 P11 (fun (v12 : Int32) (I12 : zI) (P12 : zP) => (if v12 = 0 then (j_X1_goFrom_144 K y1 y2 I12 P12) else (∃ v14, P12 y1 2 = some v14 ∧ (SHy[v14]? = some (11, (zlen v14)) ∧ (vp_in y2 (zlen v14) ∧ (w_X1_comeTo y1 (y2 + (I12 v14 ((y2).toNatClampNeg))) (I12 4 3) (I12 4 4) I12 P12 (fun (I18 : zI) (P18 : zP) => (j_X1_goFrom_144 K y1 y2 I18 P18))))))))))))))))))) else (∃ v19, P y1 5 = some v19 ∧ (w_X9_handlerPart v19 y4 0 I P (fun (v21 : Int32) (I21 : zI) (P21 : zP) => (if y2 < v21 then ((l_X1_goFrom_23 K n) y1 y2 y3 (y4 + 1) I21 P21) else (∃ v23, P21 y1 5 = some v23 ∧ (w_X9_handlerPart v23 y4 1 I21 P21 (fun (v25 : Int32) (I25 : zI) (P25 : zP) => (if v25 ≤ y2 then ((l_X1_goFrom_23 K n) y1 y2 y3 (y4 + 1) I25 P25) else (∃ v27, P25 y1 5 = some v27 ∧ (w_X9_handlerPart v27 y4 2 I25 P25 (fun (v29 : Int32) (I29 : zI) (P29 : zP) => (w_X1_comeTo y1 v29 1048577 (I29 4 4) I29 P29 (fun (I30 : zI) (P30 : zP) => ((l_X1_goFrom_23 K n) y1 y2 y3 (y4 + 1) I30 P30)))))))))))))))
theorem gl_X1_goFrom_23 {κ : zX} (cx : Cx yX1_goFrom cX1_goFrom 7 none 3 69 κ) {K : zI → zP → Prop} (hE : zEnd (zKv K) 0 0 κ) : ∀ (n : Nat) (y1 : Nat) (y2 : Int32) (y3 : Nat) (y4 : Int32) (I : zI) (P : zP), PSt P → l_X1_goFrom_23 K n y1 y2 y3 y4 I P → Gx κ 23 [.ref 4, .ref y1, .int y2, .ref y3, .int y4, .float 0, .float 0] [] SHy I P 0 0 := by
  intro n
  induction n with
  | zero =>
    intro y1 y2 y3 y4 I P hP h
    rw [l_X1_goFrom_23] at h
    exact False.elim h
  | succ n ih =>
    intro y1 y2 y3 y4 I P hP h
    rw [l_X1_goFrom_23] at h
    refine g_iload cx dX1_goFrom_23 rfl ?_
    refine g_aload_n cx dX1_goFrom_25 rfl ?_
    obtain ⟨hs1, h⟩ := h
    refine g_getI cx lk_X1_59 hs1 (Nat.le_of_ble_eq_true rfl) rfl dX1_goFrom_26 (x := (I y1 10)) rfl ?_
    refine g_icmp_ge cx (tgt := 87) dX1_goFrom_29 rfl (fun c2 => ?_) (fun c2 => ?_)
    · have h := zifp c2 h
      refine g_aload_n cx dX1_goFrom_87 rfl ?_
      obtain ⟨v3, hv4, h⟩ := h
      refine g_getR cx lk_X1_70 hs1 (Nat.le_of_ble_eq_true rfl) rfl dX1_goFrom_88 hv4 ?_
      refine g_iload_n cx dX1_goFrom_91 rfl ?_
      obtain ⟨hs5, h⟩ := h
      obtain ⟨hc6, h⟩ := h
      refine g_iald cx dX1_goFrom_92 hs5 hc6 (x := (I v3 ((y2).toNatClampNeg))) rfl ?_
      refine g_istore cx dX1_goFrom_93 (Nat.le_of_ble_eq_true rfl) (Gx.L [.ref 4, .ref y1, .int y2, .ref y3, .int (I v3 ((y2).toNatClampNeg)), .float 0, .float 0] rfl ?_)
      refine g_aload_n cx dX1_goFrom_95 rfl ?_
      refine g_iload cx dX1_goFrom_96 rfl ?_
      refine g_wSi cx [.int (I v3 ((y2).toNatClampNeg))] [.ref 4] (e_X9_shortOf hP h) mt_X9_shortOf ml_X1_73 dX1_goFrom_98 rfl rfl (Nat.le_of_ble_eq_true rfl) (Nat.le_of_ble_eq_true rfl) (Nat.le_of_ble_eq_true rfl) (fun v7 I7 P7 hP h => ?_)
      refine g_aload_n cx dX1_goFrom_101 rfl ?_
      obtain ⟨v8, hv9, h⟩ := h
      refine g_getR cx lk_X1_70 hs1 (Nat.le_of_ble_eq_true rfl) rfl dX1_goFrom_102 hv9 ?_
      refine g_iload_n cx dX1_goFrom_105 rfl ?_
      refine g_iconst cx dX1_goFrom_106 ic_1 ?_
      refine g_iadd cx dX1_goFrom_107 ?_
      refine g_wSi cx [.ref v8, .int (y2 + 1)] [.int v7, .ref 4] (e_X9_byteAt hP h) mt_X9_byteAt ml_X1_77 dX1_goFrom_108 rfl rfl (Nat.le_of_ble_eq_true rfl) (Nat.le_of_ble_eq_true rfl) (Nat.le_of_ble_eq_true rfl) (fun v10 I10 P10 hP h => ?_)
      refine g_aload_n cx dX1_goFrom_111 rfl ?_
      refine g_wVv cx [.int v7, .int v10, .ref y3] [] (e_X1_doOp hP h) mt_X1_doOp ml_X1_81 rfl rfl rfl dX1_goFrom_112 rfl rfl (Nat.le_of_ble_eq_true rfl) (Nat.le_of_ble_eq_true rfl) (Nat.le_of_ble_eq_true rfl) (fun I11 P11 hP h => ?_)
      refine g_iload cx dX1_goFrom_115 rfl ?_
      refine g_wSi cx [.int (I v3 ((y2).toNatClampNeg))] [] (e_X9_goesOn hP h) mt_X9_goesOn ml_X1_85 dX1_goFrom_117 rfl rfl (Nat.le_of_ble_eq_true rfl) (Nat.le_of_ble_eq_true rfl) (Nat.le_of_ble_eq_true rfl) (fun v12 I12 P12 hP h => ?_)
      refine g_if_eq cx (tgt := 144) dX1_goFrom_120 rfl (fun c13 => ?_) (fun c13 => ?_)
      · have h := zifp c13 h
        refine (Gx.unset 3 (Gx.unset 4 (Gx.L [.ref 4, .ref y1, .int y2, .float 0, .float 0, .float 0, .float 0] rfl ?_)))
        exact gj_X1_goFrom_144 cx hE hP h
      · have h := zifn c13 h
        refine g_aload_n cx dX1_goFrom_123 rfl ?_
        refine g_aload_n cx dX1_goFrom_124 rfl ?_
        refine g_iload_n cx dX1_goFrom_125 rfl ?_
        refine g_aload_n cx dX1_goFrom_126 rfl ?_
        obtain ⟨v14, hv15, h⟩ := h
        refine g_getR cx lk_X1_89 hs1 (Nat.le_of_ble_eq_true rfl) rfl dX1_goFrom_127 hv15 ?_
        refine g_iload_n cx dX1_goFrom_130 rfl ?_
        obtain ⟨hs16, h⟩ := h
        obtain ⟨hc17, h⟩ := h
        refine g_iald cx dX1_goFrom_131 hs16 hc17 (x := (I12 v14 ((y2).toNatClampNeg))) rfl ?_
        refine g_iadd cx dX1_goFrom_132 ?_
        refine g_aload_n cx dX1_goFrom_133 rfl ?_
        refine g_getI cx lk_X1_23 rfl (Nat.le_of_ble_eq_true rfl) rfl dX1_goFrom_134 (x := (I12 4 3)) rfl ?_
        refine g_aload_n cx dX1_goFrom_137 rfl ?_
        refine g_getI cx lk_X1_26 rfl (Nat.le_of_ble_eq_true rfl) rfl dX1_goFrom_138 (x := (I12 4 4)) rfl ?_
        refine g_wVv cx [.ref y1, .int (y2 + (I12 v14 ((y2).toNatClampNeg))), .int (I12 4 3), .int (I12 4 4)] [] (e_X1_comeTo hP h) mt_X1_comeTo ml_X1_51 rfl rfl rfl dX1_goFrom_141 rfl rfl (Nat.le_of_ble_eq_true rfl) (Nat.le_of_ble_eq_true rfl) (Nat.le_of_ble_eq_true rfl) (fun I18 P18 hP h => ?_)
        refine (Gx.unset 3 (Gx.unset 4 (Gx.L [.ref 4, .ref y1, .int y2, .float 0, .float 0, .float 0, .float 0] rfl ?_)))
        exact gj_X1_goFrom_144 cx hE hP h
    · have h := zifn c2 h
      refine g_iload_n cx dX1_goFrom_32 rfl ?_
      refine g_aload_n cx dX1_goFrom_33 rfl ?_
      obtain ⟨v19, hv20, h⟩ := h
      refine g_getR cx lk_X1_62 hs1 (Nat.le_of_ble_eq_true rfl) rfl dX1_goFrom_34 hv20 ?_
      refine g_iload cx dX1_goFrom_37 rfl ?_
      refine g_iconst cx dX1_goFrom_39 ic_0 ?_
      refine g_wSi cx [.ref v19, .int y4, .int 0] [.int y2] (e_X9_handlerPart hP h) mt_X9_handlerPart ml_X1_65 dX1_goFrom_40 rfl rfl (Nat.le_of_ble_eq_true rfl) (Nat.le_of_ble_eq_true rfl) (Nat.le_of_ble_eq_true rfl) (fun v21 I21 P21 hP h => ?_)
      refine g_icmp_lt cx (tgt := 81) dX1_goFrom_43 rfl (fun c22 => ?_) (fun c22 => ?_)
      · have h := zifp c22 h
        refine g_iinc cx (v := (y4 + 1)) dX1_goFrom_81 rfl rfl (Nat.le_of_ble_eq_true rfl) (Gx.L [.ref 4, .ref y1, .int y2, .ref y3, .int (y4 + 1), .float 0, .float 0] rfl ?_)
        refine g_goto cx (tgt := 23) dX1_goFrom_84 rfl ?_
        exact ih _ _ _ _ _ _ hP h
      · have h := zifn c22 h
        refine g_iload_n cx dX1_goFrom_46 rfl ?_
        refine g_aload_n cx dX1_goFrom_47 rfl ?_
        obtain ⟨v23, hv24, h⟩ := h
        refine g_getR cx lk_X1_62 hs1 (Nat.le_of_ble_eq_true rfl) rfl dX1_goFrom_48 hv24 ?_
        refine g_iload cx dX1_goFrom_51 rfl ?_
        refine g_iconst cx dX1_goFrom_53 ic_1 ?_
        refine g_wSi cx [.ref v23, .int y4, .int 1] [.int y2] (e_X9_handlerPart hP h) mt_X9_handlerPart ml_X1_65 dX1_goFrom_54 rfl rfl (Nat.le_of_ble_eq_true rfl) (Nat.le_of_ble_eq_true rfl) (Nat.le_of_ble_eq_true rfl) (fun v25 I25 P25 hP h => ?_)
        refine g_icmp_ge cx (tgt := 81) dX1_goFrom_57 rfl (fun c26 => ?_) (fun c26 => ?_)
        · have h := zifp c26 h
          refine g_iinc cx (v := (y4 + 1)) dX1_goFrom_81 rfl rfl (Nat.le_of_ble_eq_true rfl) (Gx.L [.ref 4, .ref y1, .int y2, .ref y3, .int (y4 + 1), .float 0, .float 0] rfl ?_)
          refine g_goto cx (tgt := 23) dX1_goFrom_84 rfl ?_
          exact ih _ _ _ _ _ _ hP h
        · have h := zifn c26 h
          refine g_aload_n cx dX1_goFrom_60 rfl ?_
          refine g_aload_n cx dX1_goFrom_61 rfl ?_
          refine g_aload_n cx dX1_goFrom_62 rfl ?_
          obtain ⟨v27, hv28, h⟩ := h
          refine g_getR cx lk_X1_62 hs1 (Nat.le_of_ble_eq_true rfl) rfl dX1_goFrom_63 hv28 ?_
          refine g_iload cx dX1_goFrom_66 rfl ?_
          refine g_iconst cx dX1_goFrom_68 ic_2 ?_
          refine g_wSi cx [.ref v27, .int y4, .int 2] [.ref y1, .ref 4] (e_X9_handlerPart hP h) mt_X9_handlerPart ml_X1_65 dX1_goFrom_69 rfl rfl (Nat.le_of_ble_eq_true rfl) (Nat.le_of_ble_eq_true rfl) (Nat.le_of_ble_eq_true rfl) (fun v29 I29 P29 hP h => ?_)
          refine g_ldc cx dX1_goFrom_72 ldc_X1_69 ?_
          refine g_aload_n cx dX1_goFrom_74 rfl ?_
          refine g_getI cx lk_X1_26 rfl (Nat.le_of_ble_eq_true rfl) rfl dX1_goFrom_75 (x := (I29 4 4)) rfl ?_
          refine g_wVv cx [.ref y1, .int v29, .int 1048577, .int (I29 4 4)] [] (e_X1_comeTo hP h) mt_X1_comeTo ml_X1_51 rfl rfl rfl dX1_goFrom_78 rfl rfl (Nat.le_of_ble_eq_true rfl) (Nat.le_of_ble_eq_true rfl) (Nat.le_of_ble_eq_true rfl) (fun I30 P30 hP h => ?_)
          refine g_iinc cx (v := (y4 + 1)) dX1_goFrom_81 rfl rfl (Nat.le_of_ble_eq_true rfl) (Gx.L [.ref 4, .ref y1, .int y2, .ref y3, .int (y4 + 1), .float 0, .float 0] rfl ?_)
          refine g_goto cx (tgt := 23) dX1_goFrom_84 rfl ?_
          exact ih _ _ _ _ _ _ hP h
def w_X1_goFrom (x1 : Nat) (x2 : Int32) (x3 : Nat) (I : zI) (P : zP) (K : zI → zP → Prop) : Prop := SHy[x1]? = some (3, 11) ∧ (∃ v2, P x1 3 = some v2 ∧ (SHy[v2]? = some (11, (zlen v2)) ∧ (vp_in x2 (zlen v2) ∧ (∃ v6, P x1 4 = some v6 ∧ (SHy[v6]? = some (11, (zlen v6)) ∧ (vp_in x2 (zlen v6) ∧ (∃ n9, l_X1_goFrom_23 K n9 x1 x2 x3 0 (zu (zu I 4 3 (I v2 ((x2).toNatClampNeg))) 4 4 ((zu I 4 3 (I v2 ((x2).toNatClampNeg))) v6 ((x2).toNatClampNeg))) P)))))))
theorem e_X1_goFrom {x1 : Nat} {x2 : Int32} {x3 : Nat} {I : zI} {P : zP} {K : zI → zP → Prop} (hP : PSt P) (h : w_X1_goFrom x1 x2 x3 I P K) : Ev yX1_goFrom cX1_goFrom 7 none 3 69 0 0 [.ref 4, .ref x1, .int x2, .ref x3] SHy I P (zKv K) := by
  refine Ev.start [.ref 4, .ref x1, .int x2, .ref x3, .float 0, .float 0, .float 0] pn_X1 rfl (Nat.le_of_ble_eq_true rfl) rfl (fun κ cx hE => ?_)
  unfold w_X1_goFrom at h
  refine g_aload_n cx dX1_goFrom_0 rfl ?_
  refine g_aload_n cx dX1_goFrom_1 rfl ?_
  obtain ⟨hs1, h⟩ := h
  obtain ⟨v2, hv3, h⟩ := h
  refine g_getR cx lk_X1_33 hs1 (Nat.le_of_ble_eq_true rfl) rfl dX1_goFrom_2 hv3 ?_
  refine g_iload_n cx dX1_goFrom_5 rfl ?_
  obtain ⟨hs4, h⟩ := h
  obtain ⟨hc5, h⟩ := h
  refine g_iald cx dX1_goFrom_6 hs4 hc5 (x := (I v2 ((x2).toNatClampNeg))) rfl ?_
  refine g_pI cx lk_X1_23 rfl (Nat.le_of_ble_eq_true rfl) rfl dX1_goFrom_7 fi_1_3 rfl rfl ?_
  refine g_aload_n cx dX1_goFrom_10 rfl ?_
  refine g_aload_n cx dX1_goFrom_11 rfl ?_
  obtain ⟨v6, hv7, h⟩ := h
  refine g_getR cx lk_X1_44 hs1 (Nat.le_of_ble_eq_true rfl) rfl dX1_goFrom_12 hv7 ?_
  refine g_iload_n cx dX1_goFrom_15 rfl ?_
  obtain ⟨hs8, h⟩ := h
  obtain ⟨hc9, h⟩ := h
  refine g_iald cx dX1_goFrom_16 hs8 hc9 (x := ((zu I 4 3 (I v2 ((x2).toNatClampNeg))) v6 ((x2).toNatClampNeg))) rfl ?_
  refine g_pI cx lk_X1_26 rfl (Nat.le_of_ble_eq_true rfl) rfl dX1_goFrom_17 fi_1_4 rfl rfl ?_
  refine g_iconst cx dX1_goFrom_20 ic_0 ?_
  refine g_istore cx dX1_goFrom_21 (Nat.le_of_ble_eq_true rfl) (Gx.L [.ref 4, .ref x1, .int x2, .ref x3, .int 0, .float 0, .float 0] rfl ?_)
  obtain ⟨n9, h⟩ := h
  exact gl_X1_goFrom_23 cx hE n9 _ _ _ _ _ _ hP h
def j_X1_accepts_134 (K : Int32 → zI → zP → Prop) (I : zI) (P : zP) : Prop := if (I 4 5) = 0 then (K 1 I P) else (K 0 I P)
theorem gj_X1_accepts_134 {κ : zX} (cx : Cx yX1_accepts cX1_accepts 5 (some .boolean) 4 95 κ) {K : Int32 → zI → zP → Prop} (hE : zEnd (zKi K) 0 0 κ) {I : zI} {P : zP} (hP : PSt P) (h : j_X1_accepts_134 K I P) : Gx κ 134 [.ref 4, .float 0, .float 0, .float 0, .float 0] [] SHy I P 0 0 := by
  unfold j_X1_accepts_134 at h
  refine g_aload_n cx dX1_accepts_134 rfl ?_
  refine g_getI cx lk_X1_29 rfl (Nat.le_of_ble_eq_true rfl) rfl dX1_accepts_135 (x := (I 4 5)) rfl ?_
  refine g_if_ne cx (tgt := 145) dX1_accepts_138 rfl (fun c1 => ?_) (fun c1 => ?_)
  · have h := zifn c1 h
    refine g_iconst cx dX1_accepts_145 ic_0 ?_
    exact g_wi cx hE dX1_accepts_146 rfl rfl hP h
  · have h := zifp c1 h
    refine g_iconst cx dX1_accepts_141 ic_1 ?_
    refine g_goto cx (tgt := 146) dX1_accepts_142 rfl ?_
    exact g_wi cx hE dX1_accepts_146 rfl rfl hP h
def l_X1_accepts_70 (K : Int32 → zI → zP → Prop) : Nat → Nat → Nat → Int32 → zI → zP → Prop
  | 0, _, _, _, _, _ => False
  | n + 1, y1, y2, y3, I, P => if 5200 ≤ y3 then (j_X1_accepts_134 K I P) else (if (I 4 2) ≤ 0 then (j_X1_accepts_134 K I P) else (if (I 4 5) = 0 then (vp_in ((I 4 2) - 1) 400 ∧ (vp_in ((zu I 4 2 ((I 4 2) - 1)) 5 ((((I 4 2) - 1)).toNatClampNeg)) 400 ∧ (w_X1_goFrom y1 ((zu I 4 2 ((I 4 2) - 1)) 5 ((((I 4 2) - 1)).toNatClampNeg)) y2 (zu (zu I 4 2 ((I 4 2) - 1)) 6 ((((zu I 4 2 ((I 4 2) - 1)) 5 ((((I 4 2) - 1)).toNatClampNeg))).toNatClampNeg) (vp_nar .boolean 0)) P (fun (I6 : zI) (P6 : zP) => ((l_X1_accepts_70 K n) y1 y2 (y3 + 1) I6 P6))))) else (j_X1_accepts_134 K I P)))
theorem gl_X1_accepts_70 {κ : zX} (cx : Cx yX1_accepts cX1_accepts 5 (some .boolean) 4 95 κ) {K : Int32 → zI → zP → Prop} (hE : zEnd (zKi K) 0 0 κ) : ∀ (n : Nat) (y1 : Nat) (y2 : Nat) (y3 : Int32) (I : zI) (P : zP), PSt P → l_X1_accepts_70 K n y1 y2 y3 I P → Gx κ 70 [.ref 4, .ref y1, .ref y2, .int y3, .float 0] [] SHy I P 0 0 := by
  intro n
  induction n with
  | zero =>
    intro y1 y2 y3 I P hP h
    rw [l_X1_accepts_70] at h
    exact False.elim h
  | succ n ih =>
    intro y1 y2 y3 I P hP h
    rw [l_X1_accepts_70] at h
    refine g_iload_n cx dX1_accepts_70 rfl ?_
    refine g_sipush cx dX1_accepts_71 sp_5200 ?_
    refine g_icmp_ge cx (tgt := 134) dX1_accepts_74 rfl (fun c1 => ?_) (fun c1 => ?_)
    · have h := zifp c1 h
      refine (Gx.unset 1 (Gx.unset 2 (Gx.unset 3 (Gx.L [.ref 4, .float 0, .float 0, .float 0, .float 0] rfl ?_))))
      exact gj_X1_accepts_134 cx hE hP h
    · have h := zifn c1 h
      refine g_aload_n cx dX1_accepts_77 rfl ?_
      refine g_getI cx lk_X1_19 rfl (Nat.le_of_ble_eq_true rfl) rfl dX1_accepts_78 (x := (I 4 2)) rfl ?_
      refine g_if_le cx (tgt := 134) dX1_accepts_81 rfl (fun c2 => ?_) (fun c2 => ?_)
      · have h := zifp c2 h
        refine (Gx.unset 1 (Gx.unset 2 (Gx.unset 3 (Gx.L [.ref 4, .float 0, .float 0, .float 0, .float 0] rfl ?_))))
        exact gj_X1_accepts_134 cx hE hP h
      · have h := zifn c2 h
        refine g_aload_n cx dX1_accepts_84 rfl ?_
        refine g_getI cx lk_X1_29 rfl (Nat.le_of_ble_eq_true rfl) rfl dX1_accepts_85 (x := (I 4 5)) rfl ?_
        refine g_if_ne cx (tgt := 134) dX1_accepts_88 rfl (fun c3 => ?_) (fun c3 => ?_)
        · have h := zifn c3 h
          refine (Gx.unset 1 (Gx.unset 2 (Gx.unset 3 (Gx.L [.ref 4, .float 0, .float 0, .float 0, .float 0] rfl ?_))))
          exact gj_X1_accepts_134 cx hE hP h
        · have h := zifp c3 h
          refine g_aload_n cx dX1_accepts_91 rfl ?_
          refine g_dup cx dX1_accepts_92 rfl ?_
          refine g_getI cx lk_X1_19 rfl (Nat.le_of_ble_eq_true rfl) rfl dX1_accepts_93 (x := (I 4 2)) rfl ?_
          refine g_iconst cx dX1_accepts_96 ic_1 ?_
          refine g_isub cx dX1_accepts_97 ?_
          refine g_pI cx lk_X1_19 rfl (Nat.le_of_ble_eq_true rfl) rfl dX1_accepts_98 fi_1_2 rfl rfl ?_
          refine g_aload_n cx dX1_accepts_101 rfl ?_
          refine g_getR cx lk_X1_9 rfl (Nat.le_of_ble_eq_true rfl) rfl dX1_accepts_102 (v := 5) (pst hP 2 rfl) ?_
          refine g_aload_n cx dX1_accepts_105 rfl ?_
          refine g_getI cx lk_X1_19 rfl (Nat.le_of_ble_eq_true rfl) rfl dX1_accepts_106 (x := ((I 4 2) - 1)) rfl ?_
          obtain ⟨hc4, h⟩ := h
          refine g_iald cx dX1_accepts_109 rfl hc4 (x := ((zu I 4 2 ((I 4 2) - 1)) 5 ((((I 4 2) - 1)).toNatClampNeg))) rfl ?_
          refine g_istore cx dX1_accepts_110 (Nat.le_of_ble_eq_true rfl) (Gx.L [.ref 4, .ref y1, .ref y2, .int y3, .int ((zu I 4 2 ((I 4 2) - 1)) 5 ((((I 4 2) - 1)).toNatClampNeg))] rfl ?_)
          refine g_aload_n cx dX1_accepts_112 rfl ?_
          refine g_getR cx lk_X1_15 rfl (Nat.le_of_ble_eq_true rfl) rfl dX1_accepts_113 (v := 6) (pst hP 3 rfl) ?_
          refine g_iload cx dX1_accepts_116 rfl ?_
          refine g_iconst cx dX1_accepts_118 ic_0 ?_
          obtain ⟨hc5, h⟩ := h
          refine g_bast cx dX1_accepts_119 rfl hc5 ?_
          refine g_aload_n cx dX1_accepts_120 rfl ?_
          refine g_aload_n cx dX1_accepts_121 rfl ?_
          refine g_iload cx dX1_accepts_122 rfl ?_
          refine g_aload_n cx dX1_accepts_124 rfl ?_
          refine g_wVv cx [.ref y1, .int ((zu I 4 2 ((I 4 2) - 1)) 5 ((((I 4 2) - 1)).toNatClampNeg)), .ref y2] [] (e_X1_goFrom hP h) mt_X1_goFrom ml_X1_55 rfl rfl rfl dX1_accepts_125 rfl rfl (Nat.le_of_ble_eq_true rfl) (Nat.le_of_ble_eq_true rfl) (Nat.le_of_ble_eq_true rfl) (fun I6 P6 hP h => ?_)
          refine g_iinc cx (v := (y3 + 1)) dX1_accepts_128 rfl rfl (Nat.le_of_ble_eq_true rfl) (Gx.L [.ref 4, .ref y1, .ref y2, .int (y3 + 1), .int ((zu I 4 2 ((I 4 2) - 1)) 5 ((((I 4 2) - 1)).toNatClampNeg))] rfl ?_)
          refine g_goto cx (tgt := 70) dX1_accepts_131 rfl ?_
          refine (Gx.unset 4 (Gx.L [.ref 4, .ref y1, .ref y2, .int (y3 + 1), .float 0] rfl ?_))
          exact ih _ _ _ _ _ hP h
def l_X1_accepts_18 (K : Int32 → zI → zP → Prop) : Nat → Nat → Nat → Int32 → zI → zP → Prop
  | 0, _, _, _, _, _ => False
  | n + 1, y1, y2, y3, I, P => if 400 ≤ y3 then (SHy[y1]? = some (3, 11) ∧ (w_X1_comeTo y1 0 0 (5592405 &&& (((1 : Int32) <<< (((2 * ((zu (zu I 4 2 0) 4 5 0) y1 7)) : Int32) &&& 31)) - 1)) (zu (zu I 4 2 0) 4 5 0) P (fun (I3 : zI) (P3 : zP) => (∃ n9, l_X1_accepts_70 K n9 y1 y2 0 I3 P3)))) else (vp_in y3 400 ∧ ((l_X1_accepts_18 K n) y1 y2 (y3 + 1) (zu I 6 ((y3).toNatClampNeg) (vp_nar .boolean 0)) P))
theorem gl_X1_accepts_18 {κ : zX} (cx : Cx yX1_accepts cX1_accepts 5 (some .boolean) 4 95 κ) {K : Int32 → zI → zP → Prop} (hE : zEnd (zKi K) 0 0 κ) : ∀ (n : Nat) (y1 : Nat) (y2 : Nat) (y3 : Int32) (I : zI) (P : zP), PSt P → l_X1_accepts_18 K n y1 y2 y3 I P → Gx κ 18 [.ref 4, .ref y1, .ref y2, .int y3, .float 0] [] SHy I P 0 0 := by
  intro n
  induction n with
  | zero =>
    intro y1 y2 y3 I P hP h
    rw [l_X1_accepts_18] at h
    exact False.elim h
  | succ n ih =>
    intro y1 y2 y3 I P hP h
    rw [l_X1_accepts_18] at h
    refine g_iload_n cx dX1_accepts_18 rfl ?_
    refine g_sipush cx dX1_accepts_19 sp_400 ?_
    refine g_icmp_ge cx (tgt := 38) dX1_accepts_22 rfl (fun c1 => ?_) (fun c1 => ?_)
    · have h := zifp c1 h
      refine g_aload_n cx dX1_accepts_38 rfl ?_
      refine g_iconst cx dX1_accepts_39 ic_0 ?_
      refine g_pI cx lk_X1_19 rfl (Nat.le_of_ble_eq_true rfl) rfl dX1_accepts_40 fi_1_2 rfl rfl ?_
      refine g_aload_n cx dX1_accepts_43 rfl ?_
      refine g_iconst cx dX1_accepts_44 ic_0 ?_
      refine g_pI cx lk_X1_29 rfl (Nat.le_of_ble_eq_true rfl) rfl dX1_accepts_45 fi_1_5 rfl rfl ?_
      refine g_aload_n cx dX1_accepts_48 rfl ?_
      refine g_aload_n cx dX1_accepts_49 rfl ?_
      refine g_iconst cx dX1_accepts_50 ic_0 ?_
      refine g_iconst cx dX1_accepts_51 ic_0 ?_
      refine g_ldc cx dX1_accepts_52 ldc_X1_47 ?_
      refine g_iconst cx dX1_accepts_54 ic_1 ?_
      refine g_iconst cx dX1_accepts_55 ic_2 ?_
      refine g_aload_n cx dX1_accepts_56 rfl ?_
      obtain ⟨hs2, h⟩ := h
      refine g_getI cx lk_X1_48 hs2 (Nat.le_of_ble_eq_true rfl) rfl dX1_accepts_57 (x := ((zu (zu I 4 2 0) 4 5 0) y1 7)) rfl ?_
      refine g_imul cx dX1_accepts_60 ?_
      refine g_ishl cx dX1_accepts_61 ?_
      refine g_iconst cx dX1_accepts_62 ic_1 ?_
      refine g_isub cx dX1_accepts_63 ?_
      refine g_iand cx dX1_accepts_64 ?_
      refine g_wVv cx [.ref y1, .int 0, .int 0, .int (5592405 &&& (((1 : Int32) <<< (((2 * ((zu (zu I 4 2 0) 4 5 0) y1 7)) : Int32) &&& 31)) - 1))] [] (e_X1_comeTo hP h) mt_X1_comeTo ml_X1_51 rfl rfl rfl dX1_accepts_65 rfl rfl (Nat.le_of_ble_eq_true rfl) (Nat.le_of_ble_eq_true rfl) (Nat.le_of_ble_eq_true rfl) (fun I3 P3 hP h => ?_)
      refine g_iconst cx dX1_accepts_68 ic_0 ?_
      refine g_istore_n cx dX1_accepts_69 (Nat.le_of_ble_eq_true rfl) (Gx.L [.ref 4, .ref y1, .ref y2, .int 0, .float 0] rfl ?_)
      obtain ⟨n9, h⟩ := h
      exact gl_X1_accepts_70 cx hE n9 _ _ _ _ _ hP h
    · have h := zifn c1 h
      refine g_aload_n cx dX1_accepts_25 rfl ?_
      refine g_getR cx lk_X1_15 rfl (Nat.le_of_ble_eq_true rfl) rfl dX1_accepts_26 (v := 6) (pst hP 3 rfl) ?_
      refine g_iload_n cx dX1_accepts_29 rfl ?_
      refine g_iconst cx dX1_accepts_30 ic_0 ?_
      obtain ⟨hc4, h⟩ := h
      refine g_bast cx dX1_accepts_31 rfl hc4 ?_
      refine g_iinc cx (v := (y3 + 1)) dX1_accepts_32 rfl rfl (Nat.le_of_ble_eq_true rfl) (Gx.L [.ref 4, .ref y1, .ref y2, .int (y3 + 1), .float 0] rfl ?_)
      refine g_goto cx (tgt := 18) dX1_accepts_35 rfl ?_
      exact ih _ _ _ _ _ hP h
def w_X1_accepts (x1 : Nat) (x2 : Nat) (I : zI) (P : zP) (K : Int32 → zI → zP → Prop) : Prop := SHy[x1]? = some (3, 11) ∧ (∃ v2, P x1 3 = some v2 ∧ (w_J7_fill_53178 v2 (-1) I P (fun (I4 : zI) (P4 : zP) => (∃ v5, P4 x1 4 = some v5 ∧ (w_J7_fill_53178 v5 0 I4 P4 (fun (I7 : zI) (P7 : zP) => (∃ n9, l_X1_accepts_18 K n9 x1 x2 0 I7 P7)))))))
theorem e_X1_accepts {x1 : Nat} {x2 : Nat} {I : zI} {P : zP} {K : Int32 → zI → zP → Prop} (hP : PSt P) (h : w_X1_accepts x1 x2 I P K) : Ev yX1_accepts cX1_accepts 5 (some .boolean) 4 95 0 0 [.ref 4, .ref x1, .ref x2] SHy I P (zKi K) := by
  refine Ev.start [.ref 4, .ref x1, .ref x2, .float 0, .float 0] pn_X1 rfl (Nat.le_of_ble_eq_true rfl) rfl (fun κ cx hE => ?_)
  unfold w_X1_accepts at h
  refine g_aload_n cx dX1_accepts_0 rfl ?_
  obtain ⟨hs1, h⟩ := h
  obtain ⟨v2, hv3, h⟩ := h
  refine g_getR cx lk_X1_33 hs1 (Nat.le_of_ble_eq_true rfl) rfl dX1_accepts_1 hv3 ?_
  refine g_iconst cx dX1_accepts_4 ic_m1 ?_
  refine g_wSv cx [.ref v2, .int (-1)] [] (e_J7_fill_53178 hP h) mt_J7_fill_53178 ml_X1_38 dX1_accepts_5 rfl rfl (Nat.le_of_ble_eq_true rfl) (Nat.le_of_ble_eq_true rfl) (Nat.le_of_ble_eq_true rfl) (fun I4 P4 hP h => ?_)
  refine g_aload_n cx dX1_accepts_8 rfl ?_
  obtain ⟨v5, hv6, h⟩ := h
  refine g_getR cx lk_X1_44 hs1 (Nat.le_of_ble_eq_true rfl) rfl dX1_accepts_9 hv6 ?_
  refine g_iconst cx dX1_accepts_12 ic_0 ?_
  refine g_wSv cx [.ref v5, .int 0] [] (e_J7_fill_53178 hP h) mt_J7_fill_53178 ml_X1_38 dX1_accepts_13 rfl rfl (Nat.le_of_ble_eq_true rfl) (Nat.le_of_ble_eq_true rfl) (Nat.le_of_ble_eq_true rfl) (fun I7 P7 hP h => ?_)
  refine g_iconst cx dX1_accepts_16 ic_0 ?_
  refine g_istore_n cx dX1_accepts_17 (Nat.le_of_ble_eq_true rfl) (Gx.L [.ref 4, .ref x1, .ref x2, .int 0, .float 0] rfl ?_)
  obtain ⟨n9, h⟩ := h
  exact gl_X1_accepts_18 cx hE n9 _ _ _ _ _ hP h
def w_X2_cellInt (x1 : Int32) (I : zI) (P : zP) (K : Int32 → zI → zP → Prop) : Prop := if x1 < 0 then (K 0 I P) else (if 1508 ≤ x1 then (K 0 I P) else (vp_in x1 1508 ∧ (K (I 116 ((x1).toNatClampNeg)) I P)))
theorem e_X2_cellInt {x1 : Int32} {I : zI} {P : zP} {K : Int32 → zI → zP → Prop} (hP : PSt P) (h : w_X2_cellInt x1 I P K) : Ev yX2_cellInt cX2_cellInt 2 (some .int) 0 0 0 0 [.ref 114, .int x1] SHy I P (zKi K) := by
  refine Ev.start [.ref 114, .int x1] pn_X2 rfl (Nat.le_of_ble_eq_true rfl) rfl (fun κ cx hE => ?_)
  unfold w_X2_cellInt at h
  refine g_iload_n cx dX2_cellInt_0 rfl ?_
  refine g_if_lt cx (tgt := 22) dX2_cellInt_1 rfl (fun c1 => ?_) (fun c1 => ?_)
  · have h := zifp c1 h
    refine g_iconst cx dX2_cellInt_22 ic_0 ?_
    exact g_wi cx hE dX2_cellInt_23 rfl rfl hP h
  · have h := zifn c1 h
    refine g_iload_n cx dX2_cellInt_4 rfl ?_
    refine g_aload_n cx dX2_cellInt_5 rfl ?_
    refine g_getR cx lk_X2_17 rfl (Nat.le_of_ble_eq_true rfl) rfl dX2_cellInt_6 (v := 116) (pst hP 113 rfl) ?_
    refine g_alen cx rfl (Nat.le_of_ble_eq_true rfl) (Nat.le_of_ble_eq_true rfl) dX2_cellInt_9 ?_
    refine Gx.top 1508 rfl ?_
    refine g_icmp_ge cx (tgt := 22) dX2_cellInt_10 rfl (fun c2 => ?_) (fun c2 => ?_)
    · have h := zifp c2 h
      refine g_iconst cx dX2_cellInt_22 ic_0 ?_
      exact g_wi cx hE dX2_cellInt_23 rfl rfl hP h
    · have h := zifn c2 h
      refine g_aload_n cx dX2_cellInt_13 rfl ?_
      refine g_getR cx lk_X2_17 rfl (Nat.le_of_ble_eq_true rfl) rfl dX2_cellInt_14 (v := 116) (pst hP 113 rfl) ?_
      refine g_iload_n cx dX2_cellInt_17 rfl ?_
      obtain ⟨hc3, h⟩ := h
      refine g_iald cx dX2_cellInt_18 rfl hc3 (x := (I 116 ((x1).toNatClampNeg))) rfl ?_
      refine g_goto cx (tgt := 23) dX2_cellInt_19 rfl ?_
      exact g_wi cx hE dX2_cellInt_23 rfl rfl hP h
