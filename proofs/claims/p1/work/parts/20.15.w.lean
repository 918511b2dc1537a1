def j_X7_writeHandlers_81 (X10 : Nat → Nat → Int32 → zI → zP → Prop) (K : zI → zP → Prop) (y1 : Nat) (y2 : Nat) (y3 : Int32) (s0 : Int32) (s1 : Int32) (s2 : Int32) (s3 : Int32) (s4 : Nat) (I : zI) (P : zP) : Prop := SHy[y1]? = some (3, 11) ∧ (∃ v2, P y1 5 = some v2 ∧ (w_X9_handlerPart v2 y3 3 I P (fun (v4 : Int32) (I4 : zI) (P4 : zP) => (w_X7_writeHandler s4 s3 s2 s1 s0 v4 I4 P4 (fun (I5 : zI) (P5 : zP) => (X10 y1 y2 (y3 + 1) I5 P5))))))
theorem gj_X7_writeHandlers_81 {κ : zX} (cx : Cx yX7_writeHandlers cX7_writeHandlers 5 none 2 46 κ) {K : zI → zP → Prop} (hE : zEnd (zKv K) 0 0 κ) {X10 : Nat → Nat → Int32 → zI → zP → Prop} (hX10 : ∀ (y1 : Nat) (y2 : Nat) (y3 : Int32) (I : zI) (P : zP), PSt P → X10 y1 y2 y3 I P → Gx κ 10 [.ref 7, .ref y1, .ref y2, .int y3, .float 0] [] SHy I P 0 0) {y1 : Nat} {y2 : Nat} {y3 : Int32} {s0 : Int32} {s1 : Int32} {s2 : Int32} {s3 : Int32} {s4 : Nat} {I : zI} {P : zP} (hP : PSt P) (h : j_X7_writeHandlers_81 X10 K y1 y2 y3 s0 s1 s2 s3 s4 I P) : Gx κ 81 [.ref 7, .ref y1, .ref y2, .int y3, .float 0] [.int s0, .int s1, .int s2, .int s3, .ref s4] SHy I P 0 0 := by
  unfold j_X7_writeHandlers_81 at h
  refine g_aload_n cx dX7_writeHandlers_81 rfl ?_
  obtain ⟨hs1, h⟩ := h
  obtain ⟨v2, hv3, h⟩ := h
  refine g_getR cx lk_X7_132 hs1 (Nat.le_of_ble_eq_true rfl) rfl dX7_writeHandlers_82 hv3 ?_
  refine g_iload_n cx dX7_writeHandlers_85 rfl ?_
  refine g_iconst cx dX7_writeHandlers_86 ic_3 ?_
  refine g_wSi cx [.ref v2, .int y3, .int 3] [.int s0, .int s1, .int s2, .int s3, .ref s4] (e_X9_handlerPart hP h) mt_X9_handlerPart ml_X7_135 dX7_writeHandlers_87 rfl rfl (Nat.le_of_ble_eq_true rfl) (Nat.le_of_ble_eq_true rfl) (Nat.le_of_ble_eq_true rfl) (fun v4 I4 P4 hP h => ?_)
  refine g_wSv cx [.ref s4, .int s3, .int s2, .int s1, .int s0, .int v4] [] (e_X7_writeHandler hP h) mt_X7_writeHandler ml_X7_246 dX7_writeHandlers_90 rfl rfl (Nat.le_of_ble_eq_true rfl) (Nat.le_of_ble_eq_true rfl) (Nat.le_of_ble_eq_true rfl) (fun I5 P5 hP h => ?_)
  refine g_iinc cx (v := (y3 + 1)) dX7_writeHandlers_93 rfl rfl (Nat.le_of_ble_eq_true rfl) (Gx.L [.ref 7, .ref y1, .ref y2, .int (y3 + 1), .float 0] rfl ?_)
  refine g_goto cx (tgt := 10) dX7_writeHandlers_96 rfl ?_
  exact hX10 _ _ _ _ _ hP h
def l_X7_writeHandlers_10 (K : zI → zP → Prop) : Nat → Nat → Nat → Int32 → zI → zP → Prop
  | 0, _, _, _, _, _ => False
  | n + 1, y1, y2, y3, I, P => SHy[y1]? = some (3, 11) ∧ (if (I y1 10) ≤ y3 then (∃ v3, P y1 6 = some v3 ∧ (SHy[v3]? = some (8, 11) ∧ (if ((zu I v3 7 (I y1 10)) 7 12) ≤ 0 then (K (zu I v3 7 (I y1 10)) P) else (w_X7_groupAt ((zu I v3 7 (I y1 10)) y1 9) (zu I v3 7 (I y1 10)) P (fun (v7 : Int32) (I7 : zI) (P7 : zP) => (w_X7_writeHandler y2 ((zu I v3 7 (I y1 10)) y1 10) ((zu I v3 7 (I y1 10)) 12 0) v7 (I7 7 14) 0 I7 P7 (fun (I8 : zI) (P8 : zP) => (∃ v9, P8 y1 6 = some v9 ∧ (SHy[v9]? = some (8, 11) ∧ (K (zu I8 v9 7 ((I8 v9 7) + 1)) P8)))))))))) else (∃ v12, P y1 5 = some v12 ∧ (w_X9_handlerPart v12 y3 2 I P (fun (v14 : Int32) (I14 : zI) (P14 : zP) => (∃ v15, P14 y1 5 = some v15 ∧ (w_X9_handlerPart v15 y3 0 I14 P14 (fun (v17 : Int32) (I17 : zI) (P17 : zP) => (w_X7_groupAt v17 I17 P17 (fun (v18 : Int32) (I18 : zI) (P18 : zP) => (∃ v19, P18 y1 5 = some v19 ∧ (w_X9_handlerPart v19 y3 1 I18 P18 (fun (v21 : Int32) (I21 : zI) (P21 : zP) => (w_X7_groupAt v21 I21 P21 (fun (v22 : Int32) (I22 : zI) (P22 : zP) => (w_X7_caughtAt y1 y3 I22 P22 (fun (v23 : Int32) (I23 : zI) (P23 : zP) => (if v23 ≤ 0 then (w_X7_groupAt v14 I23 P23 (fun (v25 : Int32) (I25 : zI) (P25 : zP) => (j_X7_writeHandlers_81 (l_X7_writeHandlers_10 K n) K y1 y2 y3 v25 v22 v18 y3 y2 I25 P25))) else (vp_in y3 8 ∧ (j_X7_writeHandlers_81 (l_X7_writeHandlers_10 K n) K y1 y2 y3 (I23 15 ((y3).toNatClampNeg)) v22 v18 y3 y2 I23 P23)))))))))))))))))))
theorem gl_X7_writeHandlers_10 {κ : zX} (cx : Cx yX7_writeHandlers cX7_writeHandlers 5 none 2 46 κ) {K : zI → zP → Prop} (hE : zEnd (zKv K) 0 0 κ) : ∀ (n : Nat) (y1 : Nat) (y2 : Nat) (y3 : Int32) (I : zI) (P : zP), PSt P → l_X7_writeHandlers_10 K n y1 y2 y3 I P → Gx κ 10 [.ref 7, .ref y1, .ref y2, .int y3, .float 0] [] SHy I P 0 0 := by
  intro n
  induction n with
  | zero =>
    intro y1 y2 y3 I P hP h
    rw [l_X7_writeHandlers_10] at h
    exact False.elim h
  | succ n ih =>
    intro y1 y2 y3 I P hP h
    rw [l_X7_writeHandlers_10] at h
    refine g_iload_n cx dX7_writeHandlers_10 rfl ?_
    refine g_aload_n cx dX7_writeHandlers_11 rfl ?_
    obtain ⟨hs1, h⟩ := h
    refine g_getI cx lk_X7_125 hs1 (Nat.le_of_ble_eq_true rfl) rfl dX7_writeHandlers_12 (x := (I y1 10)) rfl ?_
    refine g_icmp_ge cx (tgt := 99) dX7_writeHandlers_15 rfl (fun c2 => ?_) (fun c2 => ?_)
    · have h := zifp c2 h
      refine g_aload_n cx dX7_writeHandlers_99 rfl ?_
      obtain ⟨v3, hv4, h⟩ := h
      refine g_getR cx lk_X7_160 hs1 (Nat.le_of_ble_eq_true rfl) rfl dX7_writeHandlers_100 hv4 ?_
      refine g_aload_n cx dX7_writeHandlers_103 rfl ?_
      refine g_getI cx lk_X7_125 hs1 (Nat.le_of_ble_eq_true rfl) rfl dX7_writeHandlers_104 (x := (I y1 10)) rfl ?_
      obtain ⟨hs5, h⟩ := h
      refine g_pI cx lk_X7_250 hs5 (Nat.le_of_ble_eq_true rfl) rfl dX7_writeHandlers_107 fi_8_7 rfl rfl ?_
      refine g_aload_n cx dX7_writeHandlers_110 rfl ?_
      refine g_getI cx lk_X7_50 rfl (Nat.le_of_ble_eq_true rfl) rfl dX7_writeHandlers_111 (x := ((zu I v3 7 (I y1 10)) 7 12)) rfl ?_
      refine g_if_le cx (tgt := 157) dX7_writeHandlers_114 rfl (fun c6 => ?_) (fun c6 => ?_)
      · have h := zifp c6 h
        exact g_wv cx hE dX7_writeHandlers_157 rfl hP h
      · have h := zifn c6 h
        refine g_aload_n cx dX7_writeHandlers_117 rfl ?_
        refine g_aload_n cx dX7_writeHandlers_118 rfl ?_
        refine g_getI cx lk_X7_125 hs1 (Nat.le_of_ble_eq_true rfl) rfl dX7_writeHandlers_119 (x := ((zu I v3 7 (I y1 10)) y1 10)) rfl ?_
        refine g_aload_n cx dX7_writeHandlers_122 rfl ?_
        refine g_getR cx lk_X7_24 rfl (Nat.le_of_ble_eq_true rfl) rfl dX7_writeHandlers_123 (v := 12) (pst hP 9 rfl) ?_
        refine g_iconst cx dX7_writeHandlers_126 ic_0 ?_
        refine g_iald cx dX7_writeHandlers_127 rfl (vin_lit (j := 0) (by decide) (Nat.le_of_ble_eq_true rfl) (by decide)) (x := ((zu I v3 7 (I y1 10)) 12 0)) rfl ?_
        refine g_aload_n cx dX7_writeHandlers_128 rfl ?_
        refine g_aload_n cx dX7_writeHandlers_129 rfl ?_
        refine g_getI cx lk_X7_116 hs1 (Nat.le_of_ble_eq_true rfl) rfl dX7_writeHandlers_130 (x := ((zu I v3 7 (I y1 10)) y1 9)) rfl ?_
        refine g_wVi cx [.int ((zu I v3 7 (I y1 10)) y1 9)] [.int ((zu I v3 7 (I y1 10)) 12 0), .int ((zu I v3 7 (I y1 10)) y1 10), .ref y2] (e_X7_groupAt hP h) mt_X7_groupAt ml_X7_142 rfl rfl rfl dX7_writeHandlers_133 rfl rfl (Nat.le_of_ble_eq_true rfl) (Nat.le_of_ble_eq_true rfl) (Nat.le_of_ble_eq_true rfl) (fun v7 I7 P7 hP h => ?_)
        refine g_aload_n cx dX7_writeHandlers_136 rfl ?_
        refine g_getI cx lk_X7_56 rfl (Nat.le_of_ble_eq_true rfl) rfl dX7_writeHandlers_137 (x := (I7 7 14)) rfl ?_
        refine g_iconst cx dX7_writeHandlers_140 ic_0 ?_
        refine g_wSv cx [.ref y2, .int ((zu I v3 7 (I y1 10)) y1 10), .int ((zu I v3 7 (I y1 10)) 12 0), .int v7, .int (I7 7 14), .int 0] [] (e_X7_writeHandler hP h) mt_X7_writeHandler ml_X7_246 dX7_writeHandlers_141 rfl rfl (Nat.le_of_ble_eq_true rfl) (Nat.le_of_ble_eq_true rfl) (Nat.le_of_ble_eq_true rfl) (fun I8 P8 hP h => ?_)
        refine g_aload_n cx dX7_writeHandlers_144 rfl ?_
        obtain ⟨v9, hv10, h⟩ := h
        refine g_getR cx lk_X7_160 hs1 (Nat.le_of_ble_eq_true rfl) rfl dX7_writeHandlers_145 hv10 ?_
        refine g_dup cx dX7_writeHandlers_148 rfl ?_
        obtain ⟨hs11, h⟩ := h
        refine g_getI cx lk_X7_250 hs11 (Nat.le_of_ble_eq_true rfl) rfl dX7_writeHandlers_149 (x := (I8 v9 7)) rfl ?_
        refine g_iconst cx dX7_writeHandlers_152 ic_1 ?_
        refine g_iadd cx dX7_writeHandlers_153 ?_
        refine g_pI cx lk_X7_250 hs11 (Nat.le_of_ble_eq_true rfl) rfl dX7_writeHandlers_154 fi_8_7 rfl rfl ?_
        exact g_wv cx hE dX7_writeHandlers_157 rfl hP h
    · have h := zifn c2 h
      refine g_aload_n cx dX7_writeHandlers_18 rfl ?_
      obtain ⟨v12, hv13, h⟩ := h
      refine g_getR cx lk_X7_132 hs1 (Nat.le_of_ble_eq_true rfl) rfl dX7_writeHandlers_19 hv13 ?_
      refine g_iload_n cx dX7_writeHandlers_22 rfl ?_
      refine g_iconst cx dX7_writeHandlers_23 ic_2 ?_
      refine g_wSi cx [.ref v12, .int y3, .int 2] [] (e_X9_handlerPart hP h) mt_X9_handlerPart ml_X7_135 dX7_writeHandlers_24 rfl rfl (Nat.le_of_ble_eq_true rfl) (Nat.le_of_ble_eq_true rfl) (Nat.le_of_ble_eq_true rfl) (fun v14 I14 P14 hP h => ?_)
      refine g_istore cx dX7_writeHandlers_27 (Nat.le_of_ble_eq_true rfl) (Gx.L [.ref 7, .ref y1, .ref y2, .int y3, .int v14] rfl ?_)
      refine g_aload_n cx dX7_writeHandlers_29 rfl ?_
      refine g_iload_n cx dX7_writeHandlers_30 rfl ?_
      refine g_aload_n cx dX7_writeHandlers_31 rfl ?_
      refine g_aload_n cx dX7_writeHandlers_32 rfl ?_
      obtain ⟨v15, hv16, h⟩ := h
      refine g_getR cx lk_X7_132 hs1 (Nat.le_of_ble_eq_true rfl) rfl dX7_writeHandlers_33 hv16 ?_
      refine g_iload_n cx dX7_writeHandlers_36 rfl ?_
      refine g_iconst cx dX7_writeHandlers_37 ic_0 ?_
      refine g_wSi cx [.ref v15, .int y3, .int 0] [.ref 7, .int y3, .ref y2] (e_X9_handlerPart hP h) mt_X9_handlerPart ml_X7_135 dX7_writeHandlers_38 rfl rfl (Nat.le_of_ble_eq_true rfl) (Nat.le_of_ble_eq_true rfl) (Nat.le_of_ble_eq_true rfl) (fun v17 I17 P17 hP h => ?_)
      refine g_wVi cx [.int v17] [.int y3, .ref y2] (e_X7_groupAt hP h) mt_X7_groupAt ml_X7_142 rfl rfl rfl dX7_writeHandlers_41 rfl rfl (Nat.le_of_ble_eq_true rfl) (Nat.le_of_ble_eq_true rfl) (Nat.le_of_ble_eq_true rfl) (fun v18 I18 P18 hP h => ?_)
      refine g_aload_n cx dX7_writeHandlers_44 rfl ?_
      refine g_aload_n cx dX7_writeHandlers_45 rfl ?_
      obtain ⟨v19, hv20, h⟩ := h
      refine g_getR cx lk_X7_132 hs1 (Nat.le_of_ble_eq_true rfl) rfl dX7_writeHandlers_46 hv20 ?_
      refine g_iload_n cx dX7_writeHandlers_49 rfl ?_
      refine g_iconst cx dX7_writeHandlers_50 ic_1 ?_
      refine g_wSi cx [.ref v19, .int y3, .int 1] [.ref 7, .int v18, .int y3, .ref y2] (e_X9_handlerPart hP h) mt_X9_handlerPart ml_X7_135 dX7_writeHandlers_51 rfl rfl (Nat.le_of_ble_eq_true rfl) (Nat.le_of_ble_eq_true rfl) (Nat.le_of_ble_eq_true rfl) (fun v21 I21 P21 hP h => ?_)
      refine g_wVi cx [.int v21] [.int v18, .int y3, .ref y2] (e_X7_groupAt hP h) mt_X7_groupAt ml_X7_142 rfl rfl rfl dX7_writeHandlers_54 rfl rfl (Nat.le_of_ble_eq_true rfl) (Nat.le_of_ble_eq_true rfl) (Nat.le_of_ble_eq_true rfl) (fun v22 I22 P22 hP h => ?_)
      refine g_aload_n cx dX7_writeHandlers_57 rfl ?_
      refine g_aload_n cx dX7_writeHandlers_58 rfl ?_
      refine Gx.N 59 rfl ?_
      refine g_iload_n cx dX7_writeHandlers_59 rfl ?_
      refine g_wVi cx [.ref y1, .int y3] [.int v22, .int v18, .int y3, .ref y2] (e_X7_caughtAt hP h) mt_X7_caughtAt ml_X7_128 rfl rfl rfl dX7_writeHandlers_60 rfl rfl (Nat.le_of_ble_eq_true rfl) (Nat.le_of_ble_eq_true rfl) (Nat.le_of_ble_eq_true rfl) (fun v23 I23 P23 hP h => ?_)
      refine g_if_le cx (tgt := 75) dX7_writeHandlers_63 rfl (fun c24 => ?_) (fun c24 => ?_)
      · have h := zifp c24 h
        refine g_aload_n cx dX7_writeHandlers_75 rfl ?_
        refine g_iload cx dX7_writeHandlers_76 rfl ?_
        refine g_wVi cx [.int v14] [.int v22, .int v18, .int y3, .ref y2] (e_X7_groupAt hP h) mt_X7_groupAt ml_X7_142 rfl rfl rfl dX7_writeHandlers_78 rfl rfl (Nat.le_of_ble_eq_true rfl) (Nat.le_of_ble_eq_true rfl) (Nat.le_of_ble_eq_true rfl) (fun v25 I25 P25 hP h => ?_)
        refine (Gx.unset 4 (Gx.L [.ref 7, .ref y1, .ref y2, .int y3, .float 0] rfl ?_))
        exact gj_X7_writeHandlers_81 cx hE ih hP h
      · have h := zifn c24 h
        refine g_aload_n cx dX7_writeHandlers_66 rfl ?_
        refine g_getR cx lk_X7_33 rfl (Nat.le_of_ble_eq_true rfl) rfl dX7_writeHandlers_67 (v := 15) (pst hP 12 rfl) ?_
        refine g_iload_n cx dX7_writeHandlers_70 rfl ?_
        obtain ⟨hc26, h⟩ := h
        refine g_iald cx dX7_writeHandlers_71 rfl hc26 (x := (I23 15 ((y3).toNatClampNeg))) rfl ?_
        refine g_goto cx (tgt := 81) dX7_writeHandlers_72 rfl ?_
        refine (Gx.unset 4 (Gx.L [.ref 7, .ref y1, .ref y2, .int y3, .float 0] rfl ?_))
        exact gj_X7_writeHandlers_81 cx hE ih hP h
def w_X7_writeHandlers (x1 : Nat) (I : zI) (P : zP) (K : zI → zP → Prop) : Prop := SHy[x1]? = some (3, 11) ∧ (∃ v2, P x1 6 = some v2 ∧ (SHy[v2]? = some (8, 11) ∧ (∃ v5, P v2 4 = some v5 ∧ (∃ n9, l_X7_writeHandlers_10 K n9 x1 v5 0 I P))))
theorem e_X7_writeHandlers {x1 : Nat} {I : zI} {P : zP} {K : zI → zP → Prop} (hP : PSt P) (h : w_X7_writeHandlers x1 I P K) : Ev yX7_writeHandlers cX7_writeHandlers 5 none 2 46 0 0 [.ref 7, .ref x1] SHy I P (zKv K) := by
  refine Ev.start [.ref 7, .ref x1, .float 0, .float 0, .float 0] pn_X7 rfl (Nat.le_of_ble_eq_true rfl) rfl (fun κ cx hE => ?_)
  unfold w_X7_writeHandlers at h
  refine g_aload_n cx dX7_writeHandlers_0 rfl ?_
  obtain ⟨hs1, h⟩ := h
  obtain ⟨v2, hv3, h⟩ := h
  refine g_getR cx lk_X7_160 hs1 (Nat.le_of_ble_eq_true rfl) rfl dX7_writeHandlers_1 hv3 ?_
  obtain ⟨hs4, h⟩ := h
  obtain ⟨v5, hv6, h⟩ := h
  refine g_getR cx lk_X7_245 hs4 (Nat.le_of_ble_eq_true rfl) rfl dX7_writeHandlers_4 hv6 ?_
  refine g_astore_n cx dX7_writeHandlers_7 (Nat.le_of_ble_eq_true rfl) (Gx.L [.ref 7, .ref x1, .ref v5, .float 0, .float 0] rfl ?_)
  refine g_iconst cx dX7_writeHandlers_8 ic_0 ?_
  refine g_istore_n cx dX7_writeHandlers_9 (Nat.le_of_ble_eq_true rfl) (Gx.L [.ref 7, .ref x1, .ref v5, .int 0, .float 0] rfl ?_)
  obtain ⟨n9, h⟩ := h
  exact gl_X7_writeHandlers_10 cx hE n9 _ _ _ _ _ hP h
def l_X7_writeInstruction_154 (K : zI → zP → Prop) : Nat → Nat → Int32 → Int32 → zI → zP → Prop
  | 0, _, _, _, _, _ => False
  | n + 1, y1, y2, y4, I, P => SHy[y1]? = some (3, 11) ∧ (∃ v2, P y1 2 = some v2 ∧ (SHy[v2]? = some (11, (zlen v2)) ∧ (vp_in y2 (zlen v2) ∧ (if (I v2 ((y2).toNatClampNeg)) ≤ y4 then (K I P) else (∃ v7, P y1 6 = some v7 ∧ (∃ v9, P y1 1 = some v9 ∧ (w_X9_byteAt v9 (y2 + y4) I P (fun (v11 : Int32) (I11 : zI) (P11 : zP) => (w_X7_writeByte v7 v11 y2 I11 P11 (fun (I12 : zI) (P12 : zP) => ((l_X7_writeInstruction_154 K n) y1 y2 (y4 + 1) I12 P12)))))))))))
theorem gl_X7_writeInstruction_154 {κ : zX} (cx : Cx yX7_writeInstruction cX7_writeInstruction 7 none 3 71 κ) {K : zI → zP → Prop} (hE : zEnd (zKv K) 0 0 κ) : ∀ (n : Nat) (y1 : Nat) (y2 : Int32) (y4 : Int32) (I : zI) (P : zP), PSt P → l_X7_writeInstruction_154 K n y1 y2 y4 I P → Gx κ 154 [.ref 7, .ref y1, .int y2, .float 0, .int y4, .float 0, .float 0] [] SHy I P 0 0 := by
  intro n
  induction n with
  | zero =>
    intro y1 y2 y4 I P hP h
    rw [l_X7_writeInstruction_154] at h
    exact False.elim h
  | succ n ih =>
    intro y1 y2 y4 I P hP h
    rw [l_X7_writeInstruction_154] at h
    refine g_iload cx dX7_writeInstruction_154 rfl ?_
    refine g_aload_n cx dX7_writeInstruction_156 rfl ?_
    obtain ⟨hs1, h⟩ := h
    obtain ⟨v2, hv3, h⟩ := h
    refine g_getR cx lk_X7_122 hs1 (Nat.le_of_ble_eq_true rfl) rfl dX7_writeInstruction_157 hv3 ?_
    refine g_iload_n cx dX7_writeInstruction_160 rfl ?_
    obtain ⟨hs4, h⟩ := h
    obtain ⟨hc5, h⟩ := h
    refine g_iald cx dX7_writeInstruction_161 hs4 hc5 (x := (I v2 ((y2).toNatClampNeg))) rfl ?_
    refine g_icmp_ge cx (tgt := 191) dX7_writeInstruction_162 rfl (fun c6 => ?_) (fun c6 => ?_)
    · have h := zifp c6 h
      exact g_wv cx hE dX7_writeInstruction_191 rfl hP h
    · have h := zifn c6 h
      refine g_aload_n cx dX7_writeInstruction_165 rfl ?_
      refine g_aload_n cx dX7_writeInstruction_166 rfl ?_
      obtain ⟨v7, hv8, h⟩ := h
      refine g_getR cx lk_X7_160 hs1 (Nat.le_of_ble_eq_true rfl) rfl dX7_writeInstruction_167 hv8 ?_
      refine g_aload_n cx dX7_writeInstruction_170 rfl ?_
      obtain ⟨v9, hv10, h⟩ := h
      refine g_getR cx lk_X7_119 hs1 (Nat.le_of_ble_eq_true rfl) rfl dX7_writeInstruction_171 hv10 ?_
      refine g_iload_n cx dX7_writeInstruction_174 rfl ?_
      refine g_iload cx dX7_writeInstruction_175 rfl ?_
      refine g_iadd cx dX7_writeInstruction_177 ?_
      refine g_wSi cx [.ref v9, .int (y2 + y4)] [.ref v7, .ref 7] (e_X9_byteAt hP h) mt_X9_byteAt ml_X7_232 dX7_writeInstruction_178 rfl rfl (Nat.le_of_ble_eq_true rfl) (Nat.le_of_ble_eq_true rfl) (Nat.le_of_ble_eq_true rfl) (fun v11 I11 P11 hP h => ?_)
      refine g_iload_n cx dX7_writeInstruction_181 rfl ?_
      refine g_wVv cx [.ref v7, .int v11, .int y2] [] (e_X7_writeByte hP h) mt_X7_writeByte ml_X7_221 rfl rfl rfl dX7_writeInstruction_182 rfl rfl (Nat.le_of_ble_eq_true rfl) (Nat.le_of_ble_eq_true rfl) (Nat.le_of_ble_eq_true rfl) (fun I12 P12 hP h => ?_)
      refine g_iinc cx (v := (y4 + 1)) dX7_writeInstruction_185 rfl rfl (Nat.le_of_ble_eq_true rfl) (Gx.L [.ref 7, .ref y1, .int y2, .float 0, .int (y4 + 1), .float 0, .float 0] rfl ?_)
      refine g_goto cx (tgt := 154) dX7_writeInstruction_188 rfl ?_
      exact ih _ _ _ _ _ hP h
def l_X7_writeInstruction_115 (K : zI → zP → Prop) : Nat → Nat → Int32 → Int32 → Int32 → Int32 → zI → zP → Prop
  | 0, _, _, _, _, _, _, _ => False
  | n + 1, y1, y2, y4, y5, y6, I, P => if y5 ≤ y6 then (K I P) else (SHy[y1]? = some (3, 11) ∧ (∃ v3, P y1 6 = some v3 ∧ (w_X7_leadsTo y1 y2 y6 I P (fun (v5 : Int32) (I5 : zI) (P5 : zP) => (w_X7_writePair v3 (v5 - y4) y2 I5 P5 (fun (I6 : zI) (P6 : zP) => ((l_X7_writeInstruction_115 K n) y1 y2 y4 y5 (y6 + 1) I6 P6)))))))
theorem gl_X7_writeInstruction_115 {κ : zX} (cx : Cx yX7_writeInstruction cX7_writeInstruction 7 none 3 71 κ) {K : zI → zP → Prop} (hE : zEnd (zKv K) 0 0 κ) : ∀ (n : Nat) (y1 : Nat) (y2 : Int32) (y4 : Int32) (y5 : Int32) (y6 : Int32) (I : zI) (P : zP), PSt P → l_X7_writeInstruction_115 K n y1 y2 y4 y5 y6 I P → Gx κ 115 [.ref 7, .ref y1, .int y2, .float 0, .int y4, .int y5, .int y6] [] SHy I P 0 0 := by
  intro n
  induction n with
  | zero =>
    intro y1 y2 y4 y5 y6 I P hP h
    rw [l_X7_writeInstruction_115] at h
    exact False.elim h
  | succ n ih =>
    intro y1 y2 y4 y5 y6 I P hP h
    rw [l_X7_writeInstruction_115] at h
    refine g_iload cx dX7_writeInstruction_115 rfl ?_
    refine g_iload cx dX7_writeInstruction_117 rfl ?_
    refine g_icmp_ge cx (tgt := 148) dX7_writeInstruction_119 rfl (fun c1 => ?_) (fun c1 => ?_)
    · have h := zifp c1 h
      refine g_goto cx (tgt := 191) dX7_writeInstruction_148 rfl ?_
      exact g_wv cx hE dX7_writeInstruction_191 rfl hP h
    · have h := zifn c1 h
      refine g_aload_n cx dX7_writeInstruction_122 rfl ?_
      refine g_aload_n cx dX7_writeInstruction_123 rfl ?_
      obtain ⟨hs2, h⟩ := h
      obtain ⟨v3, hv4, h⟩ := h
      refine g_getR cx lk_X7_160 hs2 (Nat.le_of_ble_eq_true rfl) rfl dX7_writeInstruction_124 hv4 ?_
      refine g_aload_n cx dX7_writeInstruction_127 rfl ?_
      refine g_aload_n cx dX7_writeInstruction_128 rfl ?_
      refine g_iload_n cx dX7_writeInstruction_129 rfl ?_
      refine g_iload cx dX7_writeInstruction_130 rfl ?_
      refine g_wVi cx [.ref y1, .int y2, .int y6] [.ref v3, .ref 7] (e_X7_leadsTo hP h) mt_X7_leadsTo ml_X7_149 rfl rfl rfl dX7_writeInstruction_132 rfl rfl (Nat.le_of_ble_eq_true rfl) (Nat.le_of_ble_eq_true rfl) (Nat.le_of_ble_eq_true rfl) (fun v5 I5 P5 hP h => ?_)
      refine g_iload cx dX7_writeInstruction_135 rfl ?_
      refine g_isub cx dX7_writeInstruction_137 ?_
      refine g_iload_n cx dX7_writeInstruction_138 rfl ?_
      refine g_wVv cx [.ref v3, .int (v5 - y4), .int y2] [] (e_X7_writePair hP h) mt_X7_writePair ml_X7_239 rfl rfl rfl dX7_writeInstruction_139 rfl rfl (Nat.le_of_ble_eq_true rfl) (Nat.le_of_ble_eq_true rfl) (Nat.le_of_ble_eq_true rfl) (fun I6 P6 hP h => ?_)
      refine g_iinc cx (v := (y6 + 1)) dX7_writeInstruction_142 rfl rfl (Nat.le_of_ble_eq_true rfl) (Gx.L [.ref 7, .ref y1, .int y2, .float 0, .int y4, .int y5, .int (y6 + 1)] rfl ?_)
      refine g_goto cx (tgt := 115) dX7_writeInstruction_145 rfl ?_
      exact ih _ _ _ _ _ _ _ hP h
def j_X7_writeInstruction_38 (K : zI → zP → Prop) (y1 : Nat) (y2 : Int32) (s0 : Int32) (I : zI) (P : zP) : Prop := SHy[y1]? = some (3, 11) ∧ (∃ v2, P y1 6 = some v2 ∧ (w_X7_leadsTo y1 y2 0 I P (fun (v4 : Int32) (I4 : zI) (P4 : zP) => (w_X7_writeJump v2 s0 v4 y2 I4 P4 (fun (I5 : zI) (P5 : zP) => (K I5 P5))))))
theorem gj_X7_writeInstruction_38 {κ : zX} (cx : Cx yX7_writeInstruction cX7_writeInstruction 7 none 3 71 κ) {K : zI → zP → Prop} (hE : zEnd (zKv K) 0 0 κ) {y1 : Nat} {y2 : Int32} {s0 : Int32} {I : zI} {P : zP} (hP : PSt P) (h : j_X7_writeInstruction_38 K y1 y2 s0 I P) : Gx κ 38 [.ref 7, .ref y1, .int y2, .float 0, .float 0, .float 0, .float 0] [.int s0] SHy I P 0 0 := by
  unfold j_X7_writeInstruction_38 at h
  refine g_istore cx dX7_writeInstruction_38 (Nat.le_of_ble_eq_true rfl) (Gx.L [.ref 7, .ref y1, .int y2, .float 0, .int s0, .float 0, .float 0] rfl ?_)
  refine g_aload_n cx dX7_writeInstruction_40 rfl ?_
  refine g_aload_n cx dX7_writeInstruction_41 rfl ?_
  obtain ⟨hs1, h⟩ := h
  obtain ⟨v2, hv3, h⟩ := h
  refine g_getR cx lk_X7_160 hs1 (Nat.le_of_ble_eq_true rfl) rfl dX7_writeInstruction_42 hv3 ?_
  refine g_iload cx dX7_writeInstruction_45 rfl ?_
  refine g_aload_n cx dX7_writeInstruction_47 rfl ?_
  refine g_aload_n cx dX7_writeInstruction_48 rfl ?_
  refine g_iload_n cx dX7_writeInstruction_49 rfl ?_
  refine g_iconst cx dX7_writeInstruction_50 ic_0 ?_
  refine g_wVi cx [.ref y1, .int y2, .int 0] [.int s0, .ref v2, .ref 7] (e_X7_leadsTo hP h) mt_X7_leadsTo ml_X7_149 rfl rfl rfl dX7_writeInstruction_51 rfl rfl (Nat.le_of_ble_eq_true rfl) (Nat.le_of_ble_eq_true rfl) (Nat.le_of_ble_eq_true rfl) (fun v4 I4 P4 hP h => ?_)
  refine g_iload_n cx dX7_writeInstruction_54 rfl ?_
  refine g_wVv cx [.ref v2, .int s0, .int v4, .int y2] [] (e_X7_writeJump hP h) mt_X7_writeJump ml_X7_228 rfl rfl rfl dX7_writeInstruction_55 rfl rfl (Nat.le_of_ble_eq_true rfl) (Nat.le_of_ble_eq_true rfl) (Nat.le_of_ble_eq_true rfl) (fun I5 P5 hP h => ?_)
  refine g_goto cx (tgt := 191) dX7_writeInstruction_58 rfl ?_
  exact g_wv cx hE dX7_writeInstruction_191 rfl hP h
def j_X7_writeInstruction_21 (K : zI → zP → Prop) (y1 : Nat) (y2 : Int32) (y3 : Int32) (I : zI) (P : zP) : Prop := vp_in y2 400 ∧ (if (I 16 ((y2).toNatClampNeg)) = 0 then (j_X7_writeInstruction_38 K y1 y2 y3 I P) else (j_X7_writeInstruction_38 K y1 y2 (y3 + 64) I P))
theorem gj_X7_writeInstruction_21 {κ : zX} (cx : Cx yX7_writeInstruction cX7_writeInstruction 7 none 3 71 κ) {K : zI → zP → Prop} (hE : zEnd (zKv K) 0 0 κ) {y1 : Nat} {y2 : Int32} {y3 : Int32} {I : zI} {P : zP} (hP : PSt P) (h : j_X7_writeInstruction_21 K y1 y2 y3 I P) : Gx κ 21 [.ref 7, .ref y1, .int y2, .int y3, .float 0, .float 0, .float 0] [] SHy I P 0 0 := by
  unfold j_X7_writeInstruction_21 at h
  refine g_aload_n cx dX7_writeInstruction_21 rfl ?_
  refine g_getR cx lk_X7_36 rfl (Nat.le_of_ble_eq_true rfl) rfl dX7_writeInstruction_22 (v := 16) (pst hP 13 rfl) ?_
  refine g_iload_n cx dX7_writeInstruction_25 rfl ?_
  obtain ⟨hc1, h⟩ := h
  refine g_bald cx dX7_writeInstruction_26 rfl hc1 (x := (I 16 ((y2).toNatClampNeg))) rfl ?_
  refine g_if_eq cx (tgt := 37) dX7_writeInstruction_27 rfl (fun c2 => ?_) (fun c2 => ?_)
  · have h := zifp c2 h
    refine g_iload_n cx dX7_writeInstruction_37 rfl ?_
    refine (Gx.unset 3 (Gx.L [.ref 7, .ref y1, .int y2, .float 0, .float 0, .float 0, .float 0] rfl ?_))
    exact gj_X7_writeInstruction_38 cx hE hP h
  · have h := zifn c2 h
    refine g_iload_n cx dX7_writeInstruction_30 rfl ?_
    refine g_bipush cx dX7_writeInstruction_31 bp_64 ?_
    refine g_iadd cx dX7_writeInstruction_33 ?_
    refine g_goto cx (tgt := 38) dX7_writeInstruction_34 rfl ?_
    refine (Gx.unset 3 (Gx.L [.ref 7, .ref y1, .int y2, .float 0, .float 0, .float 0, .float 0] rfl ?_))
    exact gj_X7_writeInstruction_38 cx hE hP h
def w_X7_writeInstruction (x1 : Nat) (x2 : Int32) (I : zI) (P : zP) (K : zI → zP → Prop) : Prop := SHy[x1]? = some (3, 11) ∧ (∃ v2, P x1 1 = some v2 ∧ (SHy[v2]? = some (11, (zlen v2)) ∧ (vp_in x2 (zlen v2) ∧ (w_X9_isShortJump (I v2 ((x2).toNatClampNeg)) I P (fun (v6 : Int32) (I6 : zI) (P6 : zP) => (if v6 = 0 then (w_X9_isLongJump (I v2 ((x2).toNatClampNeg)) I6 P6 (fun (v8 : Int32) (I8 : zI) (P8 : zP) => (if v8 = 0 then (if (I v2 ((x2).toNatClampNeg)) = 33 then (∃ v11, P8 x1 6 = some v11 ∧ (w_X7_writeByte v11 (I v2 ((x2).toNatClampNeg)) x2 I8 P8 (fun (I13 : zI) (P13 : zP) => (∃ v14, P13 x1 6 = some v14 ∧ (∃ v16, P13 x1 1 = some v16 ∧ (w_X9_byteAt v16 (x2 + 1) I13 P13 (fun (v18 : Int32) (I18 : zI) (P18 : zP) => (w_X7_writeByte v14 v18 x2 I18 P18 (fun (I19 : zI) (P19 : zP) => (∃ v20, P19 x1 1 = some v20 ∧ (w_X9_targetCount v20 x2 I19 P19 (fun (v22 : Int32) (I22 : zI) (P22 : zP) => (∃ n9, l_X7_writeInstruction_115 K n9 x1 x2 (I8 7 16) v22 0 I22 P22))))))))))))) else (∃ n9, l_X7_writeInstruction_154 K n9 x1 x2 0 I8 P8)) else (j_X7_writeInstruction_21 K x1 x2 (I v2 ((x2).toNatClampNeg)) I8 P8)))) else (j_X7_writeInstruction_21 K x1 x2 (I v2 ((x2).toNatClampNeg)) I6 P6)))))))
theorem e_X7_writeInstruction {x1 : Nat} {x2 : Int32} {I : zI} {P : zP} {K : zI → zP → Prop} (hP : PSt P) (h : w_X7_writeInstruction x1 x2 I P K) : Ev yX7_writeInstruction cX7_writeInstruction 7 none 3 71 0 0 [.ref 7, .ref x1, .int x2] SHy I P (zKv K) := by
  refine Ev.start [.ref 7, .ref x1, .int x2, .float 0, .float 0, .float 0, .float 0] pn_X7 rfl (Nat.le_of_ble_eq_true rfl) rfl (fun κ cx hE => ?_)
  unfold w_X7_writeInstruction at h
  refine g_aload_n cx dX7_writeInstruction_0 rfl ?_
  obtain ⟨hs1, h⟩ := h
  obtain ⟨v2, hv3, h⟩ := h
  refine g_getR cx lk_X7_119 hs1 (Nat.le_of_ble_eq_true rfl) rfl dX7_writeInstruction_1 hv3 ?_
  refine g_iload_n cx dX7_writeInstruction_4 rfl ?_
  obtain ⟨hs4, h⟩ := h
  obtain ⟨hc5, h⟩ := h
  refine g_iald cx dX7_writeInstruction_5 hs4 hc5 (x := (I v2 ((x2).toNatClampNeg))) rfl ?_
  refine g_istore_n cx dX7_writeInstruction_6 (Nat.le_of_ble_eq_true rfl) (Gx.L [.ref 7, .ref x1, .int x2, .int (I v2 ((x2).toNatClampNeg)), .float 0, .float 0, .float 0] rfl ?_)
  refine g_iload_n cx dX7_writeInstruction_7 rfl ?_
  refine g_wSi cx [.int (I v2 ((x2).toNatClampNeg))] [] (e_X9_isShortJump hP h) mt_X9_isShortJump ml_X7_146 dX7_writeInstruction_8 rfl rfl (Nat.le_of_ble_eq_true rfl) (Nat.le_of_ble_eq_true rfl) (Nat.le_of_ble_eq_true rfl) (fun v6 I6 P6 hP h => ?_)
  refine g_if_ne cx (tgt := 21) dX7_writeInstruction_11 rfl (fun c7 => ?_) (fun c7 => ?_)
  · have h := zifn c7 h
    exact gj_X7_writeInstruction_21 cx hE hP h
  · have h := zifp c7 h
    refine g_iload_n cx dX7_writeInstruction_14 rfl ?_
    refine g_wSi cx [.int (I v2 ((x2).toNatClampNeg))] [] (e_X9_isLongJump hP h) mt_X9_isLongJump ml_X7_225 dX7_writeInstruction_15 rfl rfl (Nat.le_of_ble_eq_true rfl) (Nat.le_of_ble_eq_true rfl) (Nat.le_of_ble_eq_true rfl) (fun v8 I8 P8 hP h => ?_)
    refine g_if_eq cx (tgt := 61) dX7_writeInstruction_18 rfl (fun c9 => ?_) (fun c9 => ?_)
    · have h := zifp c9 h
      refine g_iload_n cx dX7_writeInstruction_61 rfl ?_
      refine g_bipush cx dX7_writeInstruction_62 bp_33 ?_
      refine g_icmp_ne cx (tgt := 151) dX7_writeInstruction_64 rfl (fun c10 => ?_) (fun c10 => ?_)
      · have h := zifn c10 h
        refine g_iconst cx dX7_writeInstruction_151 ic_0 ?_
        refine g_istore cx dX7_writeInstruction_152 (Nat.le_of_ble_eq_true rfl) (Gx.L [.ref 7, .ref x1, .int x2, .int (I v2 ((x2).toNatClampNeg)), .int 0, .float 0, .float 0] rfl ?_)
        refine (Gx.unset 3 (Gx.L [.ref 7, .ref x1, .int x2, .float 0, .int 0, .float 0, .float 0] rfl ?_))
        obtain ⟨n9, h⟩ := h
        exact gl_X7_writeInstruction_154 cx hE n9 _ _ _ _ _ hP h
      · have h := zifp c10 h
        refine g_aload_n cx dX7_writeInstruction_67 rfl ?_
        refine g_getI cx lk_X7_62 rfl (Nat.le_of_ble_eq_true rfl) rfl dX7_writeInstruction_68 (x := (I8 7 16)) rfl ?_
        refine g_istore cx dX7_writeInstruction_71 (Nat.le_of_ble_eq_true rfl) (Gx.L [.ref 7, .ref x1, .int x2, .int (I v2 ((x2).toNatClampNeg)), .int (I8 7 16), .float 0, .float 0] rfl ?_)
        refine g_aload_n cx dX7_writeInstruction_73 rfl ?_
        refine g_aload_n cx dX7_writeInstruction_74 rfl ?_
        obtain ⟨v11, hv12, h⟩ := h
        refine g_getR cx lk_X7_160 hs1 (Nat.le_of_ble_eq_true rfl) rfl dX7_writeInstruction_75 hv12 ?_
        refine g_iload_n cx dX7_writeInstruction_78 rfl ?_
        refine g_iload_n cx dX7_writeInstruction_79 rfl ?_
        refine g_wVv cx [.ref v11, .int (I v2 ((x2).toNatClampNeg)), .int x2] [] (e_X7_writeByte hP h) mt_X7_writeByte ml_X7_221 rfl rfl rfl dX7_writeInstruction_80 rfl rfl (Nat.le_of_ble_eq_true rfl) (Nat.le_of_ble_eq_true rfl) (Nat.le_of_ble_eq_true rfl) (fun I13 P13 hP h => ?_)
        refine g_aload_n cx dX7_writeInstruction_83 rfl ?_
        refine g_aload_n cx dX7_writeInstruction_84 rfl ?_
        obtain ⟨v14, hv15, h⟩ := h
        refine g_getR cx lk_X7_160 hs1 (Nat.le_of_ble_eq_true rfl) rfl dX7_writeInstruction_85 hv15 ?_
        refine g_aload_n cx dX7_writeInstruction_88 rfl ?_
        obtain ⟨v16, hv17, h⟩ := h
        refine g_getR cx lk_X7_119 hs1 (Nat.le_of_ble_eq_true rfl) rfl dX7_writeInstruction_89 hv17 ?_
        refine g_iload_n cx dX7_writeInstruction_92 rfl ?_
        refine g_iconst cx dX7_writeInstruction_93 ic_1 ?_
        refine g_iadd cx dX7_writeInstruction_94 ?_
        refine g_wSi cx [.ref v16, .int (x2 + 1)] [.ref v14, .ref 7] (e_X9_byteAt hP h) mt_X9_byteAt ml_X7_232 dX7_writeInstruction_95 rfl rfl (Nat.le_of_ble_eq_true rfl) (Nat.le_of_ble_eq_true rfl) (Nat.le_of_ble_eq_true rfl) (fun v18 I18 P18 hP h => ?_)
        refine g_iload_n cx dX7_writeInstruction_98 rfl ?_
        refine g_wVv cx [.ref v14, .int v18, .int x2] [] (e_X7_writeByte hP h) mt_X7_writeByte ml_X7_221 rfl rfl rfl dX7_writeInstruction_99 rfl rfl (Nat.le_of_ble_eq_true rfl) (Nat.le_of_ble_eq_true rfl) (Nat.le_of_ble_eq_true rfl) (fun I19 P19 hP h => ?_)
        refine g_aload_n cx dX7_writeInstruction_102 rfl ?_
        obtain ⟨v20, hv21, h⟩ := h
        refine g_getR cx lk_X7_119 hs1 (Nat.le_of_ble_eq_true rfl) rfl dX7_writeInstruction_103 hv21 ?_
        refine g_iload_n cx dX7_writeInstruction_106 rfl ?_
        refine g_wSi cx [.ref v20, .int x2] [] (e_X9_targetCount hP h) mt_X9_targetCount ml_X7_236 dX7_writeInstruction_107 rfl rfl (Nat.le_of_ble_eq_true rfl) (Nat.le_of_ble_eq_true rfl) (Nat.le_of_ble_eq_true rfl) (fun v22 I22 P22 hP h => ?_)
        refine Gx.N 110 rfl ?_
        refine g_istore cx dX7_writeInstruction_110 (Nat.le_of_ble_eq_true rfl) (Gx.L [.ref 7, .ref x1, .int x2, .int (I v2 ((x2).toNatClampNeg)), .int (I8 7 16), .int v22, .float 0] rfl ?_)
        refine g_iconst cx dX7_writeInstruction_112 ic_0 ?_
        refine g_istore cx dX7_writeInstruction_113 (Nat.le_of_ble_eq_true rfl) (Gx.L [.ref 7, .ref x1, .int x2, .int (I v2 ((x2).toNatClampNeg)), .int (I8 7 16), .int v22, .int 0] rfl ?_)
        refine (Gx.unset 3 (Gx.L [.ref 7, .ref x1, .int x2, .float 0, .int (I8 7 16), .int v22, .int 0] rfl ?_))
        obtain ⟨n9, h⟩ := h
        exact gl_X7_writeInstruction_115 cx hE n9 _ _ _ _ _ _ _ hP h
    · have h := zifn c9 h
      exact gj_X7_writeInstruction_21 cx hE hP h
def l_X7_writeLeftPad_10 (K : zI → zP → Prop) : Nat → Nat → Int32 → zI → zP → Prop
  | 0, _, _, _, _ => False
  | n + 1, y1, y3, I, P => if (I 108 5) ≤ y3 then (SHy[y1]? = some (3, 11) ∧ (∃ v3, P y1 6 = some v3 ∧ (w_X7_writeByte v3 58 (-1) I P (fun (I5 : zI) (P5 : zP) => (K I5 P5))))) else (w_X4_sortOf y3 I P (fun (v6 : Int32) (I6 : zI) (P6 : zP) => (if v6 = 3 then (SHy[y1]? = some (3, 11) ∧ (w_X4_isAt y3 (I6 y1 0) 0 I6 P6 (fun (v9 : Int32) (I9 : zI) (P9 : zP) => (if v9 = 0 then ((l_X7_writeLeftPad_10 K n) y1 (y3 + 1) I9 P9) else (∃ v11, P9 y1 6 = some v11 ∧ (w_X7_writeByte v11 52 (-1) I9 P9 (fun (I13 : zI) (P13 : zP) => (∃ v14, P13 y1 6 = some v14 ∧ (w_X7_writeByte v14 y3 (-1) I13 P13 (fun (I16 : zI) (P16 : zP) => ((l_X7_writeLeftPad_10 K n) y1 (y3 + 1) I16 P16))))))))))) else ((l_X7_writeLeftPad_10 K n) y1 (y3 + 1) I6 P6))))
theorem gl_X7_writeLeftPad_10 {κ : zX} (cx : Cx yX7_writeLeftPad cX7_writeLeftPad 4 none 1 23 κ) {K : zI → zP → Prop} (hE : zEnd (zKv K) 0 0 κ) : ∀ (n : Nat) (y1 : Nat) (y3 : Int32) (I : zI) (P : zP), PSt P → l_X7_writeLeftPad_10 K n y1 y3 I P → Gx κ 10 [.ref 7, .ref y1, .ref 108, .int y3] [] SHy I P 0 0 := by
  intro n
  induction n with
  | zero =>
    intro y1 y3 I P hP h
    rw [l_X7_writeLeftPad_10] at h
    exact False.elim h
  | succ n ih =>
    intro y1 y3 I P hP h
    rw [l_X7_writeLeftPad_10] at h
    refine g_iload_n cx dX7_writeLeftPad_10 rfl ?_
    refine g_aload_n cx dX7_writeLeftPad_11 rfl ?_
    refine g_getI cx lk_X7_89 rfl (Nat.le_of_ble_eq_true rfl) rfl dX7_writeLeftPad_12 (x := (I 108 5)) rfl ?_
    refine g_icmp_ge cx (tgt := 67) dX7_writeLeftPad_15 rfl (fun c1 => ?_) (fun c1 => ?_)
    · have h := zifp c1 h
      refine g_aload_n cx dX7_writeLeftPad_67 rfl ?_
      refine g_aload_n cx dX7_writeLeftPad_68 rfl ?_
      obtain ⟨hs2, h⟩ := h
      obtain ⟨v3, hv4, h⟩ := h
      refine g_getR cx lk_X7_160 hs2 (Nat.le_of_ble_eq_true rfl) rfl dX7_writeLeftPad_69 hv4 ?_
      refine g_bipush cx dX7_writeLeftPad_72 bp_58 ?_
      refine g_iconst cx dX7_writeLeftPad_74 ic_m1 ?_
      refine g_wVv cx [.ref v3, .int 58, .int (-1)] [] (e_X7_writeByte hP h) mt_X7_writeByte ml_X7_221 rfl rfl rfl dX7_writeLeftPad_75 rfl rfl (Nat.le_of_ble_eq_true rfl) (Nat.le_of_ble_eq_true rfl) (Nat.le_of_ble_eq_true rfl) (fun I5 P5 hP h => ?_)
      exact g_wv cx hE dX7_writeLeftPad_78 rfl hP h
    · have h := zifn c1 h
      refine g_aload_n cx dX7_writeLeftPad_18 rfl ?_
      refine g_iload_n cx dX7_writeLeftPad_19 rfl ?_
      refine g_wVi cx [.int y3] [] (e_X4_sortOf hP h) mt_X4_sortOf ml_X7_211 rfl rfl rfl dX7_writeLeftPad_20 rfl rfl (Nat.le_of_ble_eq_true rfl) (Nat.le_of_ble_eq_true rfl) (Nat.le_of_ble_eq_true rfl) (fun v6 I6 P6 hP h => ?_)
      refine g_iconst cx dX7_writeLeftPad_23 ic_3 ?_
      refine g_icmp_ne cx (tgt := 61) dX7_writeLeftPad_24 rfl (fun c7 => ?_) (fun c7 => ?_)
      · have h := zifn c7 h
        refine g_iinc cx (v := (y3 + 1)) dX7_writeLeftPad_61 rfl rfl (Nat.le_of_ble_eq_true rfl) (Gx.L [.ref 7, .ref y1, .ref 108, .int (y3 + 1)] rfl ?_)
        refine g_goto cx (tgt := 10) dX7_writeLeftPad_64 rfl ?_
        exact ih _ _ _ _ hP h
      · have h := zifp c7 h
        refine g_aload_n cx dX7_writeLeftPad_27 rfl ?_
        refine g_iload_n cx dX7_writeLeftPad_28 rfl ?_
        refine g_aload_n cx dX7_writeLeftPad_29 rfl ?_
        obtain ⟨hs8, h⟩ := h
        refine g_getI cx lk_X7_100 hs8 (Nat.le_of_ble_eq_true rfl) rfl dX7_writeLeftPad_30 (x := (I6 y1 0)) rfl ?_
        refine g_iconst cx dX7_writeLeftPad_33 ic_0 ?_
        refine g_wVi cx [.int y3, .int (I6 y1 0), .int 0] [] (e_X4_isAt hP h) mt_X4_isAt ml_X7_214 rfl rfl rfl dX7_writeLeftPad_34 rfl rfl (Nat.le_of_ble_eq_true rfl) (Nat.le_of_ble_eq_true rfl) (Nat.le_of_ble_eq_true rfl) (fun v9 I9 P9 hP h => ?_)
        refine g_if_eq cx (tgt := 61) dX7_writeLeftPad_37 rfl (fun c10 => ?_) (fun c10 => ?_)
        · have h := zifp c10 h
          refine g_iinc cx (v := (y3 + 1)) dX7_writeLeftPad_61 rfl rfl (Nat.le_of_ble_eq_true rfl) (Gx.L [.ref 7, .ref y1, .ref 108, .int (y3 + 1)] rfl ?_)
          refine g_goto cx (tgt := 10) dX7_writeLeftPad_64 rfl ?_
          exact ih _ _ _ _ hP h
        · have h := zifn c10 h
          refine g_aload_n cx dX7_writeLeftPad_40 rfl ?_
          refine g_aload_n cx dX7_writeLeftPad_41 rfl ?_
          obtain ⟨v11, hv12, h⟩ := h
          refine g_getR cx lk_X7_160 hs8 (Nat.le_of_ble_eq_true rfl) rfl dX7_writeLeftPad_42 hv12 ?_
          refine g_bipush cx dX7_writeLeftPad_45 bp_52 ?_
          refine g_iconst cx dX7_writeLeftPad_47 ic_m1 ?_
          refine g_wVv cx [.ref v11, .int 52, .int (-1)] [] (e_X7_writeByte hP h) mt_X7_writeByte ml_X7_221 rfl rfl rfl dX7_writeLeftPad_48 rfl rfl (Nat.le_of_ble_eq_true rfl) (Nat.le_of_ble_eq_true rfl) (Nat.le_of_ble_eq_true rfl) (fun I13 P13 hP h => ?_)
          refine g_aload_n cx dX7_writeLeftPad_51 rfl ?_
          refine g_aload_n cx dX7_writeLeftPad_52 rfl ?_
          obtain ⟨v14, hv15, h⟩ := h
          refine g_getR cx lk_X7_160 hs8 (Nat.le_of_ble_eq_true rfl) rfl dX7_writeLeftPad_53 hv15 ?_
          refine g_iload_n cx dX7_writeLeftPad_56 rfl ?_
          refine g_iconst cx dX7_writeLeftPad_57 ic_m1 ?_
          refine g_wVv cx [.ref v14, .int y3, .int (-1)] [] (e_X7_writeByte hP h) mt_X7_writeByte ml_X7_221 rfl rfl rfl dX7_writeLeftPad_58 rfl rfl (Nat.le_of_ble_eq_true rfl) (Nat.le_of_ble_eq_true rfl) (Nat.le_of_ble_eq_true rfl) (fun I16 P16 hP h => ?_)
          refine g_iinc cx (v := (y3 + 1)) dX7_writeLeftPad_61 rfl rfl (Nat.le_of_ble_eq_true rfl) (Gx.L [.ref 7, .ref y1, .ref 108, .int (y3 + 1)] rfl ?_)
          refine g_goto cx (tgt := 10) dX7_writeLeftPad_64 rfl ?_
          exact ih _ _ _ _ hP h
def w_X7_writeLeftPad (x1 : Nat) (I : zI) (P : zP) (K : zI → zP → Prop) : Prop := if (I 7 12) = 0 then (K I P) else (∃ n9, l_X7_writeLeftPad_10 K n9 x1 0 I P)
theorem e_X7_writeLeftPad {x1 : Nat} {I : zI} {P : zP} {K : zI → zP → Prop} (hP : PSt P) (h : w_X7_writeLeftPad x1 I P K) : Ev yX7_writeLeftPad cX7_writeLeftPad 4 none 1 23 0 0 [.ref 7, .ref x1, .ref 108] SHy I P (zKv K) := by
  refine Ev.start [.ref 7, .ref x1, .ref 108, .float 0] pn_X7 rfl (Nat.le_of_ble_eq_true rfl) rfl (fun κ cx hE => ?_)
  unfold w_X7_writeLeftPad at h
  refine g_aload_n cx dX7_writeLeftPad_0 rfl ?_
  refine g_getI cx lk_X7_50 rfl (Nat.le_of_ble_eq_true rfl) rfl dX7_writeLeftPad_1 (x := (I 7 12)) rfl ?_
  refine g_if_ne cx (tgt := 8) dX7_writeLeftPad_4 rfl (fun c1 => ?_) (fun c1 => ?_)
  · have h := zifn c1 h
    refine g_iconst cx dX7_writeLeftPad_8 ic_0 ?_
    refine g_istore_n cx dX7_writeLeftPad_9 (Nat.le_of_ble_eq_true rfl) (Gx.L [.ref 7, .ref x1, .ref 108, .int 0] rfl ?_)
    obtain ⟨n9, h⟩ := h
    exact gl_X7_writeLeftPad_10 cx hE n9 _ _ _ _ hP h
  · have h := zifp c1 h
    exact g_wv cx hE dX7_writeLeftPad_7 rfl hP h
def j_X7_writeSidePads_112 (X2 : Nat → Int32 → zI → zP → Prop) (K : zI → zP → Prop) (y1 : Nat) (y3 : Int32) (y4 : Int32) (s0 : Int32) (s1 : Nat) (I : zI) (P : zP) : Prop := w_X7_writeJump s1 s0 y4 (-1) I P (fun (I1 : zI) (P1 : zP) => (X2 y1 (y3 + 1) I1 P1))
theorem gj_X7_writeSidePads_112 {κ : zX} (cx : Cx yX7_writeSidePads cX7_writeSidePads 5 none 3 71 κ) {K : zI → zP → Prop} (hE : zEnd (zKv K) 0 0 κ) {X2 : Nat → Int32 → zI → zP → Prop} (hX2 : ∀ (y1 : Nat) (y3 : Int32) (I : zI) (P : zP), PSt P → X2 y1 y3 I P → Gx κ 2 [.ref 7, .ref y1, .ref 108, .int y3, .float 0] [] SHy I P 0 0) {y1 : Nat} {y3 : Int32} {y4 : Int32} {s0 : Int32} {s1 : Nat} {I : zI} {P : zP} (hP : PSt P) (h : j_X7_writeSidePads_112 X2 K y1 y3 y4 s0 s1 I P) : Gx κ 112 [.ref 7, .ref y1, .ref 108, .int y3, .int y4] [.int s0, .ref s1, .ref 7] SHy I P 0 0 := by
  unfold j_X7_writeSidePads_112 at h
  refine g_iload cx dX7_writeSidePads_112 rfl ?_
  refine g_iconst cx dX7_writeSidePads_114 ic_m1 ?_
  refine g_wVv cx [.ref s1, .int s0, .int y4, .int (-1)] [] (e_X7_writeJump hP h) mt_X7_writeJump ml_X7_228 rfl rfl rfl dX7_writeSidePads_115 rfl rfl (Nat.le_of_ble_eq_true rfl) (Nat.le_of_ble_eq_true rfl) (Nat.le_of_ble_eq_true rfl) (fun I1 P1 hP h => ?_)
  refine g_iinc cx (v := (y3 + 1)) dX7_writeSidePads_118 rfl rfl (Nat.le_of_ble_eq_true rfl) (Gx.L [.ref 7, .ref y1, .ref 108, .int (y3 + 1), .int y4] rfl ?_)
  refine g_goto cx (tgt := 2) dX7_writeSidePads_121 rfl ?_
  refine (Gx.unset 4 (Gx.L [.ref 7, .ref y1, .ref 108, .int (y3 + 1), .float 0] rfl ?_))
  exact hX2 _ _ _ _ hP h
def l_X7_writeSidePads_25 (X2 : Nat → Int32 → zI → zP → Prop) (K : zI → zP → Prop) : Nat → Nat → Int32 → Int32 → zI → zP → Prop
  | 0, _, _, _, _, _ => False
  | n + 1, y1, y3, y4, I, P => if (I 108 5) ≤ y4 then (SHy[y1]? = some (3, 11) ∧ (∃ v3, P y1 1 = some v3 ∧ (w_X9_targetAt v3 y3 0 I P (fun (v5 : Int32) (I5 : zI) (P5 : zP) => (w_X7_groupAt v5 I5 P5 (fun (v6 : Int32) (I6 : zI) (P6 : zP) => (∃ v7, P6 y1 6 = some v7 ∧ (vp_in y3 400 ∧ (if (I6 17 ((y3).toNatClampNeg)) = 0 then (j_X7_writeSidePads_112 X2 K y1 y3 v6 20 v7 I6 P6) else (j_X7_writeSidePads_112 X2 K y1 y3 v6 84 v7 I6 P6)))))))))) else (w_X4_sortOf y4 I P (fun (v11 : Int32) (I11 : zI) (P11 : zP) => (if v11 = 1 then (SHy[y1]? = some (3, 11) ∧ (w_X4_isAt y4 (I11 y1 0) y3 I11 P11 (fun (v14 : Int32) (I14 : zI) (P14 : zP) => (if v14 = 0 then ((l_X7_writeSidePads_25 X2 K n) y1 y3 (y4 + 1) I14 P14) else (∃ v16, P14 y1 6 = some v16 ∧ (w_X7_writeSide v16 y4 1 (-1) I14 P14 (fun (I18 : zI) (P18 : zP) => ((l_X7_writeSidePads_25 X2 K n) y1 y3 (y4 + 1) I18 P18)))))))) else ((l_X7_writeSidePads_25 X2 K n) y1 y3 (y4 + 1) I11 P11))))
theorem gl_X7_writeSidePads_25 {κ : zX} (cx : Cx yX7_writeSidePads cX7_writeSidePads 5 none 3 71 κ) {K : zI → zP → Prop} (hE : zEnd (zKv K) 0 0 κ) {X2 : Nat → Int32 → zI → zP → Prop} (hX2 : ∀ (y1 : Nat) (y3 : Int32) (I : zI) (P : zP), PSt P → X2 y1 y3 I P → Gx κ 2 [.ref 7, .ref y1, .ref 108, .int y3, .float 0] [] SHy I P 0 0) : ∀ (n : Nat) (y1 : Nat) (y3 : Int32) (y4 : Int32) (I : zI) (P : zP), PSt P → l_X7_writeSidePads_25 X2 K n y1 y3 y4 I P → Gx κ 25 [.ref 7, .ref y1, .ref 108, .int y3, .int y4] [] SHy I P 0 0 := by
  intro n
  induction n with
  | zero =>
    intro y1 y3 y4 I P hP h
    rw [l_X7_writeSidePads_25] at h
    exact False.elim h
  | succ n ih =>
    intro y1 y3 y4 I P hP h
    rw [l_X7_writeSidePads_25] at h
    refine g_iload cx dX7_writeSidePads_25 rfl ?_
    refine g_aload_n cx dX7_writeSidePads_27 rfl ?_
    refine g_getI cx lk_X7_89 rfl (Nat.le_of_ble_eq_true rfl) rfl dX7_writeSidePads_28 (x := (I 108 5)) rfl ?_
    refine g_icmp_ge cx (tgt := 76) dX7_writeSidePads_31 rfl (fun c1 => ?_) (fun c1 => ?_)
    · have h := zifp c1 h
      refine g_aload_n cx dX7_writeSidePads_76 rfl ?_
      refine g_aload_n cx dX7_writeSidePads_77 rfl ?_
      obtain ⟨hs2, h⟩ := h
      obtain ⟨v3, hv4, h⟩ := h
      refine g_getR cx lk_X7_119 hs2 (Nat.le_of_ble_eq_true rfl) rfl dX7_writeSidePads_78 hv4 ?_
      refine g_iload_n cx dX7_writeSidePads_81 rfl ?_
      refine g_iconst cx dX7_writeSidePads_82 ic_0 ?_
      refine g_wSi cx [.ref v3, .int y3, .int 0] [.ref 7] (e_X9_targetAt hP h) mt_X9_targetAt ml_X7_139 dX7_writeSidePads_83 rfl rfl (Nat.le_of_ble_eq_true rfl) (Nat.le_of_ble_eq_true rfl) (Nat.le_of_ble_eq_true rfl) (fun v5 I5 P5 hP h => ?_)
      refine g_wVi cx [.int v5] [] (e_X7_groupAt hP h) mt_X7_groupAt ml_X7_142 rfl rfl rfl dX7_writeSidePads_86 rfl rfl (Nat.le_of_ble_eq_true rfl) (Nat.le_of_ble_eq_true rfl) (Nat.le_of_ble_eq_true rfl) (fun v6 I6 P6 hP h => ?_)
      refine g_istore cx dX7_writeSidePads_89 (Nat.le_of_ble_eq_true rfl) (Gx.L [.ref 7, .ref y1, .ref 108, .int y3, .int v6] rfl ?_)
      refine g_aload_n cx dX7_writeSidePads_91 rfl ?_
      refine g_aload_n cx dX7_writeSidePads_92 rfl ?_
      obtain ⟨v7, hv8, h⟩ := h
      refine g_getR cx lk_X7_160 hs2 (Nat.le_of_ble_eq_true rfl) rfl dX7_writeSidePads_93 hv8 ?_
      refine g_aload_n cx dX7_writeSidePads_96 rfl ?_
      refine g_getR cx lk_X7_40 rfl (Nat.le_of_ble_eq_true rfl) rfl dX7_writeSidePads_97 (v := 17) (pst hP 14 rfl) ?_
      refine g_iload_n cx dX7_writeSidePads_100 rfl ?_
      obtain ⟨hc9, h⟩ := h
      refine g_bald cx dX7_writeSidePads_101 rfl hc9 (x := (I6 17 ((y3).toNatClampNeg))) rfl ?_
      refine g_if_eq cx (tgt := 110) dX7_writeSidePads_102 rfl (fun c10 => ?_) (fun c10 => ?_)
      · have h := zifp c10 h
        refine g_bipush cx dX7_writeSidePads_110 bp_20 ?_
        exact gj_X7_writeSidePads_112 cx hE hX2 hP h
      · have h := zifn c10 h
        refine g_bipush cx dX7_writeSidePads_105 bp_84 ?_
        refine g_goto cx (tgt := 112) dX7_writeSidePads_107 rfl ?_
        exact gj_X7_writeSidePads_112 cx hE hX2 hP h
    · have h := zifn c1 h
      refine g_aload_n cx dX7_writeSidePads_34 rfl ?_
      refine g_iload cx dX7_writeSidePads_35 rfl ?_
      refine g_wVi cx [.int y4] [] (e_X4_sortOf hP h) mt_X4_sortOf ml_X7_211 rfl rfl rfl dX7_writeSidePads_37 rfl rfl (Nat.le_of_ble_eq_true rfl) (Nat.le_of_ble_eq_true rfl) (Nat.le_of_ble_eq_true rfl) (fun v11 I11 P11 hP h => ?_)
      refine g_iconst cx dX7_writeSidePads_40 ic_1 ?_
      refine g_icmp_ne cx (tgt := 70) dX7_writeSidePads_41 rfl (fun c12 => ?_) (fun c12 => ?_)
      · have h := zifn c12 h
        refine g_iinc cx (v := (y4 + 1)) dX7_writeSidePads_70 rfl rfl (Nat.le_of_ble_eq_true rfl) (Gx.L [.ref 7, .ref y1, .ref 108, .int y3, .int (y4 + 1)] rfl ?_)
        refine g_goto cx (tgt := 25) dX7_writeSidePads_73 rfl ?_
        exact ih _ _ _ _ _ hP h
      · have h := zifp c12 h
        refine g_aload_n cx dX7_writeSidePads_44 rfl ?_
        refine g_iload cx dX7_writeSidePads_45 rfl ?_
        refine g_aload_n cx dX7_writeSidePads_47 rfl ?_
        obtain ⟨hs13, h⟩ := h
        refine g_getI cx lk_X7_100 hs13 (Nat.le_of_ble_eq_true rfl) rfl dX7_writeSidePads_48 (x := (I11 y1 0)) rfl ?_
        refine g_iload_n cx dX7_writeSidePads_51 rfl ?_
        refine g_wVi cx [.int y4, .int (I11 y1 0), .int y3] [] (e_X4_isAt hP h) mt_X4_isAt ml_X7_214 rfl rfl rfl dX7_writeSidePads_52 rfl rfl (Nat.le_of_ble_eq_true rfl) (Nat.le_of_ble_eq_true rfl) (Nat.le_of_ble_eq_true rfl) (fun v14 I14 P14 hP h => ?_)
        refine g_if_eq cx (tgt := 70) dX7_writeSidePads_55 rfl (fun c15 => ?_) (fun c15 => ?_)
        · have h := zifp c15 h
          refine g_iinc cx (v := (y4 + 1)) dX7_writeSidePads_70 rfl rfl (Nat.le_of_ble_eq_true rfl) (Gx.L [.ref 7, .ref y1, .ref 108, .int y3, .int (y4 + 1)] rfl ?_)
          refine g_goto cx (tgt := 25) dX7_writeSidePads_73 rfl ?_
          exact ih _ _ _ _ _ hP h
        · have h := zifn c15 h
          refine g_aload_n cx dX7_writeSidePads_58 rfl ?_
          refine g_aload_n cx dX7_writeSidePads_59 rfl ?_
          obtain ⟨v16, hv17, h⟩ := h
          refine g_getR cx lk_X7_160 hs13 (Nat.le_of_ble_eq_true rfl) rfl dX7_writeSidePads_60 hv17 ?_
          refine g_iload cx dX7_writeSidePads_63 rfl ?_
          refine g_iconst cx dX7_writeSidePads_65 ic_1 ?_
          refine g_iconst cx dX7_writeSidePads_66 ic_m1 ?_
          refine g_wVv cx [.ref v16, .int y4, .int 1, .int (-1)] [] (e_X7_writeSide hP h) mt_X7_writeSide ml_X7_242 rfl rfl rfl dX7_writeSidePads_67 rfl rfl (Nat.le_of_ble_eq_true rfl) (Nat.le_of_ble_eq_true rfl) (Nat.le_of_ble_eq_true rfl) (fun I18 P18 hP h => ?_)
          refine g_iinc cx (v := (y4 + 1)) dX7_writeSidePads_70 rfl rfl (Nat.le_of_ble_eq_true rfl) (Gx.L [.ref 7, .ref y1, .ref 108, .int y3, .int (y4 + 1)] rfl ?_)
          refine g_goto cx (tgt := 25) dX7_writeSidePads_73 rfl ?_
          exact ih _ _ _ _ _ hP h
def l_X7_writeSidePads_2 (K : zI → zP → Prop) : Nat → Nat → Int32 → zI → zP → Prop
  | 0, _, _, _, _ => False
  | n + 1, y1, y3, I, P => SHy[y1]? = some (3, 11) ∧ (if (I y1 9) ≤ y3 then (K I P) else (vp_in y3 400 ∧ (if (I 10 ((y3).toNatClampNeg)) = 0 then ((l_X7_writeSidePads_2 K n) y1 (y3 + 1) I P) else (∃ n9, l_X7_writeSidePads_25 (l_X7_writeSidePads_2 K n) K n9 y1 y3 0 I P))))
theorem gl_X7_writeSidePads_2 {κ : zX} (cx : Cx yX7_writeSidePads cX7_writeSidePads 5 none 3 71 κ) {K : zI → zP → Prop} (hE : zEnd (zKv K) 0 0 κ) : ∀ (n : Nat) (y1 : Nat) (y3 : Int32) (I : zI) (P : zP), PSt P → l_X7_writeSidePads_2 K n y1 y3 I P → Gx κ 2 [.ref 7, .ref y1, .ref 108, .int y3, .float 0] [] SHy I P 0 0 := by
  intro n
  induction n with
  | zero =>
    intro y1 y3 I P hP h
    rw [l_X7_writeSidePads_2] at h
    exact False.elim h
  | succ n ih =>
    intro y1 y3 I P hP h
    rw [l_X7_writeSidePads_2] at h
    refine g_iload_n cx dX7_writeSidePads_2 rfl ?_
    refine g_aload_n cx dX7_writeSidePads_3 rfl ?_
    obtain ⟨hs1, h⟩ := h
    refine g_getI cx lk_X7_116 hs1 (Nat.le_of_ble_eq_true rfl) rfl dX7_writeSidePads_4 (x := (I y1 9)) rfl ?_
    refine g_icmp_ge cx (tgt := 124) dX7_writeSidePads_7 rfl (fun c2 => ?_) (fun c2 => ?_)
    · have h := zifp c2 h
      exact g_wv cx hE dX7_writeSidePads_124 rfl hP h
    · have h := zifn c2 h
      refine g_aload_n cx dX7_writeSidePads_10 rfl ?_
      refine g_getR cx lk_X7_18 rfl (Nat.le_of_ble_eq_true rfl) rfl dX7_writeSidePads_11 (v := 10) (pst hP 7 rfl) ?_
      refine g_iload_n cx dX7_writeSidePads_14 rfl ?_
      obtain ⟨hc3, h⟩ := h
      refine g_iald cx dX7_writeSidePads_15 rfl hc3 (x := (I 10 ((y3).toNatClampNeg))) rfl ?_
      refine g_if_ne cx (tgt := 22) dX7_writeSidePads_16 rfl (fun c4 => ?_) (fun c4 => ?_)
      · have h := zifn c4 h
        refine g_iconst cx dX7_writeSidePads_22 ic_0 ?_
        refine g_istore cx dX7_writeSidePads_23 (Nat.le_of_ble_eq_true rfl) (Gx.L [.ref 7, .ref y1, .ref 108, .int y3, .int 0] rfl ?_)
        obtain ⟨n9, h⟩ := h
        exact gl_X7_writeSidePads_25 cx hE ih n9 _ _ _ _ _ hP h
      · have h := zifp c4 h
        refine g_goto cx (tgt := 118) dX7_writeSidePads_19 rfl ?_
        refine g_iinc cx (v := (y3 + 1)) dX7_writeSidePads_118 rfl rfl (Nat.le_of_ble_eq_true rfl) (Gx.L [.ref 7, .ref y1, .ref 108, .int (y3 + 1), .float 0] rfl ?_)
        refine g_goto cx (tgt := 2) dX7_writeSidePads_121 rfl ?_
        exact ih _ _ _ _ hP h
def w_X7_writeSidePads (x1 : Nat) (I : zI) (P : zP) (K : zI → zP → Prop) : Prop := ∃ n9, l_X7_writeSidePads_2 K n9 x1 0 I P
theorem e_X7_writeSidePads {x1 : Nat} {I : zI} {P : zP} {K : zI → zP → Prop} (hP : PSt P) (h : w_X7_writeSidePads x1 I P K) : Ev yX7_writeSidePads cX7_writeSidePads 5 none 3 71 0 0 [.ref 7, .ref x1, .ref 108] SHy I P (zKv K) := by
  refine Ev.start [.ref 7, .ref x1, .ref 108, .float 0, .float 0] pn_X7 rfl (Nat.le_of_ble_eq_true rfl) rfl (fun κ cx hE => ?_)
  unfold w_X7_writeSidePads at h
  refine g_iconst cx dX7_writeSidePads_0 ic_0 ?_
  refine g_istore_n cx dX7_writeSidePads_1 (Nat.le_of_ble_eq_true rfl) (Gx.L [.ref 7, .ref x1, .ref 108, .int 0, .float 0] rfl ?_)
  obtain ⟨n9, h⟩ := h
  exact gl_X7_writeSidePads_2 cx hE n9 _ _ _ _ hP h
def j_X7_writeAll_141 (X27 : Nat → Nat → Int32 → zI → zP → Prop) (K : zI → zP → Prop) (y1 : Nat) (y3 : Nat) (y4 : Int32) (s0 : Int32) (s1 : Int32) (s2 : Nat) (I : zI) (P : zP) : Prop := SHy[s2]? = some (8, 11) ∧ (X27 y1 y3 (y4 + 1) (zu I s2 8 (s1 + s0)) P)
theorem gj_X7_writeAll_141 {κ : zX} (cx : Cx yX7_writeAll cX7_writeAll 5 none 4 97 κ) {K : zI → zP → Prop} (hE : zEnd (zKv K) 0 0 κ) {X27 : Nat → Nat → Int32 → zI → zP → Prop} (hX27 : ∀ (y1 : Nat) (y3 : Nat) (y4 : Int32) (I : zI) (P : zP), PSt P → X27 y1 y3 y4 I P → Gx κ 27 [.ref 7, .ref y1, .ref 108, .ref y3, .int y4] [] SHy I P 0 0) {y1 : Nat} {y3 : Nat} {y4 : Int32} {s0 : Int32} {s1 : Int32} {s2 : Nat} {I : zI} {P : zP} (hP : PSt P) (h : j_X7_writeAll_141 X27 K y1 y3 y4 s0 s1 s2 I P) : Gx κ 141 [.ref 7, .ref y1, .ref 108, .ref y3, .int y4] [.int s0, .int s1, .ref s2] SHy I P 0 0 := by
  unfold j_X7_writeAll_141 at h
  refine g_iadd cx dX7_writeAll_141 ?_
  obtain ⟨hs1, h⟩ := h
  refine g_pI cx lk_X7_164 hs1 (Nat.le_of_ble_eq_true rfl) rfl dX7_writeAll_142 fi_8_8 rfl rfl ?_
  refine g_iinc cx (v := (y4 + 1)) dX7_writeAll_145 rfl rfl (Nat.le_of_ble_eq_true rfl) (Gx.L [.ref 7, .ref y1, .ref 108, .ref y3, .int (y4 + 1)] rfl ?_)
  refine g_goto cx (tgt := 27) dX7_writeAll_148 rfl ?_
  exact hX27 _ _ _ _ _ hP h
def j_X7_writeAll_74 (X27 : Nat → Nat → Int32 → zI → zP → Prop) (K : zI → zP → Prop) (y1 : Nat) (y3 : Nat) (y4 : Int32) (s0 : Int32) (s1 : Int32) (s2 : Nat) (I : zI) (P : zP) : Prop := SHy[s2]? = some (12, (zlen s2)) ∧ (vp_in s1 (zlen s2) ∧ (SHy[y1]? = some (3, 11) ∧ (w_X3_beginsAt y1 y4 (zu I s2 ((s1).toNatClampNeg) (vp_nar .boolean s0)) P (fun (v4 : Int32) (I4 : zI) (P4 : zP) => (if v4 = 0 then (X27 y1 y3 (y4 + 1) I4 P4) else (w_X7_writeAhead y1 y4 I4 P4 (fun (I6 : zI) (P6 : zP) => (w_X7_writeInstruction y1 y4 I6 P6 (fun (I7 : zI) (P7 : zP) => (w_X7_writeBehind y1 y4 I7 P7 (fun (I8 : zI) (P8 : zP) => (SHy[y3]? = some (8, 11) ∧ (∃ v10, P8 y3 2 = some v10 ∧ (vp_in y4 400 ∧ (SHy[v10]? = some (11, (zlen v10)) ∧ (vp_in y4 (zlen v10) ∧ (vp_in y4 400 ∧ (if ((zu I8 v10 ((y4).toNatClampNeg) (I8 13 ((y4).toNatClampNeg))) 16 ((y4).toNatClampNeg)) = 0 then (j_X7_writeAll_141 X27 K y1 y3 y4 0 ((zu I8 v10 ((y4).toNatClampNeg) (I8 13 ((y4).toNatClampNeg))) y3 8) y3 (zu I8 v10 ((y4).toNatClampNeg) (I8 13 ((y4).toNatClampNeg))) P8) else (j_X7_writeAll_141 X27 K y1 y3 y4 1 ((zu I8 v10 ((y4).toNatClampNeg) (I8 13 ((y4).toNatClampNeg))) y3 8) y3 (zu I8 v10 ((y4).toNatClampNeg) (I8 13 ((y4).toNatClampNeg))) P8)))))))))))))))))))
theorem gj_X7_writeAll_74 {κ : zX} (cx : Cx yX7_writeAll cX7_writeAll 5 none 4 97 κ) {K : zI → zP → Prop} (hE : zEnd (zKv K) 0 0 κ) {X27 : Nat → Nat → Int32 → zI → zP → Prop} (hX27 : ∀ (y1 : Nat) (y3 : Nat) (y4 : Int32) (I : zI) (P : zP), PSt P → X27 y1 y3 y4 I P → Gx κ 27 [.ref 7, .ref y1, .ref 108, .ref y3, .int y4] [] SHy I P 0 0) {y1 : Nat} {y3 : Nat} {y4 : Int32} {s0 : Int32} {s1 : Int32} {s2 : Nat} {I : zI} {P : zP} (hP : PSt P) (h : j_X7_writeAll_74 X27 K y1 y3 y4 s0 s1 s2 I P) : Gx κ 74 [.ref 7, .ref y1, .ref 108, .ref y3, .int y4] [.int s0, .int s1, .ref s2] SHy I P 0 0 := by
  unfold j_X7_writeAll_74 at h
  obtain ⟨hs1, h⟩ := h
  obtain ⟨hc2, h⟩ := h
  refine g_bast cx dX7_writeAll_74 hs1 hc2 ?_
  refine g_aload_n cx dX7_writeAll_75 rfl ?_
  refine g_iload cx dX7_writeAll_76 rfl ?_
  obtain ⟨hs3, h⟩ := h
  refine g_wVi cx [.int y4] [] (e_X3_beginsAt hP h) mt_X3_beginsAt ml_X7_105 hs3 rfl rfl dX7_writeAll_78 rfl rfl (Nat.le_of_ble_eq_true rfl) (Nat.le_of_ble_eq_true rfl) (Nat.le_of_ble_eq_true rfl) (fun v4 I4 P4 hP h => ?_)
  refine g_if_eq cx (tgt := 145) dX7_writeAll_81 rfl (fun c5 => ?_) (fun c5 => ?_)
  · have h := zifp c5 h
    refine g_iinc cx (v := (y4 + 1)) dX7_writeAll_145 rfl rfl (Nat.le_of_ble_eq_true rfl) (Gx.L [.ref 7, .ref y1, .ref 108, .ref y3, .int (y4 + 1)] rfl ?_)
    refine g_goto cx (tgt := 27) dX7_writeAll_148 rfl ?_
    exact hX27 _ _ _ _ _ hP h
  · have h := zifn c5 h
    refine g_aload_n cx dX7_writeAll_84 rfl ?_
    refine g_aload_n cx dX7_writeAll_85 rfl ?_
    refine g_aload_n cx dX7_writeAll_86 rfl ?_
    refine g_iload cx dX7_writeAll_87 rfl ?_
    refine g_wVv cx [.ref y1, .ref 108, .int y4] [] (e_X7_writeAhead hP h) mt_X7_writeAhead ml_X7_176 rfl rfl rfl dX7_writeAll_89 rfl rfl (Nat.le_of_ble_eq_true rfl) (Nat.le_of_ble_eq_true rfl) (Nat.le_of_ble_eq_true rfl) (fun I6 P6 hP h => ?_)
    refine g_aload_n cx dX7_writeAll_92 rfl ?_
    refine g_aload_n cx dX7_writeAll_93 rfl ?_
    refine g_iload cx dX7_writeAll_94 rfl ?_
    refine g_wVv cx [.ref y1, .int y4] [] (e_X7_writeInstruction hP h) mt_X7_writeInstruction ml_X7_180 rfl rfl rfl dX7_writeAll_96 rfl rfl (Nat.le_of_ble_eq_true rfl) (Nat.le_of_ble_eq_true rfl) (Nat.le_of_ble_eq_true rfl) (fun I7 P7 hP h => ?_)
    refine g_aload_n cx dX7_writeAll_99 rfl ?_
    refine g_aload_n cx dX7_writeAll_100 rfl ?_
    refine g_aload_n cx dX7_writeAll_101 rfl ?_
    refine g_iload cx dX7_writeAll_102 rfl ?_
    refine g_wVv cx [.ref y1, .ref 108, .int y4] [] (e_X7_writeBehind hP h) mt_X7_writeBehind ml_X7_184 rfl rfl rfl dX7_writeAll_104 rfl rfl (Nat.le_of_ble_eq_true rfl) (Nat.le_of_ble_eq_true rfl) (Nat.le_of_ble_eq_true rfl) (fun I8 P8 hP h => ?_)
    refine g_aload_n cx dX7_writeAll_107 rfl ?_
    obtain ⟨hs9, h⟩ := h
    obtain ⟨v10, hv11, h⟩ := h
    refine g_getR cx lk_X7_187 hs9 (Nat.le_of_ble_eq_true rfl) rfl dX7_writeAll_108 hv11 ?_
    refine g_iload cx dX7_writeAll_111 rfl ?_
    refine g_aload_n cx dX7_writeAll_113 rfl ?_
    refine g_getR cx lk_X7_27 rfl (Nat.le_of_ble_eq_true rfl) rfl dX7_writeAll_114 (v := 13) (pst hP 10 rfl) ?_
    refine g_iload cx dX7_writeAll_117 rfl ?_
    obtain ⟨hc12, h⟩ := h
    refine g_iald cx dX7_writeAll_119 rfl hc12 (x := (I8 13 ((y4).toNatClampNeg))) rfl ?_
    obtain ⟨hs13, h⟩ := h
    obtain ⟨hc14, h⟩ := h
    refine g_iast cx dX7_writeAll_120 hs13 hc14 ?_
    refine g_aload_n cx dX7_writeAll_121 rfl ?_
    refine g_dup cx dX7_writeAll_122 rfl ?_
    refine Gx.N 123 rfl ?_
    refine g_getI cx lk_X7_164 hs9 (Nat.le_of_ble_eq_true rfl) rfl dX7_writeAll_123 (x := ((zu I8 v10 ((y4).toNatClampNeg) (I8 13 ((y4).toNatClampNeg))) y3 8)) rfl ?_
    refine g_aload_n cx dX7_writeAll_126 rfl ?_
    refine g_getR cx lk_X7_36 rfl (Nat.le_of_ble_eq_true rfl) rfl dX7_writeAll_127 (v := 16) (pst hP 13 rfl) ?_
    refine g_iload cx dX7_writeAll_130 rfl ?_
    obtain ⟨hc15, h⟩ := h
    refine g_bald cx dX7_writeAll_132 rfl hc15 (x := ((zu I8 v10 ((y4).toNatClampNeg) (I8 13 ((y4).toNatClampNeg))) 16 ((y4).toNatClampNeg))) rfl ?_
    refine g_if_eq cx (tgt := 140) dX7_writeAll_133 rfl (fun c16 => ?_) (fun c16 => ?_)
    · have h := zifp c16 h
      refine g_iconst cx dX7_writeAll_140 ic_0 ?_
      exact gj_X7_writeAll_141 cx hE hX27 hP h
    · have h := zifn c16 h
      refine g_iconst cx dX7_writeAll_136 ic_1 ?_
      refine g_goto cx (tgt := 141) dX7_writeAll_137 rfl ?_
      exact gj_X7_writeAll_141 cx hE hX27 hP h
def j_X7_writeAll_73 (X27 : Nat → Nat → Int32 → zI → zP → Prop) (K : zI → zP → Prop) (y1 : Nat) (y3 : Nat) (y4 : Int32) (s0 : Int32) (s1 : Nat) (I : zI) (P : zP) : Prop := j_X7_writeAll_74 X27 K y1 y3 y4 0 s0 s1 I P
theorem gj_X7_writeAll_73 {κ : zX} (cx : Cx yX7_writeAll cX7_writeAll 5 none 4 97 κ) {K : zI → zP → Prop} (hE : zEnd (zKv K) 0 0 κ) {X27 : Nat → Nat → Int32 → zI → zP → Prop} (hX27 : ∀ (y1 : Nat) (y3 : Nat) (y4 : Int32) (I : zI) (P : zP), PSt P → X27 y1 y3 y4 I P → Gx κ 27 [.ref 7, .ref y1, .ref 108, .ref y3, .int y4] [] SHy I P 0 0) {y1 : Nat} {y3 : Nat} {y4 : Int32} {s0 : Int32} {s1 : Nat} {I : zI} {P : zP} (hP : PSt P) (h : j_X7_writeAll_73 X27 K y1 y3 y4 s0 s1 I P) : Gx κ 73 [.ref 7, .ref y1, .ref 108, .ref y3, .int y4] [.int s0, .ref s1] SHy I P 0 0 := by
  unfold j_X7_writeAll_73 at h
  refine g_iconst cx dX7_writeAll_73 ic_0 ?_
  exact gj_X7_writeAll_74 cx hE hX27 hP h
def l_X7_writeAll_27 (K : zI → zP → Prop) : Nat → Nat → Nat → Int32 → zI → zP → Prop
  | 0, _, _, _, _, _ => False
  | n + 1, y1, y3, y4, I, P => SHy[y1]? = some (3, 11) ∧ (if (I y1 9) ≤ y4 then (w_X7_writeSidePads y1 I P (fun (I3 : zI) (P3 : zP) => (w_X7_writeCaughtPads y1 I3 P3 (fun (I4 : zI) (P4 : zP) => (w_X7_writeLeftPad y1 I4 P4 (fun (I5 : zI) (P5 : zP) => (w_X7_writeHandlers y1 I5 P5 (fun (I6 : zI) (P6 : zP) => (SHy[y3]? = some (8, 11) ∧ (K (zu (zu (zu (zu I6 y3 6 (I6 7 15)) y3 9 ((zu I6 y3 6 (I6 7 15)) 7 13)) y3 10 ((zu (zu I6 y3 6 (I6 7 15)) y3 9 ((zu I6 y3 6 (I6 7 15)) 7 13)) 108 5)) y3 5 1) P6)))))))))) else (SHy[y3]? = some (8, 11) ∧ (∃ v9, P y3 3 = some v9 ∧ (w_X3_beginsAt y1 y4 I P (fun (v11 : Int32) (I11 : zI) (P11 : zP) => (if v11 = 0 then (j_X7_writeAll_73 (l_X7_writeAll_27 K n) K y1 y3 y4 y4 v9 I11 P11) else (vp_in y4 400 ∧ (vp_in y4 400 ∧ (if ((I11 8 ((y4).toNatClampNeg)) + (I11 9 ((y4).toNatClampNeg))) ≤ 0 then (j_X7_writeAll_73 (l_X7_writeAll_27 K n) K y1 y3 y4 y4 v9 I11 P11) else (j_X7_writeAll_74 (l_X7_writeAll_27 K n) K y1 y3 y4 1 y4 v9 I11 P11))))))))))
theorem gl_X7_writeAll_27 {κ : zX} (cx : Cx yX7_writeAll cX7_writeAll 5 none 4 97 κ) {K : zI → zP → Prop} (hE : zEnd (zKv K) 0 0 κ) : ∀ (n : Nat) (y1 : Nat) (y3 : Nat) (y4 : Int32) (I : zI) (P : zP), PSt P → l_X7_writeAll_27 K n y1 y3 y4 I P → Gx κ 27 [.ref 7, .ref y1, .ref 108, .ref y3, .int y4] [] SHy I P 0 0 := by
  intro n
  induction n with
  | zero =>
    intro y1 y3 y4 I P hP h
    rw [l_X7_writeAll_27] at h
    exact False.elim h
  | succ n ih =>
    intro y1 y3 y4 I P hP h
    rw [l_X7_writeAll_27] at h
    refine g_iload cx dX7_writeAll_27 rfl ?_
    refine g_aload_n cx dX7_writeAll_29 rfl ?_
    obtain ⟨hs1, h⟩ := h
    refine g_getI cx lk_X7_116 hs1 (Nat.le_of_ble_eq_true rfl) rfl dX7_writeAll_30 (x := (I y1 9)) rfl ?_
    refine g_icmp_ge cx (tgt := 151) dX7_writeAll_33 rfl (fun c2 => ?_) (fun c2 => ?_)
    · have h := zifp c2 h
      refine g_aload_n cx dX7_writeAll_151 rfl ?_
      refine g_aload_n cx dX7_writeAll_152 rfl ?_
      refine g_aload_n cx dX7_writeAll_153 rfl ?_
      refine g_wVv cx [.ref y1, .ref 108] [] (e_X7_writeSidePads hP h) mt_X7_writeSidePads ml_X7_188 rfl rfl rfl dX7_writeAll_154 rfl rfl (Nat.le_of_ble_eq_true rfl) (Nat.le_of_ble_eq_true rfl) (Nat.le_of_ble_eq_true rfl) (fun I3 P3 hP h => ?_)
      refine g_aload_n cx dX7_writeAll_157 rfl ?_
      refine g_aload_n cx dX7_writeAll_158 rfl ?_
      refine g_aload_n cx dX7_writeAll_159 rfl ?_
      refine g_wVv cx [.ref y1, .ref 108] [] (e_X7_writeCaughtPads hP h) mt_X7_writeCaughtPads ml_X7_191 rfl rfl rfl dX7_writeAll_160 rfl rfl (Nat.le_of_ble_eq_true rfl) (Nat.le_of_ble_eq_true rfl) (Nat.le_of_ble_eq_true rfl) (fun I4 P4 hP h => ?_)
      refine g_aload_n cx dX7_writeAll_163 rfl ?_
      refine g_aload_n cx dX7_writeAll_164 rfl ?_
      refine g_aload_n cx dX7_writeAll_165 rfl ?_
      refine g_wVv cx [.ref y1, .ref 108] [] (e_X7_writeLeftPad hP h) mt_X7_writeLeftPad ml_X7_194 rfl rfl rfl dX7_writeAll_166 rfl rfl (Nat.le_of_ble_eq_true rfl) (Nat.le_of_ble_eq_true rfl) (Nat.le_of_ble_eq_true rfl) (fun I5 P5 hP h => ?_)
      refine g_aload_n cx dX7_writeAll_169 rfl ?_
      refine g_aload_n cx dX7_writeAll_170 rfl ?_
      refine g_wVv cx [.ref y1] [] (e_X7_writeHandlers hP h) mt_X7_writeHandlers ml_X7_197 rfl rfl rfl dX7_writeAll_171 rfl rfl (Nat.le_of_ble_eq_true rfl) (Nat.le_of_ble_eq_true rfl) (Nat.le_of_ble_eq_true rfl) (fun I6 P6 hP h => ?_)
      refine g_aload_n cx dX7_writeAll_174 rfl ?_
      refine g_aload_n cx dX7_writeAll_175 rfl ?_
      refine g_getI cx lk_X7_59 rfl (Nat.le_of_ble_eq_true rfl) rfl dX7_writeAll_176 (x := (I6 7 15)) rfl ?_
      obtain ⟨hs7, h⟩ := h
      refine g_pI cx lk_X7_200 hs7 (Nat.le_of_ble_eq_true rfl) rfl dX7_writeAll_179 fi_8_6 rfl rfl ?_
      refine g_aload_n cx dX7_writeAll_182 rfl ?_
      refine g_aload_n cx dX7_writeAll_183 rfl ?_
      refine g_getI cx lk_X7_53 rfl (Nat.le_of_ble_eq_true rfl) rfl dX7_writeAll_184 (x := ((zu I6 y3 6 (I6 7 15)) 7 13)) rfl ?_
      refine g_pI cx lk_X7_201 hs7 (Nat.le_of_ble_eq_true rfl) rfl dX7_writeAll_187 fi_8_9 rfl rfl ?_
      refine g_aload_n cx dX7_writeAll_190 rfl ?_
      refine Gx.N 191 rfl ?_
      refine g_aload_n cx dX7_writeAll_191 rfl ?_
      refine g_getI cx lk_X7_89 rfl (Nat.le_of_ble_eq_true rfl) rfl dX7_writeAll_192 (x := ((zu (zu I6 y3 6 (I6 7 15)) y3 9 ((zu I6 y3 6 (I6 7 15)) 7 13)) 108 5)) rfl ?_
      refine g_pI cx lk_X7_204 hs7 (Nat.le_of_ble_eq_true rfl) rfl dX7_writeAll_195 fi_8_10 rfl rfl ?_
      refine g_aload_n cx dX7_writeAll_198 rfl ?_
      refine g_iconst cx dX7_writeAll_199 ic_1 ?_
      refine g_pI cx lk_X7_207 hs7 (Nat.le_of_ble_eq_true rfl) rfl dX7_writeAll_200 fi_8_5 rfl rfl ?_
      exact g_wv cx hE dX7_writeAll_203 rfl hP h
    · have h := zifn c2 h
      refine g_aload_n cx dX7_writeAll_36 rfl ?_
      obtain ⟨hs8, h⟩ := h
      obtain ⟨v9, hv10, h⟩ := h
      refine g_getR cx lk_X7_173 hs8 (Nat.le_of_ble_eq_true rfl) rfl dX7_writeAll_37 hv10 ?_
      refine g_iload cx dX7_writeAll_40 rfl ?_
      refine g_aload_n cx dX7_writeAll_42 rfl ?_
      refine g_iload cx dX7_writeAll_43 rfl ?_
      refine g_wVi cx [.int y4] [.int y4, .ref v9] (e_X3_beginsAt hP h) mt_X3_beginsAt ml_X7_105 hs1 rfl rfl dX7_writeAll_45 rfl rfl (Nat.le_of_ble_eq_true rfl) (Nat.le_of_ble_eq_true rfl) (Nat.le_of_ble_eq_true rfl) (fun v11 I11 P11 hP h => ?_)
      refine g_if_eq cx (tgt := 73) dX7_writeAll_48 rfl (fun c12 => ?_) (fun c12 => ?_)
      · have h := zifp c12 h
        exact gj_X7_writeAll_73 cx hE ih hP h
      · have h := zifn c12 h
        refine g_aload_n cx dX7_writeAll_51 rfl ?_
        refine g_getR cx lk_X7_9 rfl (Nat.le_of_ble_eq_true rfl) rfl dX7_writeAll_52 (v := 8) (pst hP 5 rfl) ?_
        refine g_iload cx dX7_writeAll_55 rfl ?_
        obtain ⟨hc13, h⟩ := h
        refine g_iald cx dX7_writeAll_57 rfl hc13 (x := (I11 8 ((y4).toNatClampNeg))) rfl ?_
        refine g_aload_n cx dX7_writeAll_58 rfl ?_
        refine g_getR cx lk_X7_15 rfl (Nat.le_of_ble_eq_true rfl) rfl dX7_writeAll_59 (v := 9) (pst hP 6 rfl) ?_
        refine g_iload cx dX7_writeAll_62 rfl ?_
        obtain ⟨hc14, h⟩ := h
        refine g_iald cx dX7_writeAll_64 rfl hc14 (x := (I11 9 ((y4).toNatClampNeg))) rfl ?_
        refine g_iadd cx dX7_writeAll_65 ?_
        refine g_if_le cx (tgt := 73) dX7_writeAll_66 rfl (fun c15 => ?_) (fun c15 => ?_)
        · have h := zifp c15 h
          exact gj_X7_writeAll_73 cx hE ih hP h
        · have h := zifn c15 h
          refine g_iconst cx dX7_writeAll_69 ic_1 ?_
          refine g_goto cx (tgt := 74) dX7_writeAll_70 rfl ?_
          exact gj_X7_writeAll_74 cx hE ih hP h
def w_X7_writeAll (x1 : Nat) (I : zI) (P : zP) (K : zI → zP → Prop) : Prop := SHy[x1]? = some (3, 11) ∧ (∃ v2, P x1 6 = some v2 ∧ (SHy[v2]? = some (8, 11) ∧ (w_X7_writeProbes x1 2 0 (-1) (zu (zu I v2 8 0) 7 16 0) P (fun (I5 : zI) (P5 : zP) => (∃ n9, l_X7_writeAll_27 K n9 x1 v2 0 I5 P5)))))
theorem e_X7_writeAll {x1 : Nat} {I : zI} {P : zP} {K : zI → zP → Prop} (hP : PSt P) (h : w_X7_writeAll x1 I P K) : Ev yX7_writeAll cX7_writeAll 5 none 4 97 0 0 [.ref 7, .ref x1, .ref 108] SHy I P (zKv K) := by
  refine Ev.start [.ref 7, .ref x1, .ref 108, .float 0, .float 0] pn_X7 rfl (Nat.le_of_ble_eq_true rfl) rfl (fun κ cx hE => ?_)
  unfold w_X7_writeAll at h
  refine g_aload_n cx dX7_writeAll_0 rfl ?_
  obtain ⟨hs1, h⟩ := h
  obtain ⟨v2, hv3, h⟩ := h
  refine g_getR cx lk_X7_160 hs1 (Nat.le_of_ble_eq_true rfl) rfl dX7_writeAll_1 hv3 ?_
  refine g_astore_n cx dX7_writeAll_4 (Nat.le_of_ble_eq_true rfl) (Gx.L [.ref 7, .ref x1, .ref 108, .ref v2, .float 0] rfl ?_)
  refine g_aload_n cx dX7_writeAll_5 rfl ?_
  refine g_iconst cx dX7_writeAll_6 ic_0 ?_
  obtain ⟨hs4, h⟩ := h
  refine g_pI cx lk_X7_164 hs4 (Nat.le_of_ble_eq_true rfl) rfl dX7_writeAll_7 fi_8_8 rfl rfl ?_
  refine g_aload_n cx dX7_writeAll_10 rfl ?_
  refine g_iconst cx dX7_writeAll_11 ic_0 ?_
  refine g_pI cx lk_X7_62 rfl (Nat.le_of_ble_eq_true rfl) rfl dX7_writeAll_12 fi_7_16 rfl rfl ?_
  refine g_aload_n cx dX7_writeAll_15 rfl ?_
  refine g_aload_n cx dX7_writeAll_16 rfl ?_
  refine g_aload_n cx dX7_writeAll_17 rfl ?_
  refine g_iconst cx dX7_writeAll_18 ic_2 ?_
  refine g_iconst cx dX7_writeAll_19 ic_0 ?_
  refine g_iconst cx dX7_writeAll_20 ic_m1 ?_
  refine g_wVv cx [.ref x1, .ref 108, .int 2, .int 0, .int (-1)] [] (e_X7_writeProbes hP h) mt_X7_writeProbes ml_X7_169 rfl rfl rfl dX7_writeAll_21 rfl rfl (Nat.le_of_ble_eq_true rfl) (Nat.le_of_ble_eq_true rfl) (Nat.le_of_ble_eq_true rfl) (fun I5 P5 hP h => ?_)
  refine g_iconst cx dX7_writeAll_24 ic_0 ?_
  refine g_istore cx dX7_writeAll_25 (Nat.le_of_ble_eq_true rfl) (Gx.L [.ref 7, .ref x1, .ref 108, .ref v2, .int 0] rfl ?_)
  obtain ⟨n9, h⟩ := h
  exact gl_X7_writeAll_27 cx hE n9 _ _ _ _ _ hP h
def j_X7_weaveIn_44 (K : Int32 → zI → zP → Prop) (y1 : Nat) (I : zI) (P : zP) : Prop := if (I 7 15) ≤ 1000 then (w_X7_writeAll y1 I P (fun (I2 : zI) (P2 : zP) => (K (I2 7 15) I2 P2))) else (K (-3) I P)
theorem gj_X7_weaveIn_44 {κ : zX} (cx : Cx yX7_weaveIn cX7_weaveIn 5 (some .int) 5 121 κ) {K : Int32 → zI → zP → Prop} (hE : zEnd (zKi K) 0 0 κ) {y1 : Nat} {I : zI} {P : zP} (hP : PSt P) (h : j_X7_weaveIn_44 K y1 I P) : Gx κ 44 [.ref 7, .ref y1, .ref 108, .float 0, .float 0] [] SHy I P 0 0 := by
  unfold j_X7_weaveIn_44 at h
  refine g_aload_n cx dX7_weaveIn_44 rfl ?_
  refine g_getI cx lk_X7_59 rfl (Nat.le_of_ble_eq_true rfl) rfl dX7_weaveIn_45 (x := (I 7 15)) rfl ?_
  refine g_sipush cx dX7_weaveIn_48 sp_1000 ?_
  refine g_icmp_le cx (tgt := 57) dX7_weaveIn_51 rfl (fun c1 => ?_) (fun c1 => ?_)
  · have h := zifp c1 h
    refine g_aload_n cx dX7_weaveIn_57 rfl ?_
    refine g_aload_n cx dX7_weaveIn_58 rfl ?_
    refine g_aload_n cx dX7_weaveIn_59 rfl ?_
    refine g_wVv cx [.ref y1, .ref 108] [] (e_X7_writeAll hP h) mt_X7_writeAll ml_X7_80 rfl rfl rfl dX7_weaveIn_60 rfl rfl (Nat.le_of_ble_eq_true rfl) (Nat.le_of_ble_eq_true rfl) (Nat.le_of_ble_eq_true rfl) (fun I2 P2 hP h => ?_)
    refine g_aload_n cx dX7_weaveIn_63 rfl ?_
    refine g_getI cx lk_X7_59 rfl (Nat.le_of_ble_eq_true rfl) rfl dX7_weaveIn_64 (x := (I2 7 15)) rfl ?_
    exact g_wi cx hE dX7_weaveIn_67 rfl rfl hP h
  · have h := zifn c1 h
    refine g_bipush cx dX7_weaveIn_54 bp_m3 ?_
    exact g_wi cx hE dX7_weaveIn_56 rfl rfl hP h
def l_X7_weaveIn_15 (K : Int32 → zI → zP → Prop) : Nat → Nat → Int32 → Int32 → zI → zP → Prop
  | 0, _, _, _, _, _ => False
  | n + 1, y1, y3, y4, I, P => if 500 ≤ y4 then (j_X7_weaveIn_44 K y1 I P) else (if y3 = 0 then (j_X7_weaveIn_44 K y1 I P) else (w_X7_layAll y1 I P (fun (I3 : zI) (P3 : zP) => (w_X7_growJumps y1 I3 P3 (fun (v4 : Int32) (I4 : zI) (P4 : zP) => ((l_X7_weaveIn_15 K n) y1 v4 (y4 + 1) I4 P4))))))
theorem gl_X7_weaveIn_15 {κ : zX} (cx : Cx yX7_weaveIn cX7_weaveIn 5 (some .int) 5 121 κ) {K : Int32 → zI → zP → Prop} (hE : zEnd (zKi K) 0 0 κ) : ∀ (n : Nat) (y1 : Nat) (y3 : Int32) (y4 : Int32) (I : zI) (P : zP), PSt P → l_X7_weaveIn_15 K n y1 y3 y4 I P → Gx κ 15 [.ref 7, .ref y1, .ref 108, .int y3, .int y4] [] SHy I P 0 0 := by
  intro n
  induction n with
  | zero =>
    intro y1 y3 y4 I P hP h
    rw [l_X7_weaveIn_15] at h
    exact False.elim h
  | succ n ih =>
    intro y1 y3 y4 I P hP h
    rw [l_X7_weaveIn_15] at h
    refine g_iload cx dX7_weaveIn_15 rfl ?_
    refine g_sipush cx dX7_weaveIn_17 sp_500 ?_
    refine g_icmp_ge cx (tgt := 44) dX7_weaveIn_20 rfl (fun c1 => ?_) (fun c1 => ?_)
    · have h := zifp c1 h
      refine (Gx.unset 3 (Gx.unset 4 (Gx.L [.ref 7, .ref y1, .ref 108, .float 0, .float 0] rfl ?_)))
      exact gj_X7_weaveIn_44 cx hE hP h
    · have h := zifn c1 h
      refine g_iload_n cx dX7_weaveIn_23 rfl ?_
      refine g_if_eq cx (tgt := 44) dX7_weaveIn_24 rfl (fun c2 => ?_) (fun c2 => ?_)
      · have h := zifp c2 h
        refine (Gx.unset 3 (Gx.unset 4 (Gx.L [.ref 7, .ref y1, .ref 108, .float 0, .float 0] rfl ?_)))
        exact gj_X7_weaveIn_44 cx hE hP h
      · have h := zifn c2 h
        refine g_aload_n cx dX7_weaveIn_27 rfl ?_
        refine g_aload_n cx dX7_weaveIn_28 rfl ?_
        refine g_wVv cx [.ref y1] [] (e_X7_layAll hP h) mt_X7_layAll ml_X7_72 rfl rfl rfl dX7_weaveIn_29 rfl rfl (Nat.le_of_ble_eq_true rfl) (Nat.le_of_ble_eq_true rfl) (Nat.le_of_ble_eq_true rfl) (fun I3 P3 hP h => ?_)
        refine g_aload_n cx dX7_weaveIn_32 rfl ?_
        refine g_aload_n cx dX7_weaveIn_33 rfl ?_
        refine g_wVi cx [.ref y1] [] (e_X7_growJumps hP h) mt_X7_growJumps ml_X7_76 rfl rfl rfl dX7_weaveIn_34 rfl rfl (Nat.le_of_ble_eq_true rfl) (Nat.le_of_ble_eq_true rfl) (Nat.le_of_ble_eq_true rfl) (fun v4 I4 P4 hP h => ?_)
        refine g_istore_n cx dX7_weaveIn_37 (Nat.le_of_ble_eq_true rfl) (Gx.L [.ref 7, .ref y1, .ref 108, .int v4, .int y4] rfl ?_)
        refine g_iinc cx (v := (y4 + 1)) dX7_weaveIn_38 rfl rfl (Nat.le_of_ble_eq_true rfl) (Gx.L [.ref 7, .ref y1, .ref 108, .int v4, .int (y4 + 1)] rfl ?_)
        refine g_goto cx (tgt := 15) dX7_weaveIn_41 rfl ?_
        exact ih _ _ _ _ _ hP h
def w_X7_weaveIn (x1 : Nat) (I : zI) (P : zP) (K : Int32 → zI → zP → Prop) : Prop := w_X7_startAnew I P (fun (I1 : zI) (P1 : zP) => (w_X7_countProbes x1 I1 P1 (fun (I2 : zI) (P2 : zP) => (∃ n9, l_X7_weaveIn_15 K n9 x1 1 0 I2 P2))))
theorem e_X7_weaveIn {x1 : Nat} {I : zI} {P : zP} {K : Int32 → zI → zP → Prop} (hP : PSt P) (h : w_X7_weaveIn x1 I P K) : Ev yX7_weaveIn cX7_weaveIn 5 (some .int) 5 121 0 0 [.ref 7, .ref x1, .ref 108] SHy I P (zKi K) := by
  refine Ev.start [.ref 7, .ref x1, .ref 108, .float 0, .float 0] pn_X7 rfl (Nat.le_of_ble_eq_true rfl) rfl (fun κ cx hE => ?_)
  unfold w_X7_weaveIn at h
  refine g_aload_n cx dX7_weaveIn_0 rfl ?_
  refine g_wVv cx [] [] (e_X7_startAnew hP h) mt_X7_startAnew ml_X7_65 rfl rfl rfl dX7_weaveIn_1 rfl rfl (Nat.le_of_ble_eq_true rfl) (Nat.le_of_ble_eq_true rfl) (Nat.le_of_ble_eq_true rfl) (fun I1 P1 hP h => ?_)
  refine g_aload_n cx dX7_weaveIn_4 rfl ?_
  refine g_aload_n cx dX7_weaveIn_5 rfl ?_
  refine g_aload_n cx dX7_weaveIn_6 rfl ?_
  refine g_wVv cx [.ref x1, .ref 108] [] (e_X7_countProbes hP h) mt_X7_countProbes ml_X7_68 rfl rfl rfl dX7_weaveIn_7 rfl rfl (Nat.le_of_ble_eq_true rfl) (Nat.le_of_ble_eq_true rfl) (Nat.le_of_ble_eq_true rfl) (fun I2 P2 hP h => ?_)
  refine g_iconst cx dX7_weaveIn_10 ic_1 ?_
  refine g_istore_n cx dX7_weaveIn_11 (Nat.le_of_ble_eq_true rfl) (Gx.L [.ref 7, .ref x1, .ref 108, .int 1, .float 0] rfl ?_)
  refine g_iconst cx dX7_weaveIn_12 ic_0 ?_
  refine g_istore cx dX7_weaveIn_13 (Nat.le_of_ble_eq_true rfl) (Gx.L [.ref 7, .ref x1, .ref 108, .int 1, .int 0] rfl ?_)
  obtain ⟨n9, h⟩ := h
  exact gl_X7_weaveIn_15 cx hE n9 _ _ _ _ _ hP h
def w_X8_handlersIfThere (o : Nat) (I : zI) (P : zP) (K : Int32 → zI → zP → Prop) : Prop := SHy[o]? = some (8, 11) ∧ (if (I o 5) = 0 then (K 0 I P) else (K (I o 7) I P))
theorem e_X8_handlersIfThere {o : Nat} {I : zI} {P : zP} {K : Int32 → zI → zP → Prop} (hP : PSt P) (h : w_X8_handlersIfThere o I P K) : Ev yX8_handlersIfThere cX8_handlersIfThere 1 (some .int) 0 0 0 0 [.ref o] SHy I P (zKi K) := by
  refine Ev.start [.ref o] pn_X8 rfl (Nat.le_of_ble_eq_true rfl) rfl (fun κ cx hE => ?_)
  unfold w_X8_handlersIfThere at h
  refine g_aload_n cx dX8_handlersIfThere_0 rfl ?_
  obtain ⟨hs1, h⟩ := h
  refine g_getI cx lk_X8_28 hs1 (Nat.le_of_ble_eq_true rfl) rfl dX8_handlersIfThere_1 (x := (I o 5)) rfl ?_
  refine g_if_eq cx (tgt := 14) dX8_handlersIfThere_4 rfl (fun c2 => ?_) (fun c2 => ?_)
  · have h := zifp c2 h
    refine g_iconst cx dX8_handlersIfThere_14 ic_0 ?_
    exact g_wi cx hE dX8_handlersIfThere_15 rfl rfl hP h
  · have h := zifn c2 h
    refine g_aload_n cx dX8_handlersIfThere_7 rfl ?_
    refine g_getI cx lk_X8_36 hs1 (Nat.le_of_ble_eq_true rfl) rfl dX8_handlersIfThere_8 (x := (I o 7)) rfl ?_
    refine g_goto cx (tgt := 15) dX8_handlersIfThere_11 rfl ?_
    exact g_wi cx hE dX8_handlersIfThere_15 rfl rfl hP h
def w_X8_lengthIfThere (o : Nat) (I : zI) (P : zP) (K : Int32 → zI → zP → Prop) : Prop := SHy[o]? = some (8, 11) ∧ (if (I o 5) = 0 then (K 0 I P) else (K (I o 6) I P))
theorem e_X8_lengthIfThere {o : Nat} {I : zI} {P : zP} {K : Int32 → zI → zP → Prop} (hP : PSt P) (h : w_X8_lengthIfThere o I P K) : Ev yX8_lengthIfThere cX8_lengthIfThere 1 (some .int) 0 0 0 0 [.ref o] SHy I P (zKi K) := by
  refine Ev.start [.ref o] pn_X8 rfl (Nat.le_of_ble_eq_true rfl) rfl (fun κ cx hE => ?_)
  unfold w_X8_lengthIfThere at h
  refine g_aload_n cx dX8_lengthIfThere_0 rfl ?_
  obtain ⟨hs1, h⟩ := h
  refine g_getI cx lk_X8_28 hs1 (Nat.le_of_ble_eq_true rfl) rfl dX8_lengthIfThere_1 (x := (I o 5)) rfl ?_
  refine g_if_eq cx (tgt := 14) dX8_lengthIfThere_4 rfl (fun c2 => ?_) (fun c2 => ?_)
  · have h := zifp c2 h
    refine g_iconst cx dX8_lengthIfThere_14 ic_0 ?_
    exact g_wi cx hE dX8_lengthIfThere_15 rfl rfl hP h
  · have h := zifn c2 h
    refine g_aload_n cx dX8_lengthIfThere_7 rfl ?_
    refine g_getI cx lk_X8_32 hs1 (Nat.le_of_ble_eq_true rfl) rfl dX8_lengthIfThere_8 (x := (I o 6)) rfl ?_
    refine g_goto cx (tgt := 15) dX8_lengthIfThere_11 rfl ?_
    exact g_wi cx hE dX8_lengthIfThere_15 rfl rfl hP h
def l_X9_appendWord_3 (K : zI → zP → Prop) : Nat → Int32 → Int32 → zI → zP → Prop
  | 0, _, _, _, _ => False
  | n + 1, y1, y2, I, P => if y2 < 0 then (K I P) else (if (I 0 8) < 0 then ((l_X9_appendWord_3 K n) y1 (y2 + (-8)) I P) else (if 600 ≤ (I 0 8) then ((l_X9_appendWord_3 K n) y1 (y2 + (-8)) I P) else (vp_in (I 0 8) 600 ∧ ((l_X9_appendWord_3 K n) y1 (y2 + (-8)) (zu (zu I 1 (((I 0 8)).toNatClampNeg) ((((y1 : Int32).toUInt32 >>> ((y2 : Int32).toUInt32 &&& Int32.toUInt32 31)).toInt32) &&& 255)) 0 8 (((zu I 1 (((I 0 8)).toNatClampNeg) ((((y1 : Int32).toUInt32 >>> ((y2 : Int32).toUInt32 &&& Int32.toUInt32 31)).toInt32) &&& 255)) 0 8) + 1)) P))))
theorem gl_X9_appendWord_3 {κ : zX} (cx : Cx yX9_appendWord cX9_appendWord 3 none 0 0 κ) {K : zI → zP → Prop} (hE : zEnd (zKv K) 0 0 κ) : ∀ (n : Nat) (y1 : Int32) (y2 : Int32) (I : zI) (P : zP), PSt P → l_X9_appendWord_3 K n y1 y2 I P → Gx κ 3 [.ref 0, .int y1, .int y2] [] SHy I P 0 0 := by
  intro n
  induction n with
  | zero =>
    intro y1 y2 I P hP h
    rw [l_X9_appendWord_3] at h
    exact False.elim h
  | succ n ih =>
    intro y1 y2 I P hP h
    rw [l_X9_appendWord_3] at h
    refine g_iload_n cx dX9_appendWord_3 rfl ?_
    refine g_if_lt cx (tgt := 56) dX9_appendWord_4 rfl (fun c1 => ?_) (fun c1 => ?_)
    · have h := zifp c1 h
      exact g_wv cx hE dX9_appendWord_56 rfl hP h
    · have h := zifn c1 h
      refine g_aload_n cx dX9_appendWord_7 rfl ?_
      refine g_getI cx lk_X9_34 rfl (Nat.le_of_ble_eq_true rfl) rfl dX9_appendWord_8 (x := (I 0 8)) rfl ?_
      refine g_if_lt cx (tgt := 50) dX9_appendWord_11 rfl (fun c2 => ?_) (fun c2 => ?_)
      · have h := zifp c2 h
        refine g_iinc cx (v := (y2 + (-8))) dX9_appendWord_50 rfl rfl (Nat.le_of_ble_eq_true rfl) (Gx.L [.ref 0, .int y1, .int (y2 + (-8))] rfl ?_)
        refine g_goto cx (tgt := 3) dX9_appendWord_53 rfl ?_
        exact ih _ _ _ _ hP h
      · have h := zifn c2 h
        refine g_aload_n cx dX9_appendWord_14 rfl ?_
        refine g_getI cx lk_X9_34 rfl (Nat.le_of_ble_eq_true rfl) rfl dX9_appendWord_15 (x := (I 0 8)) rfl ?_
        refine g_sipush cx dX9_appendWord_18 sp_600 ?_
        refine g_icmp_ge cx (tgt := 50) dX9_appendWord_21 rfl (fun c3 => ?_) (fun c3 => ?_)
        · have h := zifp c3 h
          refine g_iinc cx (v := (y2 + (-8))) dX9_appendWord_50 rfl rfl (Nat.le_of_ble_eq_true rfl) (Gx.L [.ref 0, .int y1, .int (y2 + (-8))] rfl ?_)
          refine g_goto cx (tgt := 3) dX9_appendWord_53 rfl ?_
          exact ih _ _ _ _ hP h
        · have h := zifn c3 h
          refine g_aload_n cx dX9_appendWord_24 rfl ?_
          refine g_getR cx lk_X9_9 rfl (Nat.le_of_ble_eq_true rfl) rfl dX9_appendWord_25 (v := 1) (pst hP 0 rfl) ?_
          refine g_aload_n cx dX9_appendWord_28 rfl ?_
          refine g_getI cx lk_X9_34 rfl (Nat.le_of_ble_eq_true rfl) rfl dX9_appendWord_29 (x := (I 0 8)) rfl ?_
          refine g_iload_n cx dX9_appendWord_32 rfl ?_
          refine g_iload_n cx dX9_appendWord_33 rfl ?_
          refine g_iushr cx dX9_appendWord_34 ?_
          refine g_sipush cx dX9_appendWord_35 sp_255 ?_
          refine g_iand cx dX9_appendWord_38 ?_
          obtain ⟨hc4, h⟩ := h
          refine g_iast cx dX9_appendWord_39 rfl hc4 ?_
          refine g_aload_n cx dX9_appendWord_40 rfl ?_
          refine g_dup cx dX9_appendWord_41 rfl ?_
          refine g_getI cx lk_X9_34 rfl (Nat.le_of_ble_eq_true rfl) rfl dX9_appendWord_42 (x := ((zu I 1 (((I 0 8)).toNatClampNeg) ((((y1 : Int32).toUInt32 >>> ((y2 : Int32).toUInt32 &&& Int32.toUInt32 31)).toInt32) &&& 255)) 0 8)) rfl ?_
          refine g_iconst cx dX9_appendWord_45 ic_1 ?_
          refine g_iadd cx dX9_appendWord_46 ?_
          refine g_pI cx lk_X9_34 rfl (Nat.le_of_ble_eq_true rfl) rfl dX9_appendWord_47 fi_9_8 rfl rfl ?_
          refine g_iinc cx (v := (y2 + (-8))) dX9_appendWord_50 rfl rfl (Nat.le_of_ble_eq_true rfl) (Gx.L [.ref 0, .int y1, .int (y2 + (-8))] rfl ?_)
          refine g_goto cx (tgt := 3) dX9_appendWord_53 rfl ?_
          exact ih _ _ _ _ hP h
def w_X9_appendWord (x1 : Int32) (I : zI) (P : zP) (K : zI → zP → Prop) : Prop := ∃ n9, l_X9_appendWord_3 K n9 x1 24 I P
theorem e_X9_appendWord {x1 : Int32} {I : zI} {P : zP} {K : zI → zP → Prop} (hP : PSt P) (h : w_X9_appendWord x1 I P K) : Ev yX9_appendWord cX9_appendWord 3 none 0 0 0 0 [.ref 0, .int x1] SHy I P (zKv K) := by
  refine Ev.start [.ref 0, .int x1, .float 0] pn_X9 rfl (Nat.le_of_ble_eq_true rfl) rfl (fun κ cx hE => ?_)
  unfold w_X9_appendWord at h
  refine g_bipush cx dX9_appendWord_0 bp_24 ?_
  refine g_istore_n cx dX9_appendWord_2 (Nat.le_of_ble_eq_true rfl) (Gx.L [.ref 0, .int x1, .int 24] rfl ?_)
  obtain ⟨n9, h⟩ := h
  exact gl_X9_appendWord_3 cx hE n9 _ _ _ _ hP h
def l_X9_clear_18 (K : Int32 → zI → zP → Prop) : Nat → Int32 → Int32 → zI → zP → Prop
  | 0, _, _, _, _ => False
  | n + 1, y1, y2, I, P => if 6 ≤ y2 then (K y1 I P) else (vp_in y2 6 ∧ (∃ v3, P 19 (y2).toNatClampNeg = some v3 ∧ (SHy[v3]? = some (3, 11) ∧ (∃ v6, P v3 6 = some v6 ∧ (SHy[v6]? = some (8, 11) ∧ ((l_X9_clear_18 K n) y1 (y2 + 1) (zu I v6 5 0) P))))))
theorem gl_X9_clear_18 {κ : zX} (cx : Cx yX9_clear cX9_clear 3 (some .int) 0 0 κ) {K : Int32 → zI → zP → Prop} (hE : zEnd (zKi K) 0 0 κ) : ∀ (n : Nat) (y1 : Int32) (y2 : Int32) (I : zI) (P : zP), PSt P → l_X9_clear_18 K n y1 y2 I P → Gx κ 18 [.ref 0, .int y1, .int y2] [] SHy I P 0 0 := by
  intro n
  induction n with
  | zero =>
    intro y1 y2 I P hP h
    rw [l_X9_clear_18] at h
    exact False.elim h
  | succ n ih =>
    intro y1 y2 I P hP h
    rw [l_X9_clear_18] at h
    refine g_iload_n cx dX9_clear_18 rfl ?_
    refine g_bipush cx dX9_clear_19 bp_6 ?_
    refine g_icmp_ge cx (tgt := 43) dX9_clear_21 rfl (fun c1 => ?_) (fun c1 => ?_)
    · have h := zifp c1 h
      refine g_iload_n cx dX9_clear_43 rfl ?_
      exact g_wi cx hE dX9_clear_44 rfl rfl hP h
    · have h := zifn c1 h
      refine g_aload_n cx dX9_clear_24 rfl ?_
      refine g_getR cx lk_X9_58 rfl (Nat.le_of_ble_eq_true rfl) rfl dX9_clear_25 (v := 19) (pst hP 109 rfl) ?_
      refine g_iload_n cx dX9_clear_28 rfl ?_
      obtain ⟨hc2, h⟩ := h
      obtain ⟨v3, hv4, h⟩ := h
      refine g_aald cx rfl (Nat.le_of_ble_eq_true rfl) (Nat.le_of_ble_eq_true rfl) hc2 hv4 dX9_clear_29 ?_
      obtain ⟨hs5, h⟩ := h
      obtain ⟨v6, hv7, h⟩ := h
      refine g_getR cx lk_X9_94 hs5 (Nat.le_of_ble_eq_true rfl) rfl dX9_clear_30 hv7 ?_
      refine g_iconst cx dX9_clear_33 ic_0 ?_
      obtain ⟨hs8, h⟩ := h
      refine g_pI cx lk_X9_136 hs8 (Nat.le_of_ble_eq_true rfl) rfl dX9_clear_34 fi_8_5 rfl rfl ?_
      refine g_iinc cx (v := (y2 + 1)) dX9_clear_37 rfl rfl (Nat.le_of_ble_eq_true rfl) (Gx.L [.ref 0, .int y1, .int (y2 + 1)] rfl ?_)
      refine g_goto cx (tgt := 18) dX9_clear_40 rfl ?_
      exact ih _ _ _ _ hP h
def w_X9_clear (I : zI) (P : zP) (K : Int32 → zI → zP → Prop) : Prop := ∃ n9, l_X9_clear_18 K n9 (I 108 5) 0 (zu I 108 5 0) P
theorem e_X9_clear {I : zI} {P : zP} {K : Int32 → zI → zP → Prop} (hP : PSt P) (h : w_X9_clear I P K) : Ev yX9_clear cX9_clear 3 (some .int) 0 0 0 0 [.ref 0] SHy I P (zKi K) := by
  refine Ev.start [.ref 0, .float 0, .float 0] pn_X9 rfl (Nat.le_of_ble_eq_true rfl) rfl (fun κ cx hE => ?_)
  unfold w_X9_clear at h
  refine g_aload_n cx dX9_clear_0 rfl ?_
  refine g_getR cx lk_X9_66 rfl (Nat.le_of_ble_eq_true rfl) rfl dX9_clear_1 (v := 108) (pst hP 111 rfl) ?_
  refine g_getI cx lk_X9_147 rfl (Nat.le_of_ble_eq_true rfl) rfl dX9_clear_4 (x := (I 108 5)) rfl ?_
  refine g_istore_n cx dX9_clear_7 (Nat.le_of_ble_eq_true rfl) (Gx.L [.ref 0, .int (I 108 5), .float 0] rfl ?_)
  refine g_aload_n cx dX9_clear_8 rfl ?_
  refine g_getR cx lk_X9_66 rfl (Nat.le_of_ble_eq_true rfl) rfl dX9_clear_9 (v := 108) (pst hP 111 rfl) ?_
  refine g_iconst cx dX9_clear_12 ic_0 ?_
  refine g_pI cx lk_X9_147 rfl (Nat.le_of_ble_eq_true rfl) rfl dX9_clear_13 fi_4_5 rfl rfl ?_
  refine g_iconst cx dX9_clear_16 ic_0 ?_
  refine g_istore_n cx dX9_clear_17 (Nat.le_of_ble_eq_true rfl) (Gx.L [.ref 0, .int (I 108 5), .int 0] rfl ?_)
  obtain ⟨n9, h⟩ := h
  exact gl_X9_clear_18 cx hE n9 _ _ _ _ hP h
def w_X9_count (x1 : Int32) (I : zI) (P : zP) (K : Int32 → zI → zP → Prop) : Prop := if x1 = 0 then (K (I 0 9) I P) else (if x1 = 1 then (K (I 108 5) I P) else (if x1 = 2 then (K (I 0 8) I P) else (if x1 = 3 then (K (I 0 11) I P) else (K (-2) I P))))
theorem e_X9_count {x1 : Int32} {I : zI} {P : zP} {K : Int32 → zI → zP → Prop} (hP : PSt P) (h : w_X9_count x1 I P K) : Ev yX9_count cX9_count 2 (some .int) 0 0 0 0 [.ref 0, .int x1] SHy I P (zKi K) := by
  refine Ev.start [.ref 0, .int x1] pn_X9 rfl (Nat.le_of_ble_eq_true rfl) rfl (fun κ cx hE => ?_)
  unfold w_X9_count at h
  refine g_iload_n cx dX9_count_0 rfl ?_
  by_cases c1 : x1 = 0
  · have h := zifp c1 h
    refine g_tabIn cx (tgt := 32) (off := 31) dX9_count_1 (by rw [c1]; decide) (by rw [c1]; decide) (by rw [c1]; rfl) rfl ?_
    refine g_aload_n cx dX9_count_32 rfl ?_
    refine g_getI cx lk_X9_38 rfl (Nat.le_of_ble_eq_true rfl) rfl dX9_count_33 (x := (I 0 9)) rfl ?_
    exact g_wi cx hE dX9_count_36 rfl rfl hP h
  · have h := zifn c1 h
    by_cases c2 : x1 = 1
    · have h := zifp c2 h
      refine g_tabIn cx (tgt := 37) (off := 36) dX9_count_1 (by rw [c2]; decide) (by rw [c2]; decide) (by rw [c2]; rfl) rfl ?_
      refine g_aload_n cx dX9_count_37 rfl ?_
      refine g_getR cx lk_X9_66 rfl (Nat.le_of_ble_eq_true rfl) rfl dX9_count_38 (v := 108) (pst hP 111 rfl) ?_
      refine g_getI cx lk_X9_147 rfl (Nat.le_of_ble_eq_true rfl) rfl dX9_count_41 (x := (I 108 5)) rfl ?_
      exact g_wi cx hE dX9_count_44 rfl rfl hP h
    · have h := zifn c2 h
      by_cases c3 : x1 = 2
      · have h := zifp c3 h
        refine g_tabIn cx (tgt := 45) (off := 44) dX9_count_1 (by rw [c3]; decide) (by rw [c3]; decide) (by rw [c3]; rfl) rfl ?_
        refine g_aload_n cx dX9_count_45 rfl ?_
        refine g_getI cx lk_X9_34 rfl (Nat.le_of_ble_eq_true rfl) rfl dX9_count_46 (x := (I 0 8)) rfl ?_
        exact g_wi cx hE dX9_count_49 rfl rfl hP h
      · have h := zifn c3 h
        by_cases c4 : x1 = 3
        · have h := zifp c4 h
          refine g_tabIn cx (tgt := 50) (off := 49) dX9_count_1 (by rw [c4]; decide) (by rw [c4]; decide) (by rw [c4]; rfl) rfl ?_
          refine g_aload_n cx dX9_count_50 rfl ?_
          refine g_getI cx lk_X9_44 rfl (Nat.le_of_ble_eq_true rfl) rfl dX9_count_51 (x := (I 0 11)) rfl ?_
          exact g_wi cx hE dX9_count_54 rfl rfl hP h
        · have h := zifn c4 h
          refine g_tabOut cx (tgt := 55) dX9_count_1 (by have q0 : (x1 : Int32).toInt ≠ 0 := i32ne c1; have q1 : (x1 : Int32).toInt ≠ 1 := i32ne c2; have q2 : (x1 : Int32).toInt ≠ 2 := i32ne c3; have q3 : (x1 : Int32).toInt ≠ 3 := i32ne c4; omega) rfl ?_
          refine g_bipush cx dX9_count_55 bp_m2 ?_
          exact g_wi cx hE dX9_count_57 rfl rfl hP h
def w_X9_cut (x1 : Int32) (I : zI) (P : zP) (K : Int32 → zI → zP → Prop) : Prop := if x1 < 0 then (K (-2) I P) else (if x1 ≤ (I 0 8) then (K ((I 0 8) - x1) (zu I 0 8 ((I 0 8) - x1)) P) else (K (-2) I P))
theorem e_X9_cut {x1 : Int32} {I : zI} {P : zP} {K : Int32 → zI → zP → Prop} (hP : PSt P) (h : w_X9_cut x1 I P K) : Ev yX9_cut cX9_cut 2 (some .int) 0 0 0 0 [.ref 0, .int x1] SHy I P (zKi K) := by
  refine Ev.start [.ref 0, .int x1] pn_X9 rfl (Nat.le_of_ble_eq_true rfl) rfl (fun κ cx hE => ?_)
  unfold w_X9_cut at h
  refine g_iload_n cx dX9_cut_0 rfl ?_
  refine g_if_lt cx (tgt := 12) dX9_cut_1 rfl (fun c1 => ?_) (fun c1 => ?_)
  · have h := zifp c1 h
    refine g_bipush cx dX9_cut_12 bp_m2 ?_
    exact g_wi cx hE dX9_cut_14 rfl rfl hP h
  · have h := zifn c1 h
    refine g_iload_n cx dX9_cut_4 rfl ?_
    refine g_aload_n cx dX9_cut_5 rfl ?_
    refine g_getI cx lk_X9_34 rfl (Nat.le_of_ble_eq_true rfl) rfl dX9_cut_6 (x := (I 0 8)) rfl ?_
    refine g_icmp_le cx (tgt := 15) dX9_cut_9 rfl (fun c2 => ?_) (fun c2 => ?_)
    · have h := zifp c2 h
      refine g_aload_n cx dX9_cut_15 rfl ?_
      refine g_dup cx dX9_cut_16 rfl ?_
      refine g_getI cx lk_X9_34 rfl (Nat.le_of_ble_eq_true rfl) rfl dX9_cut_17 (x := (I 0 8)) rfl ?_
      refine g_iload_n cx dX9_cut_20 rfl ?_
      refine g_isub cx dX9_cut_21 ?_
      refine g_pI cx lk_X9_34 rfl (Nat.le_of_ble_eq_true rfl) rfl dX9_cut_22 fi_9_8 rfl rfl ?_
      refine g_aload_n cx dX9_cut_25 rfl ?_
      refine g_getI cx lk_X9_34 rfl (Nat.le_of_ble_eq_true rfl) rfl dX9_cut_26 (x := ((I 0 8) - x1)) rfl ?_
      exact g_wi cx hE dX9_cut_29 rfl rfl hP h
    · have h := zifn c2 h
      refine g_bipush cx dX9_cut_12 bp_m2 ?_
      exact g_wi cx hE dX9_cut_14 rfl rfl hP h
def l_X9_differ_29 (K : Int32 → zI → zP → Prop) : Nat → Nat → Nat → Int32 → Int32 → zI → zP → Prop
  | 0, _, _, _, _, _, _ => False
  | n + 1, y1, y2, y3, y4, I, P => if y3 ≤ y4 then (SHy[y1]? = some (6, 13) ∧ (w_X6_recordsKept y1 I P (fun (v3 : Int32) (I3 : zI) (P3 : zP) => (SHy[y2]? = some (6, 13) ∧ (w_X6_recordsKept y2 I3 P3 (fun (v5 : Int32) (I5 : zI) (P5 : zP) => (if v3 = v5 then (K (-1) I5 P5) else (K y3 I5 P5)))))))) else (SHy[y1]? = some (6, 13) ∧ (w_X6_recordPart y1 y4 0 I P (fun (v8 : Int32) (I8 : zI) (P8 : zP) => (SHy[y2]? = some (6, 13) ∧ (w_X6_recordPart y2 y4 0 I8 P8 (fun (v10 : Int32) (I10 : zI) (P10 : zP) => (if v8 = v10 then (w_X6_recordPart y1 y4 1 I10 P10 (fun (v12 : Int32) (I12 : zI) (P12 : zP) => (w_X6_recordPart y2 y4 1 I12 P12 (fun (v13 : Int32) (I13 : zI) (P13 : zP) => (if v12 = v13 then ((l_X9_differ_29 K n) y1 y2 y3 (y4 + 1) I13 P13) else (K y4 I13 P13)))))) else (K y4 I10 P10))))))))
theorem gl_X9_differ_29 {κ : zX} (cx : Cx yX9_differ cX9_differ 5 (some .int) 3 63 κ) {K : Int32 → zI → zP → Prop} (hE : zEnd (zKi K) 0 0 κ) : ∀ (n : Nat) (y1 : Nat) (y2 : Nat) (y3 : Int32) (y4 : Int32) (I : zI) (P : zP), PSt P → l_X9_differ_29 K n y1 y2 y3 y4 I P → Gx κ 29 [.float 0, .ref y1, .ref y2, .int y3, .int y4] [] SHy I P 0 0 := by
  intro n
  induction n with
  | zero =>
    intro y1 y2 y3 y4 I P hP h
    rw [l_X9_differ_29] at h
    exact False.elim h
  | succ n ih =>
    intro y1 y2 y3 y4 I P hP h
    rw [l_X9_differ_29] at h
    refine g_iload cx dX9_differ_29 rfl ?_
    refine g_iload_n cx dX9_differ_31 rfl ?_
    refine g_icmp_ge cx (tgt := 78) dX9_differ_32 rfl (fun c1 => ?_) (fun c1 => ?_)
    · have h := zifp c1 h
      refine g_aload_n cx dX9_differ_78 rfl ?_
      obtain ⟨hs2, h⟩ := h
      refine g_wVi cx [] [] (e_X6_recordsKept hP h) mt_X6_recordsKept ml_X9_181 hs2 rfl rfl dX9_differ_79 rfl rfl (Nat.le_of_ble_eq_true rfl) (Nat.le_of_ble_eq_true rfl) (Nat.le_of_ble_eq_true rfl) (fun v3 I3 P3 hP h => ?_)
      refine g_aload_n cx dX9_differ_82 rfl ?_
      obtain ⟨hs4, h⟩ := h
      refine g_wVi cx [] [.int v3] (e_X6_recordsKept hP h) mt_X6_recordsKept ml_X9_181 hs4 rfl rfl dX9_differ_83 rfl rfl (Nat.le_of_ble_eq_true rfl) (Nat.le_of_ble_eq_true rfl) (Nat.le_of_ble_eq_true rfl) (fun v5 I5 P5 hP h => ?_)
      refine g_icmp_ne cx (tgt := 93) dX9_differ_86 rfl (fun c6 => ?_) (fun c6 => ?_)
      · have h := zifn c6 h
        refine g_iload_n cx dX9_differ_93 rfl ?_
        exact g_wi cx hE dX9_differ_94 rfl rfl hP h
      · have h := zifp c6 h
        refine g_iconst cx dX9_differ_89 ic_m1 ?_
        refine g_goto cx (tgt := 94) dX9_differ_90 rfl ?_
        exact g_wi cx hE dX9_differ_94 rfl rfl hP h
    · have h := zifn c1 h
      refine g_aload_n cx dX9_differ_35 rfl ?_
      refine g_iload cx dX9_differ_36 rfl ?_
      refine g_iconst cx dX9_differ_38 ic_0 ?_
      obtain ⟨hs7, h⟩ := h
      refine g_wVi cx [.int y4, .int 0] [] (e_X6_recordPart hP h) mt_X6_recordPart ml_X9_175 hs7 rfl rfl dX9_differ_39 rfl rfl (Nat.le_of_ble_eq_true rfl) (Nat.le_of_ble_eq_true rfl) (Nat.le_of_ble_eq_true rfl) (fun v8 I8 P8 hP h => ?_)
      refine g_aload_n cx dX9_differ_42 rfl ?_
      refine g_iload cx dX9_differ_43 rfl ?_
      refine g_iconst cx dX9_differ_45 ic_0 ?_
      obtain ⟨hs9, h⟩ := h
      refine g_wVi cx [.int y4, .int 0] [.int v8] (e_X6_recordPart hP h) mt_X6_recordPart ml_X9_175 hs9 rfl rfl dX9_differ_46 rfl rfl (Nat.le_of_ble_eq_true rfl) (Nat.le_of_ble_eq_true rfl) (Nat.le_of_ble_eq_true rfl) (fun v10 I10 P10 hP h => ?_)
      refine g_icmp_ne cx (tgt := 69) dX9_differ_49 rfl (fun c11 => ?_) (fun c11 => ?_)
      · have h := zifn c11 h
        refine g_iload cx dX9_differ_69 rfl ?_
        exact g_wi cx hE dX9_differ_71 rfl rfl hP h
      · have h := zifp c11 h
        refine g_aload_n cx dX9_differ_52 rfl ?_
        refine g_iload cx dX9_differ_53 rfl ?_
        refine g_iconst cx dX9_differ_55 ic_1 ?_
        refine g_wVi cx [.int y4, .int 1] [] (e_X6_recordPart hP h) mt_X6_recordPart ml_X9_175 hs7 rfl rfl dX9_differ_56 rfl rfl (Nat.le_of_ble_eq_true rfl) (Nat.le_of_ble_eq_true rfl) (Nat.le_of_ble_eq_true rfl) (fun v12 I12 P12 hP h => ?_)
        refine g_aload_n cx dX9_differ_59 rfl ?_
        refine g_iload cx dX9_differ_60 rfl ?_
        refine g_iconst cx dX9_differ_62 ic_1 ?_
        refine g_wVi cx [.int y4, .int 1] [.int v12] (e_X6_recordPart hP h) mt_X6_recordPart ml_X9_175 hs9 rfl rfl dX9_differ_63 rfl rfl (Nat.le_of_ble_eq_true rfl) (Nat.le_of_ble_eq_true rfl) (Nat.le_of_ble_eq_true rfl) (fun v13 I13 P13 hP h => ?_)
        refine g_icmp_eq cx (tgt := 72) dX9_differ_66 rfl (fun c14 => ?_) (fun c14 => ?_)
        · have h := zifp c14 h
          refine g_iinc cx (v := (y4 + 1)) dX9_differ_72 rfl rfl (Nat.le_of_ble_eq_true rfl) (Gx.L [.float 0, .ref y1, .ref y2, .int y3, .int (y4 + 1)] rfl ?_)
          refine g_goto cx (tgt := 29) dX9_differ_75 rfl ?_
          exact ih _ _ _ _ _ _ hP h
        · have h := zifn c14 h
          refine g_iload cx dX9_differ_69 rfl ?_
          exact g_wi cx hE dX9_differ_71 rfl rfl hP h
def w_X9_differ (I : zI) (P : zP) (K : Int32 → zI → zP → Prop) : Prop := vp_in 1 3 ∧ (∃ v2, P 92 (1 : Int32).toNatClampNeg = some v2 ∧ (vp_in 2 3 ∧ (∃ v5, P 92 (2 : Int32).toNatClampNeg = some v5 ∧ (SHy[v2]? = some (6, 13) ∧ (w_X6_recordsKept v2 I P (fun (v8 : Int32) (I8 : zI) (P8 : zP) => (SHy[v5]? = some (6, 13) ∧ (w_X6_recordsKept v5 I8 P8 (fun (v10 : Int32) (I10 : zI) (P10 : zP) => (∃ n9, l_X9_differ_29 K n9 v2 v5 (if v10 < v8 then v10 else v8) 0 I10 P10))))))))))
theorem e_X9_differ {I : zI} {P : zP} {K : Int32 → zI → zP → Prop} (hP : PSt P) (h : w_X9_differ I P K) : Ev yX9_differ cX9_differ 5 (some .int) 3 63 0 0 [.ref 0] SHy I P (zKi K) := by
  refine Ev.start [.ref 0, .float 0, .float 0, .float 0, .float 0] pn_X9 rfl (Nat.le_of_ble_eq_true rfl) rfl (fun κ cx hE => ?_)
  unfold w_X9_differ at h
  refine g_aload_n cx dX9_differ_0 rfl ?_
  refine g_getR cx lk_X9_62 rfl (Nat.le_of_ble_eq_true rfl) rfl dX9_differ_1 (v := 92) (pst hP 110 rfl) ?_
  refine g_iconst cx dX9_differ_4 ic_1 ?_
  obtain ⟨hc1, h⟩ := h
  obtain ⟨v2, hv3, h⟩ := h
  refine g_aald cx rfl (Nat.le_of_ble_eq_true rfl) (Nat.le_of_ble_eq_true rfl) hc1 hv3 dX9_differ_5 ?_
  refine g_astore_n cx dX9_differ_6 (Nat.le_of_ble_eq_true rfl) (Gx.L [.ref 0, .ref v2, .float 0, .float 0, .float 0] rfl ?_)
  refine g_aload_n cx dX9_differ_7 rfl ?_
  refine g_getR cx lk_X9_62 rfl (Nat.le_of_ble_eq_true rfl) rfl dX9_differ_8 (v := 92) (pst hP 110 rfl) ?_
  refine g_iconst cx dX9_differ_11 ic_2 ?_
  obtain ⟨hc4, h⟩ := h
  obtain ⟨v5, hv6, h⟩ := h
  refine g_aald cx rfl (Nat.le_of_ble_eq_true rfl) (Nat.le_of_ble_eq_true rfl) hc4 hv6 dX9_differ_12 ?_
  refine g_astore_n cx dX9_differ_13 (Nat.le_of_ble_eq_true rfl) (Gx.L [.ref 0, .ref v2, .ref v5, .float 0, .float 0] rfl ?_)
  refine g_aload_n cx dX9_differ_14 rfl ?_
  obtain ⟨hs7, h⟩ := h
  refine g_wVi cx [] [] (e_X6_recordsKept hP h) mt_X6_recordsKept ml_X9_181 hs7 rfl rfl dX9_differ_15 rfl rfl (Nat.le_of_ble_eq_true rfl) (Nat.le_of_ble_eq_true rfl) (Nat.le_of_ble_eq_true rfl) (fun v8 I8 P8 hP h => ?_)
  refine g_aload_n cx dX9_differ_18 rfl ?_
  obtain ⟨hs9, h⟩ := h
  refine g_wVi cx [] [.int v8] (e_X6_recordsKept hP h) mt_X6_recordsKept ml_X9_181 hs9 rfl rfl dX9_differ_19 rfl rfl (Nat.le_of_ble_eq_true rfl) (Nat.le_of_ble_eq_true rfl) (Nat.le_of_ble_eq_true rfl) (fun v10 I10 P10 hP h => ?_)
  refine g_mmin cx ml_X9_184 dX9_differ_22 rfl (Nat.le_of_ble_eq_true rfl) (Nat.le_of_ble_eq_true rfl) (Nat.le_of_ble_eq_true rfl) rfl rfl ?_
  refine g_istore_n cx dX9_differ_25 (Nat.le_of_ble_eq_true rfl) (Gx.L [.ref 0, .ref v2, .ref v5, .int (if v10 < v8 then v10 else v8), .float 0] rfl ?_)
  refine g_iconst cx dX9_differ_26 ic_0 ?_
  refine g_istore cx dX9_differ_27 (Nat.le_of_ble_eq_true rfl) (Gx.L [.ref 0, .ref v2, .ref v5, .int (if v10 < v8 then v10 else v8), .int 0] rfl ?_)
  refine (Gx.unset 0 (Gx.L [.float 0, .ref v2, .ref v5, .int (if v10 < v8 then v10 else v8), .int 0] rfl ?_))
  obtain ⟨n9, h⟩ := h
  exact gl_X9_differ_29 cx hE n9 _ _ _ _ _ _ hP h
def w_X9_feed (x1 : Int32) (x2 : Int32) (x3 : Int32) (x4 : Int32) (x5 : Int32) (I : zI) (P : zP) (K : Int32 → zI → zP → Prop) : Prop := if (I 0 8) ≤ 580 then (w_X9_appendWord x1 I P (fun (I2 : zI) (P2 : zP) => (w_X9_appendWord x2 I2 P2 (fun (I3 : zI) (P3 : zP) => (w_X9_appendWord x3 I3 P3 (fun (I4 : zI) (P4 : zP) => (w_X9_appendWord x4 I4 P4 (fun (I5 : zI) (P5 : zP) => (w_X9_appendWord x5 I5 P5 (fun (I6 : zI) (P6 : zP) => (K (I6 0 8) I6 P6))))))))))) else (K (-3) I P)
theorem e_X9_feed {x1 : Int32} {x2 : Int32} {x3 : Int32} {x4 : Int32} {x5 : Int32} {I : zI} {P : zP} {K : Int32 → zI → zP → Prop} (hP : PSt P) (h : w_X9_feed x1 x2 x3 x4 x5 I P K) : Ev yX9_feed cX9_feed 6 (some .int) 1 22 0 0 [.ref 0, .int x1, .int x2, .int x3, .int x4, .int x5] SHy I P (zKi K) := by
  refine Ev.start [.ref 0, .int x1, .int x2, .int x3, .int x4, .int x5] pn_X9 rfl (Nat.le_of_ble_eq_true rfl) rfl (fun κ cx hE => ?_)
  unfold w_X9_feed at h
  refine g_aload_n cx dX9_feed_0 rfl ?_
  refine g_getI cx lk_X9_34 rfl (Nat.le_of_ble_eq_true rfl) rfl dX9_feed_1 (x := (I 0 8)) rfl ?_
  refine g_sipush cx dX9_feed_4 sp_580 ?_
  refine g_icmp_le cx (tgt := 13) dX9_feed_7 rfl (fun c1 => ?_) (fun c1 => ?_)
  · have h := zifp c1 h
    refine g_aload_n cx dX9_feed_13 rfl ?_
    refine g_iload_n cx dX9_feed_14 rfl ?_
    refine g_wVv cx [.int x1] [] (e_X9_appendWord hP h) mt_X9_appendWord ml_X9_79 rfl rfl rfl dX9_feed_15 rfl rfl (Nat.le_of_ble_eq_true rfl) (Nat.le_of_ble_eq_true rfl) (Nat.le_of_ble_eq_true rfl) (fun I2 P2 hP h => ?_)
    refine g_aload_n cx dX9_feed_18 rfl ?_
    refine g_iload_n cx dX9_feed_19 rfl ?_
    refine g_wVv cx [.int x2] [] (e_X9_appendWord hP h) mt_X9_appendWord ml_X9_79 rfl rfl rfl dX9_feed_20 rfl rfl (Nat.le_of_ble_eq_true rfl) (Nat.le_of_ble_eq_true rfl) (Nat.le_of_ble_eq_true rfl) (fun I3 P3 hP h => ?_)
    refine g_aload_n cx dX9_feed_23 rfl ?_
    refine g_iload_n cx dX9_feed_24 rfl ?_
    refine g_wVv cx [.int x3] [] (e_X9_appendWord hP h) mt_X9_appendWord ml_X9_79 rfl rfl rfl dX9_feed_25 rfl rfl (Nat.le_of_ble_eq_true rfl) (Nat.le_of_ble_eq_true rfl) (Nat.le_of_ble_eq_true rfl) (fun I4 P4 hP h => ?_)
    refine g_aload_n cx dX9_feed_28 rfl ?_
    refine g_iload cx dX9_feed_29 rfl ?_
    refine g_wVv cx [.int x4] [] (e_X9_appendWord hP h) mt_X9_appendWord ml_X9_79 rfl rfl rfl dX9_feed_31 rfl rfl (Nat.le_of_ble_eq_true rfl) (Nat.le_of_ble_eq_true rfl) (Nat.le_of_ble_eq_true rfl) (fun I5 P5 hP h => ?_)
    refine g_aload_n cx dX9_feed_34 rfl ?_
    refine g_iload cx dX9_feed_35 rfl ?_
    refine g_wVv cx [.int x5] [] (e_X9_appendWord hP h) mt_X9_appendWord ml_X9_79 rfl rfl rfl dX9_feed_37 rfl rfl (Nat.le_of_ble_eq_true rfl) (Nat.le_of_ble_eq_true rfl) (Nat.le_of_ble_eq_true rfl) (fun I6 P6 hP h => ?_)
    refine g_aload_n cx dX9_feed_40 rfl ?_
    refine g_getI cx lk_X9_34 rfl (Nat.le_of_ble_eq_true rfl) rfl dX9_feed_41 (x := (I6 0 8)) rfl ?_
    exact g_wi cx hE dX9_feed_44 rfl rfl hP h
  · have h := zifn c1 h
    refine g_bipush cx dX9_feed_10 bp_m3 ?_
    exact g_wi cx hE dX9_feed_12 rfl rfl hP h
def w_X9_isManner (x1 : Int32) (I : zI) (P : zP) (K : Int32 → zI → zP → Prop) : Prop := if x1 < 0 then (K 0 I P) else (if 3 ≤ x1 then (K 0 I P) else (K 1 I P))
theorem e_X9_isManner {x1 : Int32} {I : zI} {P : zP} {K : Int32 → zI → zP → Prop} (hP : PSt P) (h : w_X9_isManner x1 I P K) : Ev yX9_isManner cX9_isManner 1 (some .boolean) 0 0 0 0 [.int x1] SHy I P (zKi K) := by
  refine Ev.start [.int x1] pn_X9 rfl (Nat.le_of_ble_eq_true rfl) rfl (fun κ cx hE => ?_)
  unfold w_X9_isManner at h
  refine g_iload_n cx dX9_isManner_0 rfl ?_
  refine g_if_lt cx (tgt := 13) dX9_isManner_1 rfl (fun c1 => ?_) (fun c1 => ?_)
  · have h := zifp c1 h
    refine g_iconst cx dX9_isManner_13 ic_0 ?_
    exact g_wi cx hE dX9_isManner_14 rfl rfl hP h
  · have h := zifn c1 h
    refine g_iload_n cx dX9_isManner_4 rfl ?_
    refine g_iconst cx dX9_isManner_5 ic_3 ?_
    refine g_icmp_ge cx (tgt := 13) dX9_isManner_6 rfl (fun c2 => ?_) (fun c2 => ?_)
    · have h := zifp c2 h
      refine g_iconst cx dX9_isManner_13 ic_0 ?_
      exact g_wi cx hE dX9_isManner_14 rfl rfl hP h
    · have h := zifn c2 h
      refine g_iconst cx dX9_isManner_9 ic_1 ?_
      refine g_goto cx (tgt := 14) dX9_isManner_10 rfl ?_
      exact g_wi cx hE dX9_isManner_14 rfl rfl hP h
def w_X9_field (x1 : Int32) (x2 : Int32) (I : zI) (P : zP) (K : Int32 → zI → zP → Prop) : Prop := w_X9_isManner x1 I P (fun (v1 : Int32) (I1 : zI) (P1 : zP) => (if v1 = 0 then (K 0 I1 P1) else (if x2 < 0 then (K 0 I1 P1) else (if 8 ≤ x2 then (K 0 I1 P1) else (vp_in x1 3 ∧ (∃ v6, P1 92 (x1).toNatClampNeg = some v6 ∧ (SHy[v6]? = some (6, 13) ∧ (∃ v9, P1 v6 0 = some v9 ∧ (SHy[v9]? = some (11, (zlen v9)) ∧ (vp_in x2 (zlen v9) ∧ (K (I1 v9 ((x2).toNatClampNeg)) I1 P1)))))))))))
theorem e_X9_field {x1 : Int32} {x2 : Int32} {I : zI} {P : zP} {K : Int32 → zI → zP → Prop} (hP : PSt P) (h : w_X9_field x1 x2 I P K) : Ev yX9_field cX9_field 3 (some .int) 1 20 0 0 [.ref 0, .int x1, .int x2] SHy I P (zKi K) := by
  refine Ev.start [.ref 0, .int x1, .int x2] pn_X9 rfl (Nat.le_of_ble_eq_true rfl) rfl (fun κ cx hE => ?_)
  unfold w_X9_field at h
  refine g_iload_n cx dX9_field_0 rfl ?_
  refine g_wSi cx [.int x1] [] (e_X9_isManner hP h) mt_X9_isManner ml_X9_158 dX9_field_1 rfl rfl (Nat.le_of_ble_eq_true rfl) (Nat.le_of_ble_eq_true rfl) (Nat.le_of_ble_eq_true rfl) (fun v1 I1 P1 hP h => ?_)
  refine g_if_eq cx (tgt := 31) dX9_field_4 rfl (fun c2 => ?_) (fun c2 => ?_)
  · have h := zifp c2 h
    refine g_iconst cx dX9_field_31 ic_0 ?_
    exact g_wi cx hE dX9_field_32 rfl rfl hP h
  · have h := zifn c2 h
    refine g_iload_n cx dX9_field_7 rfl ?_
    refine g_if_lt cx (tgt := 31) dX9_field_8 rfl (fun c3 => ?_) (fun c3 => ?_)
    · have h := zifp c3 h
      refine g_iconst cx dX9_field_31 ic_0 ?_
      exact g_wi cx hE dX9_field_32 rfl rfl hP h
    · have h := zifn c3 h
      refine g_iload_n cx dX9_field_11 rfl ?_
      refine g_bipush cx dX9_field_12 bp_8 ?_
      refine g_icmp_ge cx (tgt := 31) dX9_field_14 rfl (fun c4 => ?_) (fun c4 => ?_)
      · have h := zifp c4 h
        refine g_iconst cx dX9_field_31 ic_0 ?_
        exact g_wi cx hE dX9_field_32 rfl rfl hP h
      · have h := zifn c4 h
        refine g_aload_n cx dX9_field_17 rfl ?_
        refine g_getR cx lk_X9_62 rfl (Nat.le_of_ble_eq_true rfl) rfl dX9_field_18 (v := 92) (pst hP 110 rfl) ?_
        refine g_iload_n cx dX9_field_21 rfl ?_
        obtain ⟨hc5, h⟩ := h
        obtain ⟨v6, hv7, h⟩ := h
        refine g_aald cx rfl (Nat.le_of_ble_eq_true rfl) (Nat.le_of_ble_eq_true rfl) hc5 hv7 dX9_field_22 ?_
        obtain ⟨hs8, h⟩ := h
        obtain ⟨v9, hv10, h⟩ := h
        refine g_getR cx lk_X9_172 hs8 (Nat.le_of_ble_eq_true rfl) rfl dX9_field_23 hv10 ?_
        refine g_iload_n cx dX9_field_26 rfl ?_
        obtain ⟨hs11, h⟩ := h
        obtain ⟨hc12, h⟩ := h
        refine g_iald cx dX9_field_27 hs11 hc12 (x := (I1 v9 ((x2).toNatClampNeg))) rfl ?_
        refine g_goto cx (tgt := 32) dX9_field_28 rfl ?_
        exact g_wi cx hE dX9_field_32 rfl rfl hP h
def w_X9_findFault (x1 : Nat) (x2 : Int32) (I : zI) (P : zP) (K : Int32 → zI → zP → Prop) : Prop := w_X5_formFault 1 x2 x1 I P (fun (v1 : Int32) (I1 : zI) (P1 : zP) => (if v1 = (-1) then (SHy[x1]? = some (3, 11) ∧ (w_X3_jumpFault x1 (zu I1 0 10 v1) P1 (fun (v4 : Int32) (I4 : zI) (P4 : zP) => (if v4 = (-1) then (w_X3_handlerFault x1 (zu I4 0 10 v4) P4 (fun (v6 : Int32) (I6 : zI) (P6 : zP) => (if v6 = (-1) then (w_X1_accepts x1 19 (zu I6 0 10 v6) P6 (fun (v8 : Int32) (I8 : zI) (P8 : zP) => (if v8 = 0 then (K 4 (zu I8 0 10 0) P8) else (K 0 I8 P8)))) else (K 3 (zu I6 0 10 v6) P6)))) else (K 2 (zu I4 0 10 v4) P4))))) else (K 1 (zu I1 0 10 v1) P1)))
theorem e_X9_findFault {x1 : Nat} {x2 : Int32} {I : zI} {P : zP} {K : Int32 → zI → zP → Prop} (hP : PSt P) (h : w_X9_findFault x1 x2 I P K) : Ev yX9_findFault cX9_findFault 3 (some .int) 5 119 0 0 [.ref 0, .ref x1, .int x2] SHy I P (zKi K) := by
  refine Ev.start [.ref 0, .ref x1, .int x2] pn_X9 rfl (Nat.le_of_ble_eq_true rfl) rfl (fun κ cx hE => ?_)
  unfold w_X9_findFault at h
  refine g_aload_n cx dX9_findFault_0 rfl ?_
  refine g_aload_n cx dX9_findFault_1 rfl ?_
  refine g_getR cx lk_X9_16 rfl (Nat.le_of_ble_eq_true rfl) rfl dX9_findFault_2 (v := 2) (pst hP 1 rfl) ?_
  refine g_aload_n cx dX9_findFault_5 rfl ?_
  refine g_getR cx lk_X9_9 rfl (Nat.le_of_ble_eq_true rfl) rfl dX9_findFault_6 (v := 1) (pst hP 0 rfl) ?_
  refine g_iload_n cx dX9_findFault_9 rfl ?_
  refine g_aload_n cx dX9_findFault_10 rfl ?_
  refine g_wVi cx [.ref 1, .int x2, .ref x1] [.ref 0] (e_X5_formFault hP h) mt_X5_formFault ml_X9_189 rfl rfl rfl dX9_findFault_11 rfl rfl (Nat.le_of_ble_eq_true rfl) (Nat.le_of_ble_eq_true rfl) (Nat.le_of_ble_eq_true rfl) (fun v1 I1 P1 hP h => ?_)
  refine g_pI cx lk_X9_41 rfl (Nat.le_of_ble_eq_true rfl) rfl dX9_findFault_14 fi_9_10 rfl rfl ?_
  refine g_aload_n cx dX9_findFault_17 rfl ?_
  refine g_getI cx lk_X9_41 rfl (Nat.le_of_ble_eq_true rfl) rfl dX9_findFault_18 (x := v1) rfl ?_
  refine g_iconst cx dX9_findFault_21 ic_m1 ?_
  refine g_icmp_eq cx (tgt := 27) dX9_findFault_22 rfl (fun c2 => ?_) (fun c2 => ?_)
  · have h := zifp c2 h
    refine g_aload_n cx dX9_findFault_27 rfl ?_
    refine g_aload_n cx dX9_findFault_28 rfl ?_
    obtain ⟨hs3, h⟩ := h
    refine g_wVi cx [] [.ref 0] (e_X3_jumpFault hP h) mt_X3_jumpFault ml_X9_193 hs3 rfl rfl dX9_findFault_29 rfl rfl (Nat.le_of_ble_eq_true rfl) (Nat.le_of_ble_eq_true rfl) (Nat.le_of_ble_eq_true rfl) (fun v4 I4 P4 hP h => ?_)
    refine g_pI cx lk_X9_41 rfl (Nat.le_of_ble_eq_true rfl) rfl dX9_findFault_32 fi_9_10 rfl rfl ?_
    refine g_aload_n cx dX9_findFault_35 rfl ?_
    refine g_getI cx lk_X9_41 rfl (Nat.le_of_ble_eq_true rfl) rfl dX9_findFault_36 (x := v4) rfl ?_
    refine g_iconst cx dX9_findFault_39 ic_m1 ?_
    refine g_icmp_eq cx (tgt := 45) dX9_findFault_40 rfl (fun c5 => ?_) (fun c5 => ?_)
    · have h := zifp c5 h
      refine g_aload_n cx dX9_findFault_45 rfl ?_
      refine g_aload_n cx dX9_findFault_46 rfl ?_
      refine g_wVi cx [] [.ref 0] (e_X3_handlerFault hP h) mt_X3_handlerFault ml_X9_196 hs3 rfl rfl dX9_findFault_47 rfl rfl (Nat.le_of_ble_eq_true rfl) (Nat.le_of_ble_eq_true rfl) (Nat.le_of_ble_eq_true rfl) (fun v6 I6 P6 hP h => ?_)
      refine g_pI cx lk_X9_41 rfl (Nat.le_of_ble_eq_true rfl) rfl dX9_findFault_50 fi_9_10 rfl rfl ?_
      refine g_aload_n cx dX9_findFault_53 rfl ?_
      refine g_getI cx lk_X9_41 rfl (Nat.le_of_ble_eq_true rfl) rfl dX9_findFault_54 (x := v6) rfl ?_
      refine g_iconst cx dX9_findFault_57 ic_m1 ?_
      refine g_icmp_eq cx (tgt := 63) dX9_findFault_58 rfl (fun c7 => ?_) (fun c7 => ?_)
      · have h := zifp c7 h
        refine g_aload_n cx dX9_findFault_63 rfl ?_
        refine g_getR cx lk_X9_23 rfl (Nat.le_of_ble_eq_true rfl) rfl dX9_findFault_64 (v := 4) (pst hP 4 rfl) ?_
        refine g_aload_n cx dX9_findFault_67 rfl ?_
        refine g_aload_n cx dX9_findFault_68 rfl ?_
        refine g_getR cx lk_X9_58 rfl (Nat.le_of_ble_eq_true rfl) rfl dX9_findFault_69 (v := 19) (pst hP 109 rfl) ?_
        refine g_wVi cx [.ref x1, .ref 19] [] (e_X1_accepts hP h) mt_X1_accepts ml_X9_199 rfl rfl rfl dX9_findFault_72 rfl rfl (Nat.le_of_ble_eq_true rfl) (Nat.le_of_ble_eq_true rfl) (Nat.le_of_ble_eq_true rfl) (fun v8 I8 P8 hP h => ?_)
        refine g_if_ne cx (tgt := 85) dX9_findFault_75 rfl (fun c9 => ?_) (fun c9 => ?_)
        · have h := zifn c9 h
          refine g_iconst cx dX9_findFault_85 ic_0 ?_
          exact g_wi cx hE dX9_findFault_86 rfl rfl hP h
        · have h := zifp c9 h
          refine g_aload_n cx dX9_findFault_78 rfl ?_
          refine g_iconst cx dX9_findFault_79 ic_0 ?_
          refine g_pI cx lk_X9_41 rfl (Nat.le_of_ble_eq_true rfl) rfl dX9_findFault_80 fi_9_10 rfl rfl ?_
          refine g_iconst cx dX9_findFault_83 ic_4 ?_
          exact g_wi cx hE dX9_findFault_84 rfl rfl hP h
      · have h := zifn c7 h
        refine g_iconst cx dX9_findFault_61 ic_3 ?_
        exact g_wi cx hE dX9_findFault_62 rfl rfl hP h
    · have h := zifn c5 h
      refine g_iconst cx dX9_findFault_43 ic_2 ?_
      exact g_wi cx hE dX9_findFault_44 rfl rfl hP h
  · have h := zifn c2 h
    refine g_iconst cx dX9_findFault_25 ic_1 ?_
    exact g_wi cx hE dX9_findFault_26 rfl rfl hP h
def w_X9_isMethod (x1 : Int32) (I : zI) (P : zP) (K : Int32 → zI → zP → Prop) : Prop := if x1 < 0 then (K 0 I P) else (if (I 0 9) ≤ x1 then (K 0 I P) else (if 6 ≤ x1 then (K 0 I P) else (K 1 I P)))
theorem e_X9_isMethod {x1 : Int32} {I : zI} {P : zP} {K : Int32 → zI → zP → Prop} (hP : PSt P) (h : w_X9_isMethod x1 I P K) : Ev yX9_isMethod cX9_isMethod 2 (some .boolean) 0 0 0 0 [.ref 0, .int x1] SHy I P (zKi K) := by
  refine Ev.start [.ref 0, .int x1] pn_X9 rfl (Nat.le_of_ble_eq_true rfl) rfl (fun κ cx hE => ?_)
  unfold w_X9_isMethod at h
  refine g_iload_n cx dX9_isMethod_0 rfl ?_
  refine g_if_lt cx (tgt := 22) dX9_isMethod_1 rfl (fun c1 => ?_) (fun c1 => ?_)
  · have h := zifp c1 h
    refine g_iconst cx dX9_isMethod_22 ic_0 ?_
    exact g_wi cx hE dX9_isMethod_23 rfl rfl hP h
  · have h := zifn c1 h
    refine g_iload_n cx dX9_isMethod_4 rfl ?_
    refine g_aload_n cx dX9_isMethod_5 rfl ?_
    refine g_getI cx lk_X9_38 rfl (Nat.le_of_ble_eq_true rfl) rfl dX9_isMethod_6 (x := (I 0 9)) rfl ?_
    refine g_icmp_ge cx (tgt := 22) dX9_isMethod_9 rfl (fun c2 => ?_) (fun c2 => ?_)
    · have h := zifp c2 h
      refine g_iconst cx dX9_isMethod_22 ic_0 ?_
      exact g_wi cx hE dX9_isMethod_23 rfl rfl hP h
    · have h := zifn c2 h
      refine g_iload_n cx dX9_isMethod_12 rfl ?_
      refine g_bipush cx dX9_isMethod_13 bp_6 ?_
      refine g_icmp_ge cx (tgt := 22) dX9_isMethod_15 rfl (fun c3 => ?_) (fun c3 => ?_)
      · have h := zifp c3 h
        refine g_iconst cx dX9_isMethod_22 ic_0 ?_
        exact g_wi cx hE dX9_isMethod_23 rfl rfl hP h
      · have h := zifn c3 h
        refine g_iconst cx dX9_isMethod_18 ic_1 ?_
        refine g_goto cx (tgt := 23) dX9_isMethod_19 rfl ?_
        exact g_wi cx hE dX9_isMethod_23 rfl rfl hP h
