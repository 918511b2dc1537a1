def l_X7_growCaughtPads_4 (K : Int32 → zI → zP → Prop) : Nat → Nat → Int32 → Int32 → zI → zP → Prop
  | 0, _, _, _, _, _ => False
  | n + 1, y1, y2, y3, I, P => SHy[y1]? = some (3, 11) ∧ (if (I y1 10) ≤ y3 then (zbo y2 ∧ (K y2 I P)) else (w_X7_caughtAt y1 y3 I P (fun (v4 : Int32) (I4 : zI) (P4 : zP) => (∃ v5, P4 y1 5 = some v5 ∧ (w_X9_handlerPart v5 y3 2 I4 P4 (fun (v7 : Int32) (I7 : zI) (P7 : zP) => (w_X7_groupAt v7 I7 P7 (fun (v8 : Int32) (I8 : zI) (P8 : zP) => (if v4 ≤ 0 then ((l_X7_growCaughtPads_4 K n) y1 y2 (y3 + 1) I8 P8) else (vp_in y3 8 ∧ (if (I8 18 ((y3).toNatClampNeg)) = 0 then (vp_in y3 8 ∧ (w_X7_reaches ((I8 15 ((y3).toNatClampNeg)) + (2 * v4)) v8 I8 P8 (fun (v13 : Int32) (I13 : zI) (P13 : zP) => (if v13 = 0 then (vp_in y3 8 ∧ ((l_X7_growCaughtPads_4 K n) y1 1 (y3 + 1) (zu I13 18 ((y3).toNatClampNeg) (vp_nar .boolean 1)) P13)) else ((l_X7_growCaughtPads_4 K n) y1 y2 (y3 + 1) I13 P13))))) else ((l_X7_growCaughtPads_4 K n) y1 y2 (y3 + 1) I8 P8))))))))))))
theorem gl_X7_growCaughtPads_4 {κ : zX} (cx : Cx yX7_growCaughtPads cX7_growCaughtPads 6 (some .boolean) 2 46 κ) {K : Int32 → zI → zP → Prop} (hE : zEnd (zKi K) 0 0 κ) : ∀ (n : Nat) (y1 : Nat) (y2 : Int32) (y3 : Int32) (I : zI) (P : zP), PSt P → l_X7_growCaughtPads_4 K n y1 y2 y3 I P → Gx κ 4 [.ref 7, .ref y1, .int y2, .int y3, .float 0, .float 0] [] SHy I P 0 0 := by
  intro n
  induction n with
  | zero =>
    intro y1 y2 y3 I P hP h
    rw [l_X7_growCaughtPads_4] at h
    exact False.elim h
  | succ n ih =>
    intro y1 y2 y3 I P hP h
    rw [l_X7_growCaughtPads_4] at h
    refine g_iload_n cx dX7_growCaughtPads_4 rfl ?_
    refine g_aload_n cx dX7_growCaughtPads_5 rfl ?_
    obtain ⟨hs1, h⟩ := h
    refine g_getI cx lk_X7_125 hs1 (Nat.le_of_ble_eq_true rfl) rfl dX7_growCaughtPads_6 (x := (I y1 10)) rfl ?_
    refine g_icmp_ge cx (tgt := 83) dX7_growCaughtPads_9 rfl (fun c2 => ?_) (fun c2 => ?_)
    · have h := zifp c2 h
      refine g_iload_n cx dX7_growCaughtPads_83 rfl ?_
      obtain ⟨hc3, h⟩ := h
      exact g_wi cx hE dX7_growCaughtPads_84 rfl (zbo_n hc3) hP h
    · have h := zifn c2 h
      refine g_aload_n cx dX7_growCaughtPads_12 rfl ?_
      refine g_aload_n cx dX7_growCaughtPads_13 rfl ?_
      refine g_iload_n cx dX7_growCaughtPads_14 rfl ?_
      refine g_wVi cx [.ref y1, .int y3] [] (e_X7_caughtAt hP h) mt_X7_caughtAt ml_X7_128 rfl rfl rfl dX7_growCaughtPads_15 rfl rfl (Nat.le_of_ble_eq_true rfl) (Nat.le_of_ble_eq_true rfl) (Nat.le_of_ble_eq_true rfl) (fun v4 I4 P4 hP h => ?_)
      refine g_istore cx dX7_growCaughtPads_18 (Nat.le_of_ble_eq_true rfl) (Gx.L [.ref 7, .ref y1, .int y2, .int y3, .int v4, .float 0] rfl ?_)
      refine g_aload_n cx dX7_growCaughtPads_20 rfl ?_
      refine g_aload_n cx dX7_growCaughtPads_21 rfl ?_
      obtain ⟨v5, hv6, h⟩ := h
      refine g_getR cx lk_X7_132 hs1 (Nat.le_of_ble_eq_true rfl) rfl dX7_growCaughtPads_22 hv6 ?_
      refine g_iload_n cx dX7_growCaughtPads_25 rfl ?_
      refine g_iconst cx dX7_growCaughtPads_26 ic_2 ?_
      refine g_wSi cx [.ref v5, .int y3, .int 2] [.ref 7] (e_X9_handlerPart hP h) mt_X9_handlerPart ml_X7_135 dX7_growCaughtPads_27 rfl rfl (Nat.le_of_ble_eq_true rfl) (Nat.le_of_ble_eq_true rfl) (Nat.le_of_ble_eq_true rfl) (fun v7 I7 P7 hP h => ?_)
      refine g_wVi cx [.int v7] [] (e_X7_groupAt hP h) mt_X7_groupAt ml_X7_142 rfl rfl rfl dX7_growCaughtPads_30 rfl rfl (Nat.le_of_ble_eq_true rfl) (Nat.le_of_ble_eq_true rfl) (Nat.le_of_ble_eq_true rfl) (fun v8 I8 P8 hP h => ?_)
      refine g_istore cx dX7_growCaughtPads_33 (Nat.le_of_ble_eq_true rfl) (Gx.L [.ref 7, .ref y1, .int y2, .int y3, .int v4, .int v8] rfl ?_)
      refine g_iload cx dX7_growCaughtPads_35 rfl ?_
      refine g_if_le cx (tgt := 77) dX7_growCaughtPads_37 rfl (fun c9 => ?_) (fun c9 => ?_)
      · have h := zifp c9 h
        refine g_iinc cx (v := (y3 + 1)) dX7_growCaughtPads_77 rfl rfl (Nat.le_of_ble_eq_true rfl) (Gx.L [.ref 7, .ref y1, .int y2, .int (y3 + 1), .int v4, .int v8] rfl ?_)
        refine g_goto cx (tgt := 4) dX7_growCaughtPads_80 rfl ?_
        refine (Gx.unset 4 (Gx.unset 5 (Gx.L [.ref 7, .ref y1, .int y2, .int (y3 + 1), .float 0, .float 0] rfl ?_)))
        exact ih _ _ _ _ _ hP h
      · have h := zifn c9 h
        refine g_aload_n cx dX7_growCaughtPads_40 rfl ?_
        refine g_getR cx lk_X7_43 rfl (Nat.le_of_ble_eq_true rfl) rfl dX7_growCaughtPads_41 (v := 18) (pst hP 15 rfl) ?_
        refine g_iload_n cx dX7_growCaughtPads_44 rfl ?_
        obtain ⟨hc10, h⟩ := h
        refine g_bald cx dX7_growCaughtPads_45 rfl hc10 (x := (I8 18 ((y3).toNatClampNeg))) rfl ?_
        refine g_if_ne cx (tgt := 77) dX7_growCaughtPads_46 rfl (fun c11 => ?_) (fun c11 => ?_)
        · have h := zifn c11 h
          refine g_iinc cx (v := (y3 + 1)) dX7_growCaughtPads_77 rfl rfl (Nat.le_of_ble_eq_true rfl) (Gx.L [.ref 7, .ref y1, .int y2, .int (y3 + 1), .int v4, .int v8] rfl ?_)
          refine g_goto cx (tgt := 4) dX7_growCaughtPads_80 rfl ?_
          refine (Gx.unset 4 (Gx.unset 5 (Gx.L [.ref 7, .ref y1, .int y2, .int (y3 + 1), .float 0, .float 0] rfl ?_)))
          exact ih _ _ _ _ _ hP h
        · have h := zifp c11 h
          refine g_aload_n cx dX7_growCaughtPads_49 rfl ?_
          refine g_getR cx lk_X7_33 rfl (Nat.le_of_ble_eq_true rfl) rfl dX7_growCaughtPads_50 (v := 15) (pst hP 12 rfl) ?_
          refine g_iload_n cx dX7_growCaughtPads_53 rfl ?_
          obtain ⟨hc12, h⟩ := h
          refine g_iald cx dX7_growCaughtPads_54 rfl hc12 (x := (I8 15 ((y3).toNatClampNeg))) rfl ?_
          refine g_iconst cx dX7_growCaughtPads_55 ic_2 ?_
          refine g_iload cx dX7_growCaughtPads_56 rfl ?_
          refine g_imul cx dX7_growCaughtPads_58 ?_
          refine g_iadd cx dX7_growCaughtPads_59 ?_
          refine g_iload cx dX7_growCaughtPads_60 rfl ?_
          refine g_wSi cx [.int ((I8 15 ((y3).toNatClampNeg)) + (2 * v4)), .int v8] [] (e_X7_reaches hP h) mt_X7_reaches ml_X7_153 dX7_growCaughtPads_62 rfl rfl (Nat.le_of_ble_eq_true rfl) (Nat.le_of_ble_eq_true rfl) (Nat.le_of_ble_eq_true rfl) (fun v13 I13 P13 hP h => ?_)
          refine g_if_ne cx (tgt := 77) dX7_growCaughtPads_65 rfl (fun c14 => ?_) (fun c14 => ?_)
          · have h := zifn c14 h
            refine g_iinc cx (v := (y3 + 1)) dX7_growCaughtPads_77 rfl rfl (Nat.le_of_ble_eq_true rfl) (Gx.L [.ref 7, .ref y1, .int y2, .int (y3 + 1), .int v4, .int v8] rfl ?_)
            refine g_goto cx (tgt := 4) dX7_growCaughtPads_80 rfl ?_
            refine (Gx.unset 4 (Gx.unset 5 (Gx.L [.ref 7, .ref y1, .int y2, .int (y3 + 1), .float 0, .float 0] rfl ?_)))
            exact ih _ _ _ _ _ hP h
          · have h := zifp c14 h
            refine g_aload_n cx dX7_growCaughtPads_68 rfl ?_
            refine g_getR cx lk_X7_43 rfl (Nat.le_of_ble_eq_true rfl) rfl dX7_growCaughtPads_69 (v := 18) (pst hP 15 rfl) ?_
            refine g_iload_n cx dX7_growCaughtPads_72 rfl ?_
            refine g_iconst cx dX7_growCaughtPads_73 ic_1 ?_
            obtain ⟨hc15, h⟩ := h
            refine g_bast cx dX7_growCaughtPads_74 rfl hc15 ?_
            refine g_iconst cx dX7_growCaughtPads_75 ic_1 ?_
            refine g_istore_n cx dX7_growCaughtPads_76 (Nat.le_of_ble_eq_true rfl) (Gx.L [.ref 7, .ref y1, .int 1, .int y3, .int v4, .int v8] rfl ?_)
            refine g_iinc cx (v := (y3 + 1)) dX7_growCaughtPads_77 rfl rfl (Nat.le_of_ble_eq_true rfl) (Gx.L [.ref 7, .ref y1, .int 1, .int (y3 + 1), .int v4, .int v8] rfl ?_)
            refine g_goto cx (tgt := 4) dX7_growCaughtPads_80 rfl ?_
            refine (Gx.unset 4 (Gx.unset 5 (Gx.L [.ref 7, .ref y1, .int 1, .int (y3 + 1), .float 0, .float 0] rfl ?_)))
            exact ih _ _ _ _ _ hP h
def w_X7_growCaughtPads (x1 : Nat) (I : zI) (P : zP) (K : Int32 → zI → zP → Prop) : Prop := ∃ n9, l_X7_growCaughtPads_4 K n9 x1 0 0 I P
theorem e_X7_growCaughtPads {x1 : Nat} {I : zI} {P : zP} {K : Int32 → zI → zP → Prop} (hP : PSt P) (h : w_X7_growCaughtPads x1 I P K) : Ev yX7_growCaughtPads cX7_growCaughtPads 6 (some .boolean) 2 46 0 0 [.ref 7, .ref x1] SHy I P (zKi K) := by
  refine Ev.start [.ref 7, .ref x1, .float 0, .float 0, .float 0, .float 0] pn_X7 rfl (Nat.le_of_ble_eq_true rfl) rfl (fun κ cx hE => ?_)
  unfold w_X7_growCaughtPads at h
  refine g_iconst cx dX7_growCaughtPads_0 ic_0 ?_
  refine g_istore_n cx dX7_growCaughtPads_1 (Nat.le_of_ble_eq_true rfl) (Gx.L [.ref 7, .ref x1, .int 0, .float 0, .float 0, .float 0] rfl ?_)
  refine g_iconst cx dX7_growCaughtPads_2 ic_0 ?_
  refine g_istore_n cx dX7_growCaughtPads_3 (Nat.le_of_ble_eq_true rfl) (Gx.L [.ref 7, .ref x1, .int 0, .int 0, .float 0, .float 0] rfl ?_)
  obtain ⟨n9, h⟩ := h
  exact gl_X7_growCaughtPads_4 cx hE n9 _ _ _ _ _ hP h
def w_X7_leadsTo (x1 : Nat) (x2 : Int32) (x3 : Int32) (I : zI) (P : zP) (K : Int32 → zI → zP → Prop) : Prop := vp_in x2 400 ∧ (if (I 10 ((x2).toNatClampNeg)) ≤ 0 then (SHy[x1]? = some (3, 11) ∧ (∃ v4, P x1 1 = some v4 ∧ (w_X9_targetAt v4 x2 x3 I P (fun (v6 : Int32) (I6 : zI) (P6 : zP) => (w_X7_groupAt v6 I6 P6 (fun (v7 : Int32) (I7 : zI) (P7 : zP) => (K v7 I7 P7))))))) else (vp_in x2 400 ∧ (K (I 14 ((x2).toNatClampNeg)) I P)))
theorem e_X7_leadsTo {x1 : Nat} {x2 : Int32} {x3 : Int32} {I : zI} {P : zP} {K : Int32 → zI → zP → Prop} (hP : PSt P) (h : w_X7_leadsTo x1 x2 x3 I P K) : Ev yX7_leadsTo cX7_leadsTo 4 (some .int) 2 44 0 0 [.ref 7, .ref x1, .int x2, .int x3] SHy I P (zKi K) := by
  refine Ev.start [.ref 7, .ref x1, .int x2, .int x3] pn_X7 rfl (Nat.le_of_ble_eq_true rfl) rfl (fun κ cx hE => ?_)
  unfold w_X7_leadsTo at h
  refine g_aload_n cx dX7_leadsTo_0 rfl ?_
  refine g_getR cx lk_X7_18 rfl (Nat.le_of_ble_eq_true rfl) rfl dX7_leadsTo_1 (v := 10) (pst hP 7 rfl) ?_
  refine g_iload_n cx dX7_leadsTo_4 rfl ?_
  obtain ⟨hc1, h⟩ := h
  refine g_iald cx dX7_leadsTo_5 rfl hc1 (x := (I 10 ((x2).toNatClampNeg))) rfl ?_
  refine g_if_le cx (tgt := 18) dX7_leadsTo_6 rfl (fun c2 => ?_) (fun c2 => ?_)
  · have h := zifp c2 h
    refine g_aload_n cx dX7_leadsTo_18 rfl ?_
    refine g_aload_n cx dX7_leadsTo_19 rfl ?_
    obtain ⟨hs3, h⟩ := h
    obtain ⟨v4, hv5, h⟩ := h
    refine g_getR cx lk_X7_119 hs3 (Nat.le_of_ble_eq_true rfl) rfl dX7_leadsTo_20 hv5 ?_
    refine g_iload_n cx dX7_leadsTo_23 rfl ?_
    refine g_iload_n cx dX7_leadsTo_24 rfl ?_
    refine g_wSi cx [.ref v4, .int x2, .int x3] [.ref 7] (e_X9_targetAt hP h) mt_X9_targetAt ml_X7_139 dX7_leadsTo_25 rfl rfl (Nat.le_of_ble_eq_true rfl) (Nat.le_of_ble_eq_true rfl) (Nat.le_of_ble_eq_true rfl) (fun v6 I6 P6 hP h => ?_)
    refine g_wVi cx [.int v6] [] (e_X7_groupAt hP h) mt_X7_groupAt ml_X7_142 rfl rfl rfl dX7_leadsTo_28 rfl rfl (Nat.le_of_ble_eq_true rfl) (Nat.le_of_ble_eq_true rfl) (Nat.le_of_ble_eq_true rfl) (fun v7 I7 P7 hP h => ?_)
    exact g_wi cx hE dX7_leadsTo_31 rfl rfl hP h
  · have h := zifn c2 h
    refine g_aload_n cx dX7_leadsTo_9 rfl ?_
    refine g_getR cx lk_X7_30 rfl (Nat.le_of_ble_eq_true rfl) rfl dX7_leadsTo_10 (v := 14) (pst hP 11 rfl) ?_
    refine g_iload_n cx dX7_leadsTo_13 rfl ?_
    obtain ⟨hc8, h⟩ := h
    refine g_iald cx dX7_leadsTo_14 rfl hc8 (x := (I 14 ((x2).toNatClampNeg))) rfl ?_
    refine g_goto cx (tgt := 31) dX7_leadsTo_15 rfl ?_
    exact g_wi cx hE dX7_leadsTo_31 rfl rfl hP h
def j_X7_growJumps_69 (X4 : Nat → Int32 → Int32 → zI → zP → Prop) (K : Int32 → zI → zP → Prop) (y1 : Nat) (y2 : Int32) (y3 : Int32) (I : zI) (P : zP) : Prop := vp_in y3 400 ∧ (if (I 10 ((y3).toNatClampNeg)) ≤ 0 then (X4 y1 y2 (y3 + 1) I P) else (vp_in y3 400 ∧ (if (I 17 ((y3).toNatClampNeg)) = 0 then (vp_in y3 400 ∧ (vp_in y3 400 ∧ (SHy[y1]? = some (3, 11) ∧ (∃ v8, P y1 1 = some v8 ∧ (w_X9_targetAt v8 y3 0 I P (fun (v10 : Int32) (I10 : zI) (P10 : zP) => (w_X7_groupAt v10 I10 P10 (fun (v11 : Int32) (I11 : zI) (P11 : zP) => (w_X7_reaches ((I 14 ((y3).toNatClampNeg)) + (3 * (I 10 ((y3).toNatClampNeg)))) v11 I11 P11 (fun (v12 : Int32) (I12 : zI) (P12 : zP) => (if v12 = 0 then (vp_in y3 400 ∧ (X4 y1 1 (y3 + 1) (zu I12 17 ((y3).toNatClampNeg) (vp_nar .boolean 1)) P12)) else (X4 y1 y2 (y3 + 1) I12 P12)))))))))))) else (X4 y1 y2 (y3 + 1) I P))))
theorem gj_X7_growJumps_69 {κ : zX} (cx : Cx yX7_growJumps cX7_growJumps 4 (some .boolean) 3 71 κ) {K : Int32 → zI → zP → Prop} (hE : zEnd (zKi K) 0 0 κ) {X4 : Nat → Int32 → Int32 → zI → zP → Prop} (hX4 : ∀ (y1 : Nat) (y2 : Int32) (y3 : Int32) (I : zI) (P : zP), PSt P → X4 y1 y2 y3 I P → Gx κ 4 [.ref 7, .ref y1, .int y2, .int y3] [] SHy I P 0 0) {y1 : Nat} {y2 : Int32} {y3 : Int32} {I : zI} {P : zP} (hP : PSt P) (h : j_X7_growJumps_69 X4 K y1 y2 y3 I P) : Gx κ 69 [.ref 7, .ref y1, .int y2, .int y3] [] SHy I P 0 0 := by
  unfold j_X7_growJumps_69 at h
  refine g_aload_n cx dX7_growJumps_69 rfl ?_
  refine g_getR cx lk_X7_18 rfl (Nat.le_of_ble_eq_true rfl) rfl dX7_growJumps_70 (v := 10) (pst hP 7 rfl) ?_
  refine g_iload_n cx dX7_growJumps_73 rfl ?_
  obtain ⟨hc1, h⟩ := h
  refine g_iald cx dX7_growJumps_74 rfl hc1 (x := (I 10 ((y3).toNatClampNeg))) rfl ?_
  refine g_if_le cx (tgt := 130) dX7_growJumps_75 rfl (fun c2 => ?_) (fun c2 => ?_)
  · have h := zifp c2 h
    refine g_iinc cx (v := (y3 + 1)) dX7_growJumps_130 rfl rfl (Nat.le_of_ble_eq_true rfl) (Gx.L [.ref 7, .ref y1, .int y2, .int (y3 + 1)] rfl ?_)
    refine g_goto cx (tgt := 4) dX7_growJumps_133 rfl ?_
    exact hX4 _ _ _ _ _ hP h
  · have h := zifn c2 h
    refine g_aload_n cx dX7_growJumps_78 rfl ?_
    refine g_getR cx lk_X7_40 rfl (Nat.le_of_ble_eq_true rfl) rfl dX7_growJumps_79 (v := 17) (pst hP 14 rfl) ?_
    refine g_iload_n cx dX7_growJumps_82 rfl ?_
    obtain ⟨hc3, h⟩ := h
    refine g_bald cx dX7_growJumps_83 rfl hc3 (x := (I 17 ((y3).toNatClampNeg))) rfl ?_
    refine g_if_ne cx (tgt := 130) dX7_growJumps_84 rfl (fun c4 => ?_) (fun c4 => ?_)
    · have h := zifn c4 h
      refine g_iinc cx (v := (y3 + 1)) dX7_growJumps_130 rfl rfl (Nat.le_of_ble_eq_true rfl) (Gx.L [.ref 7, .ref y1, .int y2, .int (y3 + 1)] rfl ?_)
      refine g_goto cx (tgt := 4) dX7_growJumps_133 rfl ?_
      exact hX4 _ _ _ _ _ hP h
    · have h := zifp c4 h
      refine g_aload_n cx dX7_growJumps_87 rfl ?_
      refine g_getR cx lk_X7_30 rfl (Nat.le_of_ble_eq_true rfl) rfl dX7_growJumps_88 (v := 14) (pst hP 11 rfl) ?_
      refine g_iload_n cx dX7_growJumps_91 rfl ?_
      obtain ⟨hc5, h⟩ := h
      refine g_iald cx dX7_growJumps_92 rfl hc5 (x := (I 14 ((y3).toNatClampNeg))) rfl ?_
      refine g_iconst cx dX7_growJumps_93 ic_3 ?_
      refine g_aload_n cx dX7_growJumps_94 rfl ?_
      refine g_getR cx lk_X7_18 rfl (Nat.le_of_ble_eq_true rfl) rfl dX7_growJumps_95 (v := 10) (pst hP 7 rfl) ?_
      refine g_iload_n cx dX7_growJumps_98 rfl ?_
      obtain ⟨hc6, h⟩ := h
      refine g_iald cx dX7_growJumps_99 rfl hc6 (x := (I 10 ((y3).toNatClampNeg))) rfl ?_
      refine g_imul cx dX7_growJumps_100 ?_
      refine g_iadd cx dX7_growJumps_101 ?_
      refine g_aload_n cx dX7_growJumps_102 rfl ?_
      refine g_aload_n cx dX7_growJumps_103 rfl ?_
      obtain ⟨hs7, h⟩ := h
      obtain ⟨v8, hv9, h⟩ := h
      refine g_getR cx lk_X7_119 hs7 (Nat.le_of_ble_eq_true rfl) rfl dX7_growJumps_104 hv9 ?_
      refine g_iload_n cx dX7_growJumps_107 rfl ?_
      refine g_iconst cx dX7_growJumps_108 ic_0 ?_
      refine g_wSi cx [.ref v8, .int y3, .int 0] [.ref 7, .int ((I 14 ((y3).toNatClampNeg)) + (3 * (I 10 ((y3).toNatClampNeg))))] (e_X9_targetAt hP h) mt_X9_targetAt ml_X7_139 dX7_growJumps_109 rfl rfl (Nat.le_of_ble_eq_true rfl) (Nat.le_of_ble_eq_true rfl) (Nat.le_of_ble_eq_true rfl) (fun v10 I10 P10 hP h => ?_)
      refine g_wVi cx [.int v10] [.int ((I 14 ((y3).toNatClampNeg)) + (3 * (I 10 ((y3).toNatClampNeg))))] (e_X7_groupAt hP h) mt_X7_groupAt ml_X7_142 rfl rfl rfl dX7_growJumps_112 rfl rfl (Nat.le_of_ble_eq_true rfl) (Nat.le_of_ble_eq_true rfl) (Nat.le_of_ble_eq_true rfl) (fun v11 I11 P11 hP h => ?_)
      refine g_wSi cx [.int ((I 14 ((y3).toNatClampNeg)) + (3 * (I 10 ((y3).toNatClampNeg)))), .int v11] [] (e_X7_reaches hP h) mt_X7_reaches ml_X7_153 dX7_growJumps_115 rfl rfl (Nat.le_of_ble_eq_true rfl) (Nat.le_of_ble_eq_true rfl) (Nat.le_of_ble_eq_true rfl) (fun v12 I12 P12 hP h => ?_)
      refine g_if_ne cx (tgt := 130) dX7_growJumps_118 rfl (fun c13 => ?_) (fun c13 => ?_)
      · have h := zifn c13 h
        refine g_iinc cx (v := (y3 + 1)) dX7_growJumps_130 rfl rfl (Nat.le_of_ble_eq_true rfl) (Gx.L [.ref 7, .ref y1, .int y2, .int (y3 + 1)] rfl ?_)
        refine g_goto cx (tgt := 4) dX7_growJumps_133 rfl ?_
        exact hX4 _ _ _ _ _ hP h
      · have h := zifp c13 h
        refine g_aload_n cx dX7_growJumps_121 rfl ?_
        refine g_getR cx lk_X7_40 rfl (Nat.le_of_ble_eq_true rfl) rfl dX7_growJumps_122 (v := 17) (pst hP 14 rfl) ?_
        refine g_iload_n cx dX7_growJumps_125 rfl ?_
        refine g_iconst cx dX7_growJumps_126 ic_1 ?_
        obtain ⟨hc14, h⟩ := h
        refine g_bast cx dX7_growJumps_127 rfl hc14 ?_
        refine g_iconst cx dX7_growJumps_128 ic_1 ?_
        refine g_istore_n cx dX7_growJumps_129 (Nat.le_of_ble_eq_true rfl) (Gx.L [.ref 7, .ref y1, .int 1, .int y3] rfl ?_)
        refine g_iinc cx (v := (y3 + 1)) dX7_growJumps_130 rfl rfl (Nat.le_of_ble_eq_true rfl) (Gx.L [.ref 7, .ref y1, .int 1, .int (y3 + 1)] rfl ?_)
        refine g_goto cx (tgt := 4) dX7_growJumps_133 rfl ?_
        exact hX4 _ _ _ _ _ hP h
def l_X7_growJumps_4 (K : Int32 → zI → zP → Prop) : Nat → Nat → Int32 → Int32 → zI → zP → Prop
  | 0, _, _, _, _, _ => False
  | n + 1, y1, y2, y3, I, P => SHy[y1]? = some (3, 11) ∧ (if (I y1 9) ≤ y3 then (w_X7_growCaughtPads y1 I P (fun (v3 : Int32) (I3 : zI) (P3 : zP) => (if v3 = 0 then (if y2 = 0 then (K 0 I3 P3) else (K 1 I3 P3)) else (K 1 I3 P3)))) else (w_X3_beginsAt y1 y3 I P (fun (v6 : Int32) (I6 : zI) (P6 : zP) => (if v6 = 0 then (j_X7_growJumps_69 (l_X7_growJumps_4 K n) K y1 y2 y3 I6 P6) else (∃ v8, P6 y1 1 = some v8 ∧ (SHy[v8]? = some (11, (zlen v8)) ∧ (vp_in y3 (zlen v8) ∧ (w_X9_isShortJump (I6 v8 ((y3).toNatClampNeg)) I6 P6 (fun (v12 : Int32) (I12 : zI) (P12 : zP) => (if v12 = 0 then (j_X7_growJumps_69 (l_X7_growJumps_4 K n) K y1 y2 y3 I12 P12) else (vp_in y3 400 ∧ (if (I12 16 ((y3).toNatClampNeg)) = 0 then (vp_in y3 400 ∧ (w_X7_leadsTo y1 y3 0 I12 P12 (fun (v17 : Int32) (I17 : zI) (P17 : zP) => (w_X7_reaches (I12 13 ((y3).toNatClampNeg)) v17 I17 P17 (fun (v18 : Int32) (I18 : zI) (P18 : zP) => (if v18 = 0 then (vp_in y3 400 ∧ (j_X7_growJumps_69 (l_X7_growJumps_4 K n) K y1 1 y3 (zu I18 16 ((y3).toNatClampNeg) (vp_nar .boolean 1)) P18)) else (j_X7_growJumps_69 (l_X7_growJumps_4 K n) K y1 y2 y3 I18 P18))))))) else (j_X7_growJumps_69 (l_X7_growJumps_4 K n) K y1 y2 y3 I12 P12)))))))))))))
theorem gl_X7_growJumps_4 {κ : zX} (cx : Cx yX7_growJumps cX7_growJumps 4 (some .boolean) 3 71 κ) {K : Int32 → zI → zP → Prop} (hE : zEnd (zKi K) 0 0 κ) : ∀ (n : Nat) (y1 : Nat) (y2 : Int32) (y3 : Int32) (I : zI) (P : zP), PSt P → l_X7_growJumps_4 K n y1 y2 y3 I P → Gx κ 4 [.ref 7, .ref y1, .int y2, .int y3] [] SHy I P 0 0 := by
  intro n
  induction n with
  | zero =>
    intro y1 y2 y3 I P hP h
    rw [l_X7_growJumps_4] at h
    exact False.elim h
  | succ n ih =>
    intro y1 y2 y3 I P hP h
    rw [l_X7_growJumps_4] at h
    refine g_iload_n cx dX7_growJumps_4 rfl ?_
    refine g_aload_n cx dX7_growJumps_5 rfl ?_
    obtain ⟨hs1, h⟩ := h
    refine g_getI cx lk_X7_116 hs1 (Nat.le_of_ble_eq_true rfl) rfl dX7_growJumps_6 (x := (I y1 9)) rfl ?_
    refine g_icmp_ge cx (tgt := 136) dX7_growJumps_9 rfl (fun c2 => ?_) (fun c2 => ?_)
    · have h := zifp c2 h
      refine g_aload_n cx dX7_growJumps_136 rfl ?_
      refine g_aload_n cx dX7_growJumps_137 rfl ?_
      refine g_wVi cx [.ref y1] [] (e_X7_growCaughtPads hP h) mt_X7_growCaughtPads ml_X7_157 rfl rfl rfl dX7_growJumps_138 rfl rfl (Nat.le_of_ble_eq_true rfl) (Nat.le_of_ble_eq_true rfl) (Nat.le_of_ble_eq_true rfl) (fun v3 I3 P3 hP h => ?_)
      refine g_if_ne cx (tgt := 148) dX7_growJumps_141 rfl (fun c4 => ?_) (fun c4 => ?_)
      · have h := zifn c4 h
        refine g_iconst cx dX7_growJumps_148 ic_1 ?_
        refine g_goto cx (tgt := 153) dX7_growJumps_149 rfl ?_
        exact g_wi cx hE dX7_growJumps_153 rfl rfl hP h
      · have h := zifp c4 h
        refine g_iload_n cx dX7_growJumps_144 rfl ?_
        refine g_if_eq cx (tgt := 152) dX7_growJumps_145 rfl (fun c5 => ?_) (fun c5 => ?_)
        · have h := zifp c5 h
          refine g_iconst cx dX7_growJumps_152 ic_0 ?_
          exact g_wi cx hE dX7_growJumps_153 rfl rfl hP h
        · have h := zifn c5 h
          refine g_iconst cx dX7_growJumps_148 ic_1 ?_
          refine g_goto cx (tgt := 153) dX7_growJumps_149 rfl ?_
          exact g_wi cx hE dX7_growJumps_153 rfl rfl hP h
    · have h := zifn c2 h
      refine g_aload_n cx dX7_growJumps_12 rfl ?_
      refine g_iload_n cx dX7_growJumps_13 rfl ?_
      refine g_wVi cx [.int y3] [] (e_X3_beginsAt hP h) mt_X3_beginsAt ml_X7_105 hs1 rfl rfl dX7_growJumps_14 rfl rfl (Nat.le_of_ble_eq_true rfl) (Nat.le_of_ble_eq_true rfl) (Nat.le_of_ble_eq_true rfl) (fun v6 I6 P6 hP h => ?_)
      refine g_if_eq cx (tgt := 69) dX7_growJumps_17 rfl (fun c7 => ?_) (fun c7 => ?_)
      · have h := zifp c7 h
        exact gj_X7_growJumps_69 cx hE ih hP h
      · have h := zifn c7 h
        refine g_aload_n cx dX7_growJumps_20 rfl ?_
        obtain ⟨v8, hv9, h⟩ := h
        refine g_getR cx lk_X7_119 hs1 (Nat.le_of_ble_eq_true rfl) rfl dX7_growJumps_21 hv9 ?_
        refine g_iload_n cx dX7_growJumps_24 rfl ?_
        obtain ⟨hs10, h⟩ := h
        obtain ⟨hc11, h⟩ := h
        refine g_iald cx dX7_growJumps_25 hs10 hc11 (x := (I6 v8 ((y3).toNatClampNeg))) rfl ?_
        refine g_wSi cx [.int (I6 v8 ((y3).toNatClampNeg))] [] (e_X9_isShortJump hP h) mt_X9_isShortJump ml_X7_146 dX7_growJumps_26 rfl rfl (Nat.le_of_ble_eq_true rfl) (Nat.le_of_ble_eq_true rfl) (Nat.le_of_ble_eq_true rfl) (fun v12 I12 P12 hP h => ?_)
        refine g_if_eq cx (tgt := 69) dX7_growJumps_29 rfl (fun c13 => ?_) (fun c13 => ?_)
        · have h := zifp c13 h
          exact gj_X7_growJumps_69 cx hE ih hP h
        · have h := zifn c13 h
          refine g_aload_n cx dX7_growJumps_32 rfl ?_
          refine g_getR cx lk_X7_36 rfl (Nat.le_of_ble_eq_true rfl) rfl dX7_growJumps_33 (v := 16) (pst hP 13 rfl) ?_
          refine g_iload_n cx dX7_growJumps_36 rfl ?_
          obtain ⟨hc14, h⟩ := h
          refine g_bald cx dX7_growJumps_37 rfl hc14 (x := (I12 16 ((y3).toNatClampNeg))) rfl ?_
          refine g_if_ne cx (tgt := 69) dX7_growJumps_38 rfl (fun c15 => ?_) (fun c15 => ?_)
          · have h := zifn c15 h
            exact gj_X7_growJumps_69 cx hE ih hP h
          · have h := zifp c15 h
            refine g_aload_n cx dX7_growJumps_41 rfl ?_
            refine g_getR cx lk_X7_27 rfl (Nat.le_of_ble_eq_true rfl) rfl dX7_growJumps_42 (v := 13) (pst hP 10 rfl) ?_
            refine g_iload_n cx dX7_growJumps_45 rfl ?_
            obtain ⟨hc16, h⟩ := h
            refine g_iald cx dX7_growJumps_46 rfl hc16 (x := (I12 13 ((y3).toNatClampNeg))) rfl ?_
            refine g_aload_n cx dX7_growJumps_47 rfl ?_
            refine g_aload_n cx dX7_growJumps_48 rfl ?_
            refine g_iload_n cx dX7_growJumps_49 rfl ?_
            refine g_iconst cx dX7_growJumps_50 ic_0 ?_
            refine g_wVi cx [.ref y1, .int y3, .int 0] [.int (I12 13 ((y3).toNatClampNeg))] (e_X7_leadsTo hP h) mt_X7_leadsTo ml_X7_149 rfl rfl rfl dX7_growJumps_51 rfl rfl (Nat.le_of_ble_eq_true rfl) (Nat.le_of_ble_eq_true rfl) (Nat.le_of_ble_eq_true rfl) (fun v17 I17 P17 hP h => ?_)
            refine g_wSi cx [.int (I12 13 ((y3).toNatClampNeg)), .int v17] [] (e_X7_reaches hP h) mt_X7_reaches ml_X7_153 dX7_growJumps_54 rfl rfl (Nat.le_of_ble_eq_true rfl) (Nat.le_of_ble_eq_true rfl) (Nat.le_of_ble_eq_true rfl) (fun v18 I18 P18 hP h => ?_)
            refine g_if_ne cx (tgt := 69) dX7_growJumps_57 rfl (fun c19 => ?_) (fun c19 => ?_)
            · have h := zifn c19 h
              exact gj_X7_growJumps_69 cx hE ih hP h
            · have h := zifp c19 h
              refine g_aload_n cx dX7_growJumps_60 rfl ?_
              refine g_getR cx lk_X7_36 rfl (Nat.le_of_ble_eq_true rfl) rfl dX7_growJumps_61 (v := 16) (pst hP 13 rfl) ?_
              refine g_iload_n cx dX7_growJumps_64 rfl ?_
              refine g_iconst cx dX7_growJumps_65 ic_1 ?_
              obtain ⟨hc20, h⟩ := h
              refine g_bast cx dX7_growJumps_66 rfl hc20 ?_
              refine g_iconst cx dX7_growJumps_67 ic_1 ?_
              refine g_istore_n cx dX7_growJumps_68 (Nat.le_of_ble_eq_true rfl) (Gx.L [.ref 7, .ref y1, .int 1, .int y3] rfl ?_)
              exact gj_X7_growJumps_69 cx hE ih hP h
def w_X7_growJumps (x1 : Nat) (I : zI) (P : zP) (K : Int32 → zI → zP → Prop) : Prop := ∃ n9, l_X7_growJumps_4 K n9 x1 0 0 I P
theorem e_X7_growJumps {x1 : Nat} {I : zI} {P : zP} {K : Int32 → zI → zP → Prop} (hP : PSt P) (h : w_X7_growJumps x1 I P K) : Ev yX7_growJumps cX7_growJumps 4 (some .boolean) 3 71 0 0 [.ref 7, .ref x1] SHy I P (zKi K) := by
  refine Ev.start [.ref 7, .ref x1, .float 0, .float 0] pn_X7 rfl (Nat.le_of_ble_eq_true rfl) rfl (fun κ cx hE => ?_)
  unfold w_X7_growJumps at h
  refine g_iconst cx dX7_growJumps_0 ic_0 ?_
  refine g_istore_n cx dX7_growJumps_1 (Nat.le_of_ble_eq_true rfl) (Gx.L [.ref 7, .ref x1, .int 0, .float 0] rfl ?_)
  refine g_iconst cx dX7_growJumps_2 ic_0 ?_
  refine g_istore_n cx dX7_growJumps_3 (Nat.le_of_ble_eq_true rfl) (Gx.L [.ref 7, .ref x1, .int 0, .int 0] rfl ?_)
  obtain ⟨n9, h⟩ := h
  exact gl_X7_growJumps_4 cx hE n9 _ _ _ _ _ hP h
def j_X7_layAll_272 (K : zI → zP → Prop) (y2 : Int32) (I : zI) (P : zP) : Prop := K (zu I 7 15 y2) P
theorem gj_X7_layAll_272 {κ : zX} (cx : Cx yX7_layAll cX7_layAll 5 none 2 46 κ) {K : zI → zP → Prop} (hE : zEnd (zKv K) 0 0 κ) {y2 : Int32} {I : zI} {P : zP} (hP : PSt P) (h : j_X7_layAll_272 K y2 I P) : Gx κ 272 [.ref 7, .float 0, .int y2, .float 0, .float 0] [] SHy I P 0 0 := by
  unfold j_X7_layAll_272 at h
  refine g_aload_n cx dX7_layAll_272 rfl ?_
  refine g_iload_n cx dX7_layAll_273 rfl ?_
  refine g_pI cx lk_X7_59 rfl (Nat.le_of_ble_eq_true rfl) rfl dX7_layAll_274 fi_7_15 rfl rfl ?_
  exact g_wv cx hE dX7_layAll_277 rfl hP h
def j_X7_layAll_220 (X173 : Nat → Int32 → Int32 → zI → zP → Prop) (K : zI → zP → Prop) (y1 : Nat) (y3 : Int32) (s0 : Int32) (s1 : Int32) (s2 : Int32) (I : zI) (P : zP) : Prop := X173 y1 (s2 + (s1 + s0)) (y3 + 1) (zu I 7 13 ((I 7 13) + 1)) P
theorem gj_X7_layAll_220 {κ : zX} (cx : Cx yX7_layAll cX7_layAll 5 none 2 46 κ) {K : zI → zP → Prop} (hE : zEnd (zKv K) 0 0 κ) {X173 : Nat → Int32 → Int32 → zI → zP → Prop} (hX173 : ∀ (y1 : Nat) (y2 : Int32) (y3 : Int32) (I : zI) (P : zP), PSt P → X173 y1 y2 y3 I P → Gx κ 173 [.ref 7, .ref y1, .int y2, .int y3, .float 0] [] SHy I P 0 0) {y1 : Nat} {y3 : Int32} {s0 : Int32} {s1 : Int32} {s2 : Int32} {I : zI} {P : zP} (hP : PSt P) (h : j_X7_layAll_220 X173 K y1 y3 s0 s1 s2 I P) : Gx κ 220 [.ref 7, .ref y1, .float 0, .int y3, .float 0] [.int s0, .int s1, .int s2] SHy I P 0 0 := by
  unfold j_X7_layAll_220 at h
  refine g_iadd cx dX7_layAll_220 ?_
  refine g_iadd cx dX7_layAll_221 ?_
  refine g_istore_n cx dX7_layAll_222 (Nat.le_of_ble_eq_true rfl) (Gx.L [.ref 7, .ref y1, .int (s2 + (s1 + s0)), .int y3, .float 0] rfl ?_)
  refine g_aload_n cx dX7_layAll_223 rfl ?_
  refine g_dup cx dX7_layAll_224 rfl ?_
  refine g_getI cx lk_X7_53 rfl (Nat.le_of_ble_eq_true rfl) rfl dX7_layAll_225 (x := (I 7 13)) rfl ?_
  refine g_iconst cx dX7_layAll_228 ic_1 ?_
  refine g_iadd cx dX7_layAll_229 ?_
  refine g_pI cx lk_X7_53 rfl (Nat.le_of_ble_eq_true rfl) rfl dX7_layAll_230 fi_7_13 rfl rfl ?_
  refine g_iinc cx (v := (y3 + 1)) dX7_layAll_233 rfl rfl (Nat.le_of_ble_eq_true rfl) (Gx.L [.ref 7, .ref y1, .int (s2 + (s1 + s0)), .int (y3 + 1), .float 0] rfl ?_)
  refine g_goto cx (tgt := 173) dX7_layAll_236 rfl ?_
  exact hX173 _ _ _ _ _ hP h
def l_X7_layAll_173 (K : zI → zP → Prop) : Nat → Nat → Int32 → Int32 → zI → zP → Prop
  | 0, _, _, _, _, _ => False
  | n + 1, y1, y2, y3, I, P => SHy[y1]? = some (3, 11) ∧ (if (I y1 10) ≤ y3 then (if (I 7 12) ≤ 0 then (j_X7_layAll_272 K y2 (zu I 7 14 y2) P) else (j_X7_layAll_272 K (y2 + ((2 * (I 7 12)) + 1)) (zu (zu I 7 14 y2) 7 13 ((I 7 13) + 1)) P)) else (w_X7_caughtAt y1 y3 I P (fun (v4 : Int32) (I4 : zI) (P4 : zP) => (if v4 ≤ 0 then ((l_X7_layAll_173 K n) y1 y2 (y3 + 1) I4 P4) else (vp_in y3 8 ∧ (vp_in y3 8 ∧ (if ((zu I4 15 ((y3).toNatClampNeg) y2) 18 ((y3).toNatClampNeg)) = 0 then (j_X7_layAll_220 (l_X7_layAll_173 K n) K y1 y3 2 (2 * v4) y2 (zu I4 15 ((y3).toNatClampNeg) y2) P4) else (j_X7_layAll_220 (l_X7_layAll_173 K n) K y1 y3 3 (2 * v4) y2 (zu I4 15 ((y3).toNatClampNeg) y2) P4))))))))
theorem gl_X7_layAll_173 {κ : zX} (cx : Cx yX7_layAll cX7_layAll 5 none 2 46 κ) {K : zI → zP → Prop} (hE : zEnd (zKv K) 0 0 κ) : ∀ (n : Nat) (y1 : Nat) (y2 : Int32) (y3 : Int32) (I : zI) (P : zP), PSt P → l_X7_layAll_173 K n y1 y2 y3 I P → Gx κ 173 [.ref 7, .ref y1, .int y2, .int y3, .float 0] [] SHy I P 0 0 := by
  intro n
  induction n with
  | zero =>
    intro y1 y2 y3 I P hP h
    rw [l_X7_layAll_173] at h
    exact False.elim h
  | succ n ih =>
    intro y1 y2 y3 I P hP h
    rw [l_X7_layAll_173] at h
    refine g_iload_n cx dX7_layAll_173 rfl ?_
    refine g_aload_n cx dX7_layAll_174 rfl ?_
    obtain ⟨hs1, h⟩ := h
    refine g_getI cx lk_X7_125 hs1 (Nat.le_of_ble_eq_true rfl) rfl dX7_layAll_175 (x := (I y1 10)) rfl ?_
    refine g_icmp_ge cx (tgt := 239) dX7_layAll_178 rfl (fun c2 => ?_) (fun c2 => ?_)
    · have h := zifp c2 h
      refine g_aload_n cx dX7_layAll_239 rfl ?_
      refine g_iload_n cx dX7_layAll_240 rfl ?_
      refine g_pI cx lk_X7_56 rfl (Nat.le_of_ble_eq_true rfl) rfl dX7_layAll_241 fi_7_14 rfl rfl ?_
      refine g_aload_n cx dX7_layAll_244 rfl ?_
      refine g_getI cx lk_X7_50 rfl (Nat.le_of_ble_eq_true rfl) rfl dX7_layAll_245 (x := (I 7 12)) rfl ?_
      refine g_if_le cx (tgt := 272) dX7_layAll_248 rfl (fun c3 => ?_) (fun c3 => ?_)
      · have h := zifp c3 h
        refine (Gx.unset 1 (Gx.unset 3 (Gx.L [.ref 7, .float 0, .int y2, .float 0, .float 0] rfl ?_)))
        exact gj_X7_layAll_272 cx hE hP h
      · have h := zifn c3 h
        refine g_iload_n cx dX7_layAll_251 rfl ?_
        refine g_iconst cx dX7_layAll_252 ic_2 ?_
        refine g_aload_n cx dX7_layAll_253 rfl ?_
        refine g_getI cx lk_X7_50 rfl (Nat.le_of_ble_eq_true rfl) rfl dX7_layAll_254 (x := (I 7 12)) rfl ?_
        refine g_imul cx dX7_layAll_257 ?_
        refine g_iconst cx dX7_layAll_258 ic_1 ?_
        refine g_iadd cx dX7_layAll_259 ?_
        refine g_iadd cx dX7_layAll_260 ?_
        refine g_istore_n cx dX7_layAll_261 (Nat.le_of_ble_eq_true rfl) (Gx.L [.ref 7, .ref y1, .int (y2 + ((2 * (I 7 12)) + 1)), .int y3, .float 0] rfl ?_)
        refine g_aload_n cx dX7_layAll_262 rfl ?_
        refine g_dup cx dX7_layAll_263 rfl ?_
        refine g_getI cx lk_X7_53 rfl (Nat.le_of_ble_eq_true rfl) rfl dX7_layAll_264 (x := (I 7 13)) rfl ?_
        refine g_iconst cx dX7_layAll_267 ic_1 ?_
        refine g_iadd cx dX7_layAll_268 ?_
        refine g_pI cx lk_X7_53 rfl (Nat.le_of_ble_eq_true rfl) rfl dX7_layAll_269 fi_7_13 rfl rfl ?_
        refine (Gx.unset 1 (Gx.unset 3 (Gx.L [.ref 7, .float 0, .int (y2 + ((2 * (I 7 12)) + 1)), .float 0, .float 0] rfl ?_)))
        exact gj_X7_layAll_272 cx hE hP h
    · have h := zifn c2 h
      refine g_aload_n cx dX7_layAll_181 rfl ?_
      refine g_aload_n cx dX7_layAll_182 rfl ?_
      refine g_iload_n cx dX7_layAll_183 rfl ?_
      refine g_wVi cx [.ref y1, .int y3] [] (e_X7_caughtAt hP h) mt_X7_caughtAt ml_X7_128 rfl rfl rfl dX7_layAll_184 rfl rfl (Nat.le_of_ble_eq_true rfl) (Nat.le_of_ble_eq_true rfl) (Nat.le_of_ble_eq_true rfl) (fun v4 I4 P4 hP h => ?_)
      refine g_istore cx dX7_layAll_187 (Nat.le_of_ble_eq_true rfl) (Gx.L [.ref 7, .ref y1, .int y2, .int y3, .int v4] rfl ?_)
      refine g_iload cx dX7_layAll_189 rfl ?_
      refine g_if_le cx (tgt := 233) dX7_layAll_191 rfl (fun c5 => ?_) (fun c5 => ?_)
      · have h := zifp c5 h
        refine g_iinc cx (v := (y3 + 1)) dX7_layAll_233 rfl rfl (Nat.le_of_ble_eq_true rfl) (Gx.L [.ref 7, .ref y1, .int y2, .int (y3 + 1), .int v4] rfl ?_)
        refine g_goto cx (tgt := 173) dX7_layAll_236 rfl ?_
        refine (Gx.unset 4 (Gx.L [.ref 7, .ref y1, .int y2, .int (y3 + 1), .float 0] rfl ?_))
        exact ih _ _ _ _ _ hP h
      · have h := zifn c5 h
        refine g_aload_n cx dX7_layAll_194 rfl ?_
        refine g_getR cx lk_X7_33 rfl (Nat.le_of_ble_eq_true rfl) rfl dX7_layAll_195 (v := 15) (pst hP 12 rfl) ?_
        refine g_iload_n cx dX7_layAll_198 rfl ?_
        refine g_iload_n cx dX7_layAll_199 rfl ?_
        obtain ⟨hc6, h⟩ := h
        refine g_iast cx dX7_layAll_200 rfl hc6 ?_
        refine g_iload_n cx dX7_layAll_201 rfl ?_
        refine g_iconst cx dX7_layAll_202 ic_2 ?_
        refine g_iload cx dX7_layAll_203 rfl ?_
        refine g_imul cx dX7_layAll_205 ?_
        refine g_aload_n cx dX7_layAll_206 rfl ?_
        refine g_getR cx lk_X7_43 rfl (Nat.le_of_ble_eq_true rfl) rfl dX7_layAll_207 (v := 18) (pst hP 15 rfl) ?_
        refine g_iload_n cx dX7_layAll_210 rfl ?_
        obtain ⟨hc7, h⟩ := h
        refine g_bald cx dX7_layAll_211 rfl hc7 (x := ((zu I4 15 ((y3).toNatClampNeg) y2) 18 ((y3).toNatClampNeg))) rfl ?_
        refine g_if_eq cx (tgt := 219) dX7_layAll_212 rfl (fun c8 => ?_) (fun c8 => ?_)
        · have h := zifp c8 h
          refine g_iconst cx dX7_layAll_219 ic_2 ?_
          refine (Gx.unset 2 (Gx.unset 4 (Gx.L [.ref 7, .ref y1, .float 0, .int y3, .float 0] rfl ?_)))
          exact gj_X7_layAll_220 cx hE ih hP h
        · have h := zifn c8 h
          refine g_iconst cx dX7_layAll_215 ic_3 ?_
          refine g_goto cx (tgt := 220) dX7_layAll_216 rfl ?_
          refine (Gx.unset 2 (Gx.unset 4 (Gx.L [.ref 7, .ref y1, .float 0, .int y3, .float 0] rfl ?_)))
          exact gj_X7_layAll_220 cx hE ih hP h
def j_X7_layAll_152 (X105 : Nat → Int32 → Int32 → zI → zP → Prop) (K : zI → zP → Prop) (y1 : Nat) (y3 : Int32) (s0 : Int32) (s1 : Int32) (s2 : Int32) (I : zI) (P : zP) : Prop := X105 y1 (s2 + (s1 + s0)) (y3 + 1) (zu I 7 13 ((I 7 13) + 1)) P
theorem gj_X7_layAll_152 {κ : zX} (cx : Cx yX7_layAll cX7_layAll 5 none 2 46 κ) {K : zI → zP → Prop} (hE : zEnd (zKv K) 0 0 κ) {X105 : Nat → Int32 → Int32 → zI → zP → Prop} (hX105 : ∀ (y1 : Nat) (y2 : Int32) (y3 : Int32) (I : zI) (P : zP), PSt P → X105 y1 y2 y3 I P → Gx κ 105 [.ref 7, .ref y1, .int y2, .int y3, .float 0] [] SHy I P 0 0) {y1 : Nat} {y3 : Int32} {s0 : Int32} {s1 : Int32} {s2 : Int32} {I : zI} {P : zP} (hP : PSt P) (h : j_X7_layAll_152 X105 K y1 y3 s0 s1 s2 I P) : Gx κ 152 [.ref 7, .ref y1, .float 0, .int y3, .float 0] [.int s0, .int s1, .int s2] SHy I P 0 0 := by
  unfold j_X7_layAll_152 at h
  refine g_iadd cx dX7_layAll_152 ?_
  refine g_iadd cx dX7_layAll_153 ?_
  refine g_istore_n cx dX7_layAll_154 (Nat.le_of_ble_eq_true rfl) (Gx.L [.ref 7, .ref y1, .int (s2 + (s1 + s0)), .int y3, .float 0] rfl ?_)
  refine g_aload_n cx dX7_layAll_155 rfl ?_
  refine g_dup cx dX7_layAll_156 rfl ?_
  refine g_getI cx lk_X7_53 rfl (Nat.le_of_ble_eq_true rfl) rfl dX7_layAll_157 (x := (I 7 13)) rfl ?_
  refine g_iconst cx dX7_layAll_160 ic_1 ?_
  refine g_iadd cx dX7_layAll_161 ?_
  refine g_pI cx lk_X7_53 rfl (Nat.le_of_ble_eq_true rfl) rfl dX7_layAll_162 fi_7_13 rfl rfl ?_
  refine g_iinc cx (v := (y3 + 1)) dX7_layAll_165 rfl rfl (Nat.le_of_ble_eq_true rfl) (Gx.L [.ref 7, .ref y1, .int (s2 + (s1 + s0)), .int (y3 + 1), .float 0] rfl ?_)
  refine g_goto cx (tgt := 105) dX7_layAll_168 rfl ?_
  exact hX105 _ _ _ _ _ hP h
def l_X7_layAll_105 (K : zI → zP → Prop) : Nat → Nat → Int32 → Int32 → zI → zP → Prop
  | 0, _, _, _, _, _ => False
  | n + 1, y1, y2, y3, I, P => SHy[y1]? = some (3, 11) ∧ (if (I y1 9) ≤ y3 then (∃ n9, l_X7_layAll_173 K n9 y1 y2 0 I P) else (vp_in y3 400 ∧ (if (I 10 ((y3).toNatClampNeg)) ≤ 0 then ((l_X7_layAll_105 K n) y1 y2 (y3 + 1) I P) else (vp_in y3 400 ∧ (vp_in y3 400 ∧ (vp_in y3 400 ∧ (if ((zu I 14 ((y3).toNatClampNeg) y2) 17 ((y3).toNatClampNeg)) = 0 then (j_X7_layAll_152 (l_X7_layAll_105 K n) K y1 y3 2 (3 * ((zu I 14 ((y3).toNatClampNeg) y2) 10 ((y3).toNatClampNeg))) y2 (zu I 14 ((y3).toNatClampNeg) y2) P) else (j_X7_layAll_152 (l_X7_layAll_105 K n) K y1 y3 3 (3 * ((zu I 14 ((y3).toNatClampNeg) y2) 10 ((y3).toNatClampNeg))) y2 (zu I 14 ((y3).toNatClampNeg) y2) P))))))))
theorem gl_X7_layAll_105 {κ : zX} (cx : Cx yX7_layAll cX7_layAll 5 none 2 46 κ) {K : zI → zP → Prop} (hE : zEnd (zKv K) 0 0 κ) : ∀ (n : Nat) (y1 : Nat) (y2 : Int32) (y3 : Int32) (I : zI) (P : zP), PSt P → l_X7_layAll_105 K n y1 y2 y3 I P → Gx κ 105 [.ref 7, .ref y1, .int y2, .int y3, .float 0] [] SHy I P 0 0 := by
  intro n
  induction n with
  | zero =>
    intro y1 y2 y3 I P hP h
    rw [l_X7_layAll_105] at h
    exact False.elim h
  | succ n ih =>
    intro y1 y2 y3 I P hP h
    rw [l_X7_layAll_105] at h
    refine g_iload_n cx dX7_layAll_105 rfl ?_
    refine g_aload_n cx dX7_layAll_106 rfl ?_
    obtain ⟨hs1, h⟩ := h
    refine g_getI cx lk_X7_116 hs1 (Nat.le_of_ble_eq_true rfl) rfl dX7_layAll_107 (x := (I y1 9)) rfl ?_
    refine g_icmp_ge cx (tgt := 171) dX7_layAll_110 rfl (fun c2 => ?_) (fun c2 => ?_)
    · have h := zifp c2 h
      refine g_iconst cx dX7_layAll_171 ic_0 ?_
      refine g_istore_n cx dX7_layAll_172 (Nat.le_of_ble_eq_true rfl) (Gx.L [.ref 7, .ref y1, .int y2, .int 0, .float 0] rfl ?_)
      obtain ⟨n9, h⟩ := h
      exact gl_X7_layAll_173 cx hE n9 _ _ _ _ _ hP h
    · have h := zifn c2 h
      refine g_aload_n cx dX7_layAll_113 rfl ?_
      refine g_getR cx lk_X7_18 rfl (Nat.le_of_ble_eq_true rfl) rfl dX7_layAll_114 (v := 10) (pst hP 7 rfl) ?_
      refine g_iload_n cx dX7_layAll_117 rfl ?_
      obtain ⟨hc3, h⟩ := h
      refine g_iald cx dX7_layAll_118 rfl hc3 (x := (I 10 ((y3).toNatClampNeg))) rfl ?_
      refine g_if_le cx (tgt := 165) dX7_layAll_119 rfl (fun c4 => ?_) (fun c4 => ?_)
      · have h := zifp c4 h
        refine g_iinc cx (v := (y3 + 1)) dX7_layAll_165 rfl rfl (Nat.le_of_ble_eq_true rfl) (Gx.L [.ref 7, .ref y1, .int y2, .int (y3 + 1), .float 0] rfl ?_)
        refine g_goto cx (tgt := 105) dX7_layAll_168 rfl ?_
        exact ih _ _ _ _ _ hP h
      · have h := zifn c4 h
        refine g_aload_n cx dX7_layAll_122 rfl ?_
        refine g_getR cx lk_X7_30 rfl (Nat.le_of_ble_eq_true rfl) rfl dX7_layAll_123 (v := 14) (pst hP 11 rfl) ?_
        refine g_iload_n cx dX7_layAll_126 rfl ?_
        refine g_iload_n cx dX7_layAll_127 rfl ?_
        obtain ⟨hc5, h⟩ := h
        refine g_iast cx dX7_layAll_128 rfl hc5 ?_
        refine g_iload_n cx dX7_layAll_129 rfl ?_
        refine g_iconst cx dX7_layAll_130 ic_3 ?_
        refine g_aload_n cx dX7_layAll_131 rfl ?_
        refine g_getR cx lk_X7_18 rfl (Nat.le_of_ble_eq_true rfl) rfl dX7_layAll_132 (v := 10) (pst hP 7 rfl) ?_
        refine g_iload_n cx dX7_layAll_135 rfl ?_
        obtain ⟨hc6, h⟩ := h
        refine g_iald cx dX7_layAll_136 rfl hc6 (x := ((zu I 14 ((y3).toNatClampNeg) y2) 10 ((y3).toNatClampNeg))) rfl ?_
        refine g_imul cx dX7_layAll_137 ?_
        refine g_aload_n cx dX7_layAll_138 rfl ?_
        refine g_getR cx lk_X7_40 rfl (Nat.le_of_ble_eq_true rfl) rfl dX7_layAll_139 (v := 17) (pst hP 14 rfl) ?_
        refine g_iload_n cx dX7_layAll_142 rfl ?_
        obtain ⟨hc7, h⟩ := h
        refine g_bald cx dX7_layAll_143 rfl hc7 (x := ((zu I 14 ((y3).toNatClampNeg) y2) 17 ((y3).toNatClampNeg))) rfl ?_
        refine g_if_eq cx (tgt := 151) dX7_layAll_144 rfl (fun c8 => ?_) (fun c8 => ?_)
        · have h := zifp c8 h
          refine g_iconst cx dX7_layAll_151 ic_2 ?_
          refine (Gx.unset 2 (Gx.L [.ref 7, .ref y1, .float 0, .int y3, .float 0] rfl ?_))
          exact gj_X7_layAll_152 cx hE ih hP h
        · have h := zifn c8 h
          refine g_iconst cx dX7_layAll_147 ic_3 ?_
          refine g_goto cx (tgt := 152) dX7_layAll_148 rfl ?_
          refine (Gx.unset 2 (Gx.L [.ref 7, .ref y1, .float 0, .int y3, .float 0] rfl ?_))
          exact gj_X7_layAll_152 cx hE ih hP h
def j_X7_layAll_73 (X9 : Nat → Int32 → Int32 → zI → zP → Prop) (K : zI → zP → Prop) (y1 : Nat) (y3 : Int32) (s0 : Int32) (s1 : Int32) (I : zI) (P : zP) : Prop := vp_in y3 400 ∧ (X9 y1 ((s1 + s0) + (I 9 ((y3).toNatClampNeg))) (y3 + 1) I P)
theorem gj_X7_layAll_73 {κ : zX} (cx : Cx yX7_layAll cX7_layAll 5 none 2 46 κ) {K : zI → zP → Prop} (hE : zEnd (zKv K) 0 0 κ) {X9 : Nat → Int32 → Int32 → zI → zP → Prop} (hX9 : ∀ (y1 : Nat) (y2 : Int32) (y3 : Int32) (I : zI) (P : zP), PSt P → X9 y1 y2 y3 I P → Gx κ 9 [.ref 7, .ref y1, .int y2, .int y3, .float 0] [] SHy I P 0 0) {y1 : Nat} {y3 : Int32} {s0 : Int32} {s1 : Int32} {I : zI} {P : zP} (hP : PSt P) (h : j_X7_layAll_73 X9 K y1 y3 s0 s1 I P) : Gx κ 73 [.ref 7, .ref y1, .float 0, .int y3, .float 0] [.int s0, .int s1] SHy I P 0 0 := by
  unfold j_X7_layAll_73 at h
  refine g_iadd cx dX7_layAll_73 ?_
  refine g_aload_n cx dX7_layAll_74 rfl ?_
  refine g_getR cx lk_X7_15 rfl (Nat.le_of_ble_eq_true rfl) rfl dX7_layAll_75 (v := 9) (pst hP 6 rfl) ?_
  refine g_iload_n cx dX7_layAll_78 rfl ?_
  obtain ⟨hc1, h⟩ := h
  refine g_iald cx dX7_layAll_79 rfl hc1 (x := (I 9 ((y3).toNatClampNeg))) rfl ?_
  refine g_iadd cx dX7_layAll_80 ?_
  refine g_istore_n cx dX7_layAll_81 (Nat.le_of_ble_eq_true rfl) (Gx.L [.ref 7, .ref y1, .int ((s1 + s0) + (I 9 ((y3).toNatClampNeg))), .int y3, .float 0] rfl ?_)
  refine g_iinc cx (v := (y3 + 1)) dX7_layAll_82 rfl rfl (Nat.le_of_ble_eq_true rfl) (Gx.L [.ref 7, .ref y1, .int ((s1 + s0) + (I 9 ((y3).toNatClampNeg))), .int (y3 + 1), .float 0] rfl ?_)
  refine g_goto cx (tgt := 9) dX7_layAll_85 rfl ?_
  exact hX9 _ _ _ _ _ hP h
def l_X7_layAll_9 (K : zI → zP → Prop) : Nat → Nat → Int32 → Int32 → zI → zP → Prop
  | 0, _, _, _, _, _ => False
  | n + 1, y1, y2, y3, I, P => SHy[y1]? = some (3, 11) ∧ (if (I y1 9) ≤ y3 then (vp_in (I y1 9) 401 ∧ (∃ n9, l_X7_layAll_105 K n9 y1 y2 0 (zu (zu I 12 (((I y1 9)).toNatClampNeg) y2) 7 13 0) P)) else (w_X3_beginsAt y1 y3 I P (fun (v4 : Int32) (I4 : zI) (P4 : zP) => (if v4 = 0 then ((l_X7_layAll_9 K n) y1 y2 (y3 + 1) I4 P4) else (vp_in y3 401 ∧ (vp_in y3 400 ∧ (vp_in y3 400 ∧ (vp_in y3 400 ∧ (∃ v10, P4 y1 2 = some v10 ∧ (SHy[v10]? = some (11, (zlen v10)) ∧ (vp_in y3 (zlen v10) ∧ (vp_in y3 400 ∧ (if ((zu (zu I4 12 ((y3).toNatClampNeg) y2) 13 ((y3).toNatClampNeg) (y2 + ((zu I4 12 ((y3).toNatClampNeg) y2) 8 ((y3).toNatClampNeg)))) 16 ((y3).toNatClampNeg)) = 0 then (j_X7_layAll_73 (l_X7_layAll_9 K n) K y1 y3 0 (((zu (zu I4 12 ((y3).toNatClampNeg) y2) 13 ((y3).toNatClampNeg) (y2 + ((zu I4 12 ((y3).toNatClampNeg) y2) 8 ((y3).toNatClampNeg)))) 13 ((y3).toNatClampNeg)) + ((zu (zu I4 12 ((y3).toNatClampNeg) y2) 13 ((y3).toNatClampNeg) (y2 + ((zu I4 12 ((y3).toNatClampNeg) y2) 8 ((y3).toNatClampNeg)))) v10 ((y3).toNatClampNeg))) (zu (zu I4 12 ((y3).toNatClampNeg) y2) 13 ((y3).toNatClampNeg) (y2 + ((zu I4 12 ((y3).toNatClampNeg) y2) 8 ((y3).toNatClampNeg)))) P4) else (j_X7_layAll_73 (l_X7_layAll_9 K n) K y1 y3 1 (((zu (zu I4 12 ((y3).toNatClampNeg) y2) 13 ((y3).toNatClampNeg) (y2 + ((zu I4 12 ((y3).toNatClampNeg) y2) 8 ((y3).toNatClampNeg)))) 13 ((y3).toNatClampNeg)) + ((zu (zu I4 12 ((y3).toNatClampNeg) y2) 13 ((y3).toNatClampNeg) (y2 + ((zu I4 12 ((y3).toNatClampNeg) y2) 8 ((y3).toNatClampNeg)))) v10 ((y3).toNatClampNeg))) (zu (zu I4 12 ((y3).toNatClampNeg) y2) 13 ((y3).toNatClampNeg) (y2 + ((zu I4 12 ((y3).toNatClampNeg) y2) 8 ((y3).toNatClampNeg)))) P4))))))))))))))
theorem gl_X7_layAll_9 {κ : zX} (cx : Cx yX7_layAll cX7_layAll 5 none 2 46 κ) {K : zI → zP → Prop} (hE : zEnd (zKv K) 0 0 κ) : ∀ (n : Nat) (y1 : Nat) (y2 : Int32) (y3 : Int32) (I : zI) (P : zP), PSt P → l_X7_layAll_9 K n y1 y2 y3 I P → Gx κ 9 [.ref 7, .ref y1, .int y2, .int y3, .float 0] [] SHy I P 0 0 := by
  intro n
  induction n with
  | zero =>
    intro y1 y2 y3 I P hP h
    rw [l_X7_layAll_9] at h
    exact False.elim h
  | succ n ih =>
    intro y1 y2 y3 I P hP h
    rw [l_X7_layAll_9] at h
    refine g_iload_n cx dX7_layAll_9 rfl ?_
    refine g_aload_n cx dX7_layAll_10 rfl ?_
    obtain ⟨hs1, h⟩ := h
    refine g_getI cx lk_X7_116 hs1 (Nat.le_of_ble_eq_true rfl) rfl dX7_layAll_11 (x := (I y1 9)) rfl ?_
    refine g_icmp_ge cx (tgt := 88) dX7_layAll_14 rfl (fun c2 => ?_) (fun c2 => ?_)
    · have h := zifp c2 h
      refine g_aload_n cx dX7_layAll_88 rfl ?_
      refine g_getR cx lk_X7_24 rfl (Nat.le_of_ble_eq_true rfl) rfl dX7_layAll_89 (v := 12) (pst hP 9 rfl) ?_
      refine g_aload_n cx dX7_layAll_92 rfl ?_
      refine g_getI cx lk_X7_116 hs1 (Nat.le_of_ble_eq_true rfl) rfl dX7_layAll_93 (x := (I y1 9)) rfl ?_
      refine g_iload_n cx dX7_layAll_96 rfl ?_
      obtain ⟨hc3, h⟩ := h
      refine g_iast cx dX7_layAll_97 rfl hc3 ?_
      refine g_aload_n cx dX7_layAll_98 rfl ?_
      refine g_iconst cx dX7_layAll_99 ic_0 ?_
      refine g_pI cx lk_X7_53 rfl (Nat.le_of_ble_eq_true rfl) rfl dX7_layAll_100 fi_7_13 rfl rfl ?_
      refine g_iconst cx dX7_layAll_103 ic_0 ?_
      refine g_istore_n cx dX7_layAll_104 (Nat.le_of_ble_eq_true rfl) (Gx.L [.ref 7, .ref y1, .int y2, .int 0, .float 0] rfl ?_)
      obtain ⟨n9, h⟩ := h
      exact gl_X7_layAll_105 cx hE n9 _ _ _ _ _ hP h
    · have h := zifn c2 h
      refine g_aload_n cx dX7_layAll_17 rfl ?_
      refine g_iload_n cx dX7_layAll_18 rfl ?_
      refine g_wVi cx [.int y3] [] (e_X3_beginsAt hP h) mt_X3_beginsAt ml_X7_105 hs1 rfl rfl dX7_layAll_19 rfl rfl (Nat.le_of_ble_eq_true rfl) (Nat.le_of_ble_eq_true rfl) (Nat.le_of_ble_eq_true rfl) (fun v4 I4 P4 hP h => ?_)
      refine g_if_eq cx (tgt := 82) dX7_layAll_22 rfl (fun c5 => ?_) (fun c5 => ?_)
      · have h := zifp c5 h
        refine g_iinc cx (v := (y3 + 1)) dX7_layAll_82 rfl rfl (Nat.le_of_ble_eq_true rfl) (Gx.L [.ref 7, .ref y1, .int y2, .int (y3 + 1), .float 0] rfl ?_)
        refine g_goto cx (tgt := 9) dX7_layAll_85 rfl ?_
        exact ih _ _ _ _ _ hP h
      · have h := zifn c5 h
        refine g_aload_n cx dX7_layAll_25 rfl ?_
        refine g_getR cx lk_X7_24 rfl (Nat.le_of_ble_eq_true rfl) rfl dX7_layAll_26 (v := 12) (pst hP 9 rfl) ?_
        refine g_iload_n cx dX7_layAll_29 rfl ?_
        refine g_iload_n cx dX7_layAll_30 rfl ?_
        obtain ⟨hc6, h⟩ := h
        refine g_iast cx dX7_layAll_31 rfl hc6 ?_
        refine g_aload_n cx dX7_layAll_32 rfl ?_
        refine g_getR cx lk_X7_27 rfl (Nat.le_of_ble_eq_true rfl) rfl dX7_layAll_33 (v := 13) (pst hP 10 rfl) ?_
        refine g_iload_n cx dX7_layAll_36 rfl ?_
        refine g_iload_n cx dX7_layAll_37 rfl ?_
        refine g_aload_n cx dX7_layAll_38 rfl ?_
        refine g_getR cx lk_X7_9 rfl (Nat.le_of_ble_eq_true rfl) rfl dX7_layAll_39 (v := 8) (pst hP 5 rfl) ?_
        refine g_iload_n cx dX7_layAll_42 rfl ?_
        obtain ⟨hc7, h⟩ := h
        refine g_iald cx dX7_layAll_43 rfl hc7 (x := ((zu I4 12 ((y3).toNatClampNeg) y2) 8 ((y3).toNatClampNeg))) rfl ?_
        refine g_iadd cx dX7_layAll_44 ?_
        obtain ⟨hc8, h⟩ := h
        refine g_iast cx dX7_layAll_45 rfl hc8 ?_
        refine g_aload_n cx dX7_layAll_46 rfl ?_
        refine g_getR cx lk_X7_27 rfl (Nat.le_of_ble_eq_true rfl) rfl dX7_layAll_47 (v := 13) (pst hP 10 rfl) ?_
        refine g_iload_n cx dX7_layAll_50 rfl ?_
        obtain ⟨hc9, h⟩ := h
        refine g_iald cx dX7_layAll_51 rfl hc9 (x := ((zu (zu I4 12 ((y3).toNatClampNeg) y2) 13 ((y3).toNatClampNeg) (y2 + ((zu I4 12 ((y3).toNatClampNeg) y2) 8 ((y3).toNatClampNeg)))) 13 ((y3).toNatClampNeg))) rfl ?_
        refine g_aload_n cx dX7_layAll_52 rfl ?_
        obtain ⟨v10, hv11, h⟩ := h
        refine g_getR cx lk_X7_122 hs1 (Nat.le_of_ble_eq_true rfl) rfl dX7_layAll_53 hv11 ?_
        refine g_iload_n cx dX7_layAll_56 rfl ?_
        obtain ⟨hs12, h⟩ := h
        obtain ⟨hc13, h⟩ := h
        refine g_iald cx dX7_layAll_57 hs12 hc13 (x := ((zu (zu I4 12 ((y3).toNatClampNeg) y2) 13 ((y3).toNatClampNeg) (y2 + ((zu I4 12 ((y3).toNatClampNeg) y2) 8 ((y3).toNatClampNeg)))) v10 ((y3).toNatClampNeg))) rfl ?_
        refine g_iadd cx dX7_layAll_58 ?_
        refine Gx.N 59 rfl ?_
        refine g_aload_n cx dX7_layAll_59 rfl ?_
        refine g_getR cx lk_X7_36 rfl (Nat.le_of_ble_eq_true rfl) rfl dX7_layAll_60 (v := 16) (pst hP 13 rfl) ?_
        refine g_iload_n cx dX7_layAll_63 rfl ?_
        obtain ⟨hc14, h⟩ := h
        refine g_bald cx dX7_layAll_64 rfl hc14 (x := ((zu (zu I4 12 ((y3).toNatClampNeg) y2) 13 ((y3).toNatClampNeg) (y2 + ((zu I4 12 ((y3).toNatClampNeg) y2) 8 ((y3).toNatClampNeg)))) 16 ((y3).toNatClampNeg))) rfl ?_
        refine g_if_eq cx (tgt := 72) dX7_layAll_65 rfl (fun c15 => ?_) (fun c15 => ?_)
        · have h := zifp c15 h
          refine g_iconst cx dX7_layAll_72 ic_0 ?_
          refine (Gx.unset 2 (Gx.L [.ref 7, .ref y1, .float 0, .int y3, .float 0] rfl ?_))
          exact gj_X7_layAll_73 cx hE ih hP h
        · have h := zifn c15 h
          refine g_iconst cx dX7_layAll_68 ic_1 ?_
          refine g_goto cx (tgt := 73) dX7_layAll_69 rfl ?_
          refine (Gx.unset 2 (Gx.L [.ref 7, .ref y1, .float 0, .int y3, .float 0] rfl ?_))
          exact gj_X7_layAll_73 cx hE ih hP h
def w_X7_layAll (x1 : Nat) (I : zI) (P : zP) (K : zI → zP → Prop) : Prop := ∃ n9, l_X7_layAll_9 K n9 x1 (2 * (I 7 11)) 0 I P
theorem e_X7_layAll {x1 : Nat} {I : zI} {P : zP} {K : zI → zP → Prop} (hP : PSt P) (h : w_X7_layAll x1 I P K) : Ev yX7_layAll cX7_layAll 5 none 2 46 0 0 [.ref 7, .ref x1] SHy I P (zKv K) := by
  refine Ev.start [.ref 7, .ref x1, .float 0, .float 0, .float 0] pn_X7 rfl (Nat.le_of_ble_eq_true rfl) rfl (fun κ cx hE => ?_)
  unfold w_X7_layAll at h
  refine g_iconst cx dX7_layAll_0 ic_2 ?_
  refine g_aload_n cx dX7_layAll_1 rfl ?_
  refine g_getI cx lk_X7_46 rfl (Nat.le_of_ble_eq_true rfl) rfl dX7_layAll_2 (x := (I 7 11)) rfl ?_
  refine g_imul cx dX7_layAll_5 ?_
  refine g_istore_n cx dX7_layAll_6 (Nat.le_of_ble_eq_true rfl) (Gx.L [.ref 7, .ref x1, .int (2 * (I 7 11)), .float 0, .float 0] rfl ?_)
  refine g_iconst cx dX7_layAll_7 ic_0 ?_
  refine g_istore_n cx dX7_layAll_8 (Nat.le_of_ble_eq_true rfl) (Gx.L [.ref 7, .ref x1, .int (2 * (I 7 11)), .int 0, .float 0] rfl ?_)
  obtain ⟨n9, h⟩ := h
  exact gl_X7_layAll_9 cx hE n9 _ _ _ _ _ hP h
def l_X7_startAnew_63 (K : zI → zP → Prop) : Nat → Int32 → zI → zP → Prop
  | 0, _, _, _ => False
  | n + 1, y1, I, P => if 8 ≤ y1 then (K (zu (zu I 7 11 0) 7 12 0) P) else (vp_in y1 8 ∧ ((l_X7_startAnew_63 K n) (y1 + 1) (zu I 18 ((y1).toNatClampNeg) (vp_nar .boolean 0)) P))
theorem gl_X7_startAnew_63 {κ : zX} (cx : Cx yX7_startAnew cX7_startAnew 2 none 1 23 κ) {K : zI → zP → Prop} (hE : zEnd (zKv K) 0 0 κ) : ∀ (n : Nat) (y1 : Int32) (I : zI) (P : zP), PSt P → l_X7_startAnew_63 K n y1 I P → Gx κ 63 [.ref 7, .int y1] [] SHy I P 0 0 := by
  intro n
  induction n with
  | zero =>
    intro y1 I P hP h
    rw [l_X7_startAnew_63] at h
    exact False.elim h
  | succ n ih =>
    intro y1 I P hP h
    rw [l_X7_startAnew_63] at h
    refine g_iload_n cx dX7_startAnew_63 rfl ?_
    refine g_bipush cx dX7_startAnew_64 bp_8 ?_
    refine g_icmp_ge cx (tgt := 82) dX7_startAnew_66 rfl (fun c1 => ?_) (fun c1 => ?_)
    · have h := zifp c1 h
      refine g_aload_n cx dX7_startAnew_82 rfl ?_
      refine g_iconst cx dX7_startAnew_83 ic_0 ?_
      refine g_pI cx lk_X7_46 rfl (Nat.le_of_ble_eq_true rfl) rfl dX7_startAnew_84 fi_7_11 rfl rfl ?_
      refine g_aload_n cx dX7_startAnew_87 rfl ?_
      refine g_iconst cx dX7_startAnew_88 ic_0 ?_
      refine g_pI cx lk_X7_50 rfl (Nat.le_of_ble_eq_true rfl) rfl dX7_startAnew_89 fi_7_12 rfl rfl ?_
      exact g_wv cx hE dX7_startAnew_92 rfl hP h
    · have h := zifn c1 h
      refine g_aload_n cx dX7_startAnew_69 rfl ?_
      refine g_getR cx lk_X7_43 rfl (Nat.le_of_ble_eq_true rfl) rfl dX7_startAnew_70 (v := 18) (pst hP 15 rfl) ?_
      refine g_iload_n cx dX7_startAnew_73 rfl ?_
      refine g_iconst cx dX7_startAnew_74 ic_0 ?_
      obtain ⟨hc2, h⟩ := h
      refine g_bast cx dX7_startAnew_75 rfl hc2 ?_
      refine g_iinc cx (v := (y1 + 1)) dX7_startAnew_76 rfl rfl (Nat.le_of_ble_eq_true rfl) (Gx.L [.ref 7, .int (y1 + 1)] rfl ?_)
      refine g_goto cx (tgt := 63) dX7_startAnew_79 rfl ?_
      exact ih _ _ _ hP h
def l_X7_startAnew_34 (K : zI → zP → Prop) : Nat → Int32 → zI → zP → Prop
  | 0, _, _, _ => False
  | n + 1, y1, I, P => if 400 ≤ y1 then (∃ n9, l_X7_startAnew_63 K n9 0 I P) else (vp_in y1 400 ∧ (vp_in y1 400 ∧ ((l_X7_startAnew_34 K n) (y1 + 1) (zu (zu I 16 ((y1).toNatClampNeg) (vp_nar .boolean 0)) 17 ((y1).toNatClampNeg) (vp_nar .boolean 0)) P)))
theorem gl_X7_startAnew_34 {κ : zX} (cx : Cx yX7_startAnew cX7_startAnew 2 none 1 23 κ) {K : zI → zP → Prop} (hE : zEnd (zKv K) 0 0 κ) : ∀ (n : Nat) (y1 : Int32) (I : zI) (P : zP), PSt P → l_X7_startAnew_34 K n y1 I P → Gx κ 34 [.ref 7, .int y1] [] SHy I P 0 0 := by
  intro n
  induction n with
  | zero =>
    intro y1 I P hP h
    rw [l_X7_startAnew_34] at h
    exact False.elim h
  | succ n ih =>
    intro y1 I P hP h
    rw [l_X7_startAnew_34] at h
    refine g_iload_n cx dX7_startAnew_34 rfl ?_
    refine g_sipush cx dX7_startAnew_35 sp_400 ?_
    refine g_icmp_ge cx (tgt := 61) dX7_startAnew_38 rfl (fun c1 => ?_) (fun c1 => ?_)
    · have h := zifp c1 h
      refine g_iconst cx dX7_startAnew_61 ic_0 ?_
      refine g_istore_n cx dX7_startAnew_62 (Nat.le_of_ble_eq_true rfl) (Gx.L [.ref 7, .int 0] rfl ?_)
      obtain ⟨n9, h⟩ := h
      exact gl_X7_startAnew_63 cx hE n9 _ _ _ hP h
    · have h := zifn c1 h
      refine g_aload_n cx dX7_startAnew_41 rfl ?_
      refine g_getR cx lk_X7_36 rfl (Nat.le_of_ble_eq_true rfl) rfl dX7_startAnew_42 (v := 16) (pst hP 13 rfl) ?_
      refine g_iload_n cx dX7_startAnew_45 rfl ?_
      refine g_iconst cx dX7_startAnew_46 ic_0 ?_
      obtain ⟨hc2, h⟩ := h
      refine g_bast cx dX7_startAnew_47 rfl hc2 ?_
      refine g_aload_n cx dX7_startAnew_48 rfl ?_
      refine g_getR cx lk_X7_40 rfl (Nat.le_of_ble_eq_true rfl) rfl dX7_startAnew_49 (v := 17) (pst hP 14 rfl) ?_
      refine g_iload_n cx dX7_startAnew_52 rfl ?_
      refine g_iconst cx dX7_startAnew_53 ic_0 ?_
      obtain ⟨hc3, h⟩ := h
      refine g_bast cx dX7_startAnew_54 rfl hc3 ?_
      refine g_iinc cx (v := (y1 + 1)) dX7_startAnew_55 rfl rfl (Nat.le_of_ble_eq_true rfl) (Gx.L [.ref 7, .int (y1 + 1)] rfl ?_)
      refine g_goto cx (tgt := 34) dX7_startAnew_58 rfl ?_
      exact ih _ _ _ hP h
def w_X7_startAnew (I : zI) (P : zP) (K : zI → zP → Prop) : Prop := w_J7_fill_53178 8 0 I P (fun (I1 : zI) (P1 : zP) => (w_J7_fill_53178 9 0 I1 P1 (fun (I2 : zI) (P2 : zP) => (w_J7_fill_53178 10 0 I2 P2 (fun (I3 : zI) (P3 : zP) => (w_J7_fill_53178 11 0 I3 P3 (fun (I4 : zI) (P4 : zP) => (∃ n9, l_X7_startAnew_34 K n9 0 I4 P4))))))))
theorem e_X7_startAnew {I : zI} {P : zP} {K : zI → zP → Prop} (hP : PSt P) (h : w_X7_startAnew I P K) : Ev yX7_startAnew cX7_startAnew 2 none 1 23 0 0 [.ref 7] SHy I P (zKv K) := by
  refine Ev.start [.ref 7, .float 0] pn_X7 rfl (Nat.le_of_ble_eq_true rfl) rfl (fun κ cx hE => ?_)
  unfold w_X7_startAnew at h
  refine g_aload_n cx dX7_startAnew_0 rfl ?_
  refine g_getR cx lk_X7_9 rfl (Nat.le_of_ble_eq_true rfl) rfl dX7_startAnew_1 (v := 8) (pst hP 5 rfl) ?_
  refine g_iconst cx dX7_startAnew_4 ic_0 ?_
  refine g_wSv cx [.ref 8, .int 0] [] (e_J7_fill_53178 hP h) mt_J7_fill_53178 ml_X7_83 dX7_startAnew_5 rfl rfl (Nat.le_of_ble_eq_true rfl) (Nat.le_of_ble_eq_true rfl) (Nat.le_of_ble_eq_true rfl) (fun I1 P1 hP h => ?_)
  refine g_aload_n cx dX7_startAnew_8 rfl ?_
  refine g_getR cx lk_X7_15 rfl (Nat.le_of_ble_eq_true rfl) rfl dX7_startAnew_9 (v := 9) (pst hP 6 rfl) ?_
  refine g_iconst cx dX7_startAnew_12 ic_0 ?_
  refine g_wSv cx [.ref 9, .int 0] [] (e_J7_fill_53178 hP h) mt_J7_fill_53178 ml_X7_83 dX7_startAnew_13 rfl rfl (Nat.le_of_ble_eq_true rfl) (Nat.le_of_ble_eq_true rfl) (Nat.le_of_ble_eq_true rfl) (fun I2 P2 hP h => ?_)
  refine g_aload_n cx dX7_startAnew_16 rfl ?_
  refine g_getR cx lk_X7_18 rfl (Nat.le_of_ble_eq_true rfl) rfl dX7_startAnew_17 (v := 10) (pst hP 7 rfl) ?_
  refine g_iconst cx dX7_startAnew_20 ic_0 ?_
  refine g_wSv cx [.ref 10, .int 0] [] (e_J7_fill_53178 hP h) mt_J7_fill_53178 ml_X7_83 dX7_startAnew_21 rfl rfl (Nat.le_of_ble_eq_true rfl) (Nat.le_of_ble_eq_true rfl) (Nat.le_of_ble_eq_true rfl) (fun I3 P3 hP h => ?_)
  refine g_aload_n cx dX7_startAnew_24 rfl ?_
  refine g_getR cx lk_X7_21 rfl (Nat.le_of_ble_eq_true rfl) rfl dX7_startAnew_25 (v := 11) (pst hP 8 rfl) ?_
  refine g_iconst cx dX7_startAnew_28 ic_0 ?_
  refine g_wSv cx [.ref 11, .int 0] [] (e_J7_fill_53178 hP h) mt_J7_fill_53178 ml_X7_83 dX7_startAnew_29 rfl rfl (Nat.le_of_ble_eq_true rfl) (Nat.le_of_ble_eq_true rfl) (Nat.le_of_ble_eq_true rfl) (fun I4 P4 hP h => ?_)
  refine g_iconst cx dX7_startAnew_32 ic_0 ?_
  refine g_istore_n cx dX7_startAnew_33 (Nat.le_of_ble_eq_true rfl) (Gx.L [.ref 7, .int 0] rfl ?_)
  obtain ⟨n9, h⟩ := h
  exact gl_X7_startAnew_34 cx hE n9 _ _ _ hP h
def w_X7_writeByte (x1 : Nat) (x2 : Int32) (x3 : Int32) (I : zI) (P : zP) (K : zI → zP → Prop) : Prop := if (I 7 16) < 0 then (K I P) else (if 1000 ≤ (I 7 16) then (K I P) else (SHy[x1]? = some (8, 11) ∧ (∃ v4, P x1 0 = some v4 ∧ (SHy[v4]? = some (11, (zlen v4)) ∧ (vp_in (I 7 16) (zlen v4) ∧ (∃ v8, P x1 1 = some v8 ∧ (SHy[v8]? = some (11, (zlen v8)) ∧ (vp_in ((zu I v4 (((I 7 16)).toNatClampNeg) (x2 &&& 255)) 7 16) (zlen v8) ∧ (K (zu (zu (zu I v4 (((I 7 16)).toNatClampNeg) (x2 &&& 255)) v8 ((((zu I v4 (((I 7 16)).toNatClampNeg) (x2 &&& 255)) 7 16)).toNatClampNeg) x3) 7 16 (((zu (zu I v4 (((I 7 16)).toNatClampNeg) (x2 &&& 255)) v8 ((((zu I v4 (((I 7 16)).toNatClampNeg) (x2 &&& 255)) 7 16)).toNatClampNeg) x3) 7 16) + 1)) P)))))))))
theorem e_X7_writeByte {x1 : Nat} {x2 : Int32} {x3 : Int32} {I : zI} {P : zP} {K : zI → zP → Prop} (hP : PSt P) (h : w_X7_writeByte x1 x2 x3 I P K) : Ev yX7_writeByte cX7_writeByte 4 none 0 0 0 0 [.ref 7, .ref x1, .int x2, .int x3] SHy I P (zKv K) := by
  refine Ev.start [.ref 7, .ref x1, .int x2, .int x3] pn_X7 rfl (Nat.le_of_ble_eq_true rfl) rfl (fun κ cx hE => ?_)
  unfold w_X7_writeByte at h
  refine g_aload_n cx dX7_writeByte_0 rfl ?_
  refine g_getI cx lk_X7_62 rfl (Nat.le_of_ble_eq_true rfl) rfl dX7_writeByte_1 (x := (I 7 16)) rfl ?_
  refine g_if_lt cx (tgt := 51) dX7_writeByte_4 rfl (fun c1 => ?_) (fun c1 => ?_)
  · have h := zifp c1 h
    exact g_wv cx hE dX7_writeByte_51 rfl hP h
  · have h := zifn c1 h
    refine g_aload_n cx dX7_writeByte_7 rfl ?_
    refine g_getI cx lk_X7_62 rfl (Nat.le_of_ble_eq_true rfl) rfl dX7_writeByte_8 (x := (I 7 16)) rfl ?_
    refine g_sipush cx dX7_writeByte_11 sp_1000 ?_
    refine g_icmp_ge cx (tgt := 51) dX7_writeByte_14 rfl (fun c2 => ?_) (fun c2 => ?_)
    · have h := zifp c2 h
      exact g_wv cx hE dX7_writeByte_51 rfl hP h
    · have h := zifn c2 h
      refine g_aload_n cx dX7_writeByte_17 rfl ?_
      obtain ⟨hs3, h⟩ := h
      obtain ⟨v4, hv5, h⟩ := h
      refine g_getR cx lk_X7_251 hs3 (Nat.le_of_ble_eq_true rfl) rfl dX7_writeByte_18 hv5 ?_
      refine g_aload_n cx dX7_writeByte_21 rfl ?_
      refine g_getI cx lk_X7_62 rfl (Nat.le_of_ble_eq_true rfl) rfl dX7_writeByte_22 (x := (I 7 16)) rfl ?_
      refine g_iload_n cx dX7_writeByte_25 rfl ?_
      refine g_sipush cx dX7_writeByte_26 sp_255 ?_
      refine g_iand cx dX7_writeByte_29 ?_
      obtain ⟨hs6, h⟩ := h
      obtain ⟨hc7, h⟩ := h
      refine g_iast cx dX7_writeByte_30 hs6 hc7 ?_
      refine g_aload_n cx dX7_writeByte_31 rfl ?_
      obtain ⟨v8, hv9, h⟩ := h
      refine g_getR cx lk_X7_252 hs3 (Nat.le_of_ble_eq_true rfl) rfl dX7_writeByte_32 hv9 ?_
      refine g_aload_n cx dX7_writeByte_35 rfl ?_
      refine g_getI cx lk_X7_62 rfl (Nat.le_of_ble_eq_true rfl) rfl dX7_writeByte_36 (x := ((zu I v4 (((I 7 16)).toNatClampNeg) (x2 &&& 255)) 7 16)) rfl ?_
      refine g_iload_n cx dX7_writeByte_39 rfl ?_
      obtain ⟨hs10, h⟩ := h
      obtain ⟨hc11, h⟩ := h
      refine g_iast cx dX7_writeByte_40 hs10 hc11 ?_
      refine g_aload_n cx dX7_writeByte_41 rfl ?_
      refine g_dup cx dX7_writeByte_42 rfl ?_
      refine g_getI cx lk_X7_62 rfl (Nat.le_of_ble_eq_true rfl) rfl dX7_writeByte_43 (x := ((zu (zu I v4 (((I 7 16)).toNatClampNeg) (x2 &&& 255)) v8 ((((zu I v4 (((I 7 16)).toNatClampNeg) (x2 &&& 255)) 7 16)).toNatClampNeg) x3) 7 16)) rfl ?_
      refine g_iconst cx dX7_writeByte_46 ic_1 ?_
      refine g_iadd cx dX7_writeByte_47 ?_
      refine g_pI cx lk_X7_62 rfl (Nat.le_of_ble_eq_true rfl) rfl dX7_writeByte_48 fi_7_16 rfl rfl ?_
      exact g_wv cx hE dX7_writeByte_51 rfl hP h
def j_X7_writeProbes_42 (X3 : Nat → Int32 → Int32 → Int32 → Int32 → zI → zP → Prop) (K : zI → zP → Prop) (y1 : Nat) (y3 : Int32) (y4 : Int32) (y5 : Int32) (y6 : Int32) (y7 : Int32) (s0 : Int32) (I : zI) (P : zP) : Prop := if s0 = 0 then (X3 y1 y3 y4 y5 (y6 + 1) I P) else (SHy[y1]? = some (3, 11) ∧ (w_X4_isAt y6 (I y1 0) y4 I P (fun (v3 : Int32) (I3 : zI) (P3 : zP) => (if v3 = 0 then (X3 y1 y3 y4 y5 (y6 + 1) I3 P3) else (∃ v5, P3 y1 6 = some v5 ∧ (w_X7_aheadOp y7 I3 P3 (fun (v7 : Int32) (I7 : zI) (P7 : zP) => (w_X7_writeByte v5 v7 y5 I7 P7 (fun (I8 : zI) (P8 : zP) => (∃ v9, P8 y1 6 = some v9 ∧ (w_X7_writeByte v9 y6 y5 I8 P8 (fun (I11 : zI) (P11 : zP) => (X3 y1 y3 y4 y5 (y6 + 1) I11 P11)))))))))))))
theorem gj_X7_writeProbes_42 {κ : zX} (cx : Cx yX7_writeProbes cX7_writeProbes 9 none 1 23 κ) {K : zI → zP → Prop} (hE : zEnd (zKv K) 0 0 κ) {X3 : Nat → Int32 → Int32 → Int32 → Int32 → zI → zP → Prop} (hX3 : ∀ (y1 : Nat) (y3 : Int32) (y4 : Int32) (y5 : Int32) (y6 : Int32) (I : zI) (P : zP), PSt P → X3 y1 y3 y4 y5 y6 I P → Gx κ 3 [.ref 7, .ref y1, .ref 108, .int y3, .int y4, .int y5, .int y6, .float 0, .float 0] [] SHy I P 0 0) {y1 : Nat} {y3 : Int32} {y4 : Int32} {y5 : Int32} {y6 : Int32} {y7 : Int32} {s0 : Int32} {I : zI} {P : zP} (hP : PSt P) (h : j_X7_writeProbes_42 X3 K y1 y3 y4 y5 y6 y7 s0 I P) : Gx κ 42 [.ref 7, .ref y1, .ref 108, .int y3, .int y4, .int y5, .int y6, .int y7, .float 0] [.int s0] SHy I P 0 0 := by
  unfold j_X7_writeProbes_42 at h
  refine g_istore cx dX7_writeProbes_42 (Nat.le_of_ble_eq_true rfl) (Gx.L [.ref 7, .ref y1, .ref 108, .int y3, .int y4, .int y5, .int y6, .int y7, .int s0] rfl ?_)
  refine g_iload cx dX7_writeProbes_44 rfl ?_
  refine g_if_eq cx (tgt := 91) dX7_writeProbes_46 rfl (fun c1 => ?_) (fun c1 => ?_)
  · have h := zifp c1 h
    refine g_iinc cx (v := (y6 + 1)) dX7_writeProbes_91 rfl rfl (Nat.le_of_ble_eq_true rfl) (Gx.L [.ref 7, .ref y1, .ref 108, .int y3, .int y4, .int y5, .int (y6 + 1), .int y7, .int s0] rfl ?_)
    refine g_goto cx (tgt := 3) dX7_writeProbes_94 rfl ?_
    refine (Gx.unset 7 (Gx.unset 8 (Gx.L [.ref 7, .ref y1, .ref 108, .int y3, .int y4, .int y5, .int (y6 + 1), .float 0, .float 0] rfl ?_)))
    exact hX3 _ _ _ _ _ _ _ hP h
  · have h := zifn c1 h
    refine g_aload_n cx dX7_writeProbes_49 rfl ?_
    refine g_iload cx dX7_writeProbes_50 rfl ?_
    refine g_aload_n cx dX7_writeProbes_52 rfl ?_
    obtain ⟨hs2, h⟩ := h
    refine g_getI cx lk_X7_100 hs2 (Nat.le_of_ble_eq_true rfl) rfl dX7_writeProbes_53 (x := (I y1 0)) rfl ?_
    refine g_iload cx dX7_writeProbes_56 rfl ?_
    refine g_wVi cx [.int y6, .int (I y1 0), .int y4] [] (e_X4_isAt hP h) mt_X4_isAt ml_X7_214 rfl rfl rfl dX7_writeProbes_58 rfl rfl (Nat.le_of_ble_eq_true rfl) (Nat.le_of_ble_eq_true rfl) (Nat.le_of_ble_eq_true rfl) (fun v3 I3 P3 hP h => ?_)
    refine g_if_eq cx (tgt := 91) dX7_writeProbes_61 rfl (fun c4 => ?_) (fun c4 => ?_)
    · have h := zifp c4 h
      refine g_iinc cx (v := (y6 + 1)) dX7_writeProbes_91 rfl rfl (Nat.le_of_ble_eq_true rfl) (Gx.L [.ref 7, .ref y1, .ref 108, .int y3, .int y4, .int y5, .int (y6 + 1), .int y7, .int s0] rfl ?_)
      refine g_goto cx (tgt := 3) dX7_writeProbes_94 rfl ?_
      refine (Gx.unset 7 (Gx.unset 8 (Gx.L [.ref 7, .ref y1, .ref 108, .int y3, .int y4, .int y5, .int (y6 + 1), .float 0, .float 0] rfl ?_)))
      exact hX3 _ _ _ _ _ _ _ hP h
    · have h := zifn c4 h
      refine g_aload_n cx dX7_writeProbes_64 rfl ?_
      refine g_aload_n cx dX7_writeProbes_65 rfl ?_
      obtain ⟨v5, hv6, h⟩ := h
      refine g_getR cx lk_X7_160 hs2 (Nat.le_of_ble_eq_true rfl) rfl dX7_writeProbes_66 hv6 ?_
      refine g_iload cx dX7_writeProbes_69 rfl ?_
      refine g_wSi cx [.int y7] [.ref v5, .ref 7] (e_X7_aheadOp hP h) mt_X7_aheadOp ml_X7_218 dX7_writeProbes_71 rfl rfl (Nat.le_of_ble_eq_true rfl) (Nat.le_of_ble_eq_true rfl) (Nat.le_of_ble_eq_true rfl) (fun v7 I7 P7 hP h => ?_)
      refine g_iload cx dX7_writeProbes_74 rfl ?_
      refine g_wVv cx [.ref v5, .int v7, .int y5] [] (e_X7_writeByte hP h) mt_X7_writeByte ml_X7_221 rfl rfl rfl dX7_writeProbes_76 rfl rfl (Nat.le_of_ble_eq_true rfl) (Nat.le_of_ble_eq_true rfl) (Nat.le_of_ble_eq_true rfl) (fun I8 P8 hP h => ?_)
      refine g_aload_n cx dX7_writeProbes_79 rfl ?_
      refine g_aload_n cx dX7_writeProbes_80 rfl ?_
      obtain ⟨v9, hv10, h⟩ := h
      refine g_getR cx lk_X7_160 hs2 (Nat.le_of_ble_eq_true rfl) rfl dX7_writeProbes_81 hv10 ?_
      refine g_iload cx dX7_writeProbes_84 rfl ?_
      refine g_iload cx dX7_writeProbes_86 rfl ?_
      refine g_wVv cx [.ref v9, .int y6, .int y5] [] (e_X7_writeByte hP h) mt_X7_writeByte ml_X7_221 rfl rfl rfl dX7_writeProbes_88 rfl rfl (Nat.le_of_ble_eq_true rfl) (Nat.le_of_ble_eq_true rfl) (Nat.le_of_ble_eq_true rfl) (fun I11 P11 hP h => ?_)
      refine g_iinc cx (v := (y6 + 1)) dX7_writeProbes_91 rfl rfl (Nat.le_of_ble_eq_true rfl) (Gx.L [.ref 7, .ref y1, .ref 108, .int y3, .int y4, .int y5, .int (y6 + 1), .int y7, .int s0] rfl ?_)
      refine g_goto cx (tgt := 3) dX7_writeProbes_94 rfl ?_
      refine (Gx.unset 7 (Gx.unset 8 (Gx.L [.ref 7, .ref y1, .ref 108, .int y3, .int y4, .int y5, .int (y6 + 1), .float 0, .float 0] rfl ?_)))
      exact hX3 _ _ _ _ _ _ _ hP h
def j_X7_writeProbes_41 (X3 : Nat → Int32 → Int32 → Int32 → Int32 → zI → zP → Prop) (K : zI → zP → Prop) (y1 : Nat) (y3 : Int32) (y4 : Int32) (y5 : Int32) (y6 : Int32) (y7 : Int32) (I : zI) (P : zP) : Prop := j_X7_writeProbes_42 X3 K y1 y3 y4 y5 y6 y7 0 I P
theorem gj_X7_writeProbes_41 {κ : zX} (cx : Cx yX7_writeProbes cX7_writeProbes 9 none 1 23 κ) {K : zI → zP → Prop} (hE : zEnd (zKv K) 0 0 κ) {X3 : Nat → Int32 → Int32 → Int32 → Int32 → zI → zP → Prop} (hX3 : ∀ (y1 : Nat) (y3 : Int32) (y4 : Int32) (y5 : Int32) (y6 : Int32) (I : zI) (P : zP), PSt P → X3 y1 y3 y4 y5 y6 I P → Gx κ 3 [.ref 7, .ref y1, .ref 108, .int y3, .int y4, .int y5, .int y6, .float 0, .float 0] [] SHy I P 0 0) {y1 : Nat} {y3 : Int32} {y4 : Int32} {y5 : Int32} {y6 : Int32} {y7 : Int32} {I : zI} {P : zP} (hP : PSt P) (h : j_X7_writeProbes_41 X3 K y1 y3 y4 y5 y6 y7 I P) : Gx κ 41 [.ref 7, .ref y1, .ref 108, .int y3, .int y4, .int y5, .int y6, .int y7, .float 0] [] SHy I P 0 0 := by
  unfold j_X7_writeProbes_41 at h
  refine g_iconst cx dX7_writeProbes_41 ic_0 ?_
  exact gj_X7_writeProbes_42 cx hE hX3 hP h
def l_X7_writeProbes_3 (K : zI → zP → Prop) : Nat → Nat → Int32 → Int32 → Int32 → Int32 → zI → zP → Prop
  | 0, _, _, _, _, _, _, _ => False
  | n + 1, y1, y3, y4, y5, y6, I, P => if (I 108 5) ≤ y6 then (K I P) else (w_X4_sortOf y6 I P (fun (v2 : Int32) (I2 : zI) (P2 : zP) => (if v2 = y3 then (j_X7_writeProbes_42 (l_X7_writeProbes_3 K n) K y1 y3 y4 y5 y6 v2 1 I2 P2) else (if y3 = 0 then (if v2 = 6 then (j_X7_writeProbes_42 (l_X7_writeProbes_3 K n) K y1 y3 y4 y5 y6 v2 1 I2 P2) else (j_X7_writeProbes_41 (l_X7_writeProbes_3 K n) K y1 y3 y4 y5 y6 v2 I2 P2)) else (j_X7_writeProbes_41 (l_X7_writeProbes_3 K n) K y1 y3 y4 y5 y6 v2 I2 P2)))))
theorem gl_X7_writeProbes_3 {κ : zX} (cx : Cx yX7_writeProbes cX7_writeProbes 9 none 1 23 κ) {K : zI → zP → Prop} (hE : zEnd (zKv K) 0 0 κ) : ∀ (n : Nat) (y1 : Nat) (y3 : Int32) (y4 : Int32) (y5 : Int32) (y6 : Int32) (I : zI) (P : zP), PSt P → l_X7_writeProbes_3 K n y1 y3 y4 y5 y6 I P → Gx κ 3 [.ref 7, .ref y1, .ref 108, .int y3, .int y4, .int y5, .int y6, .float 0, .float 0] [] SHy I P 0 0 := by
  intro n
  induction n with
  | zero =>
    intro y1 y3 y4 y5 y6 I P hP h
    rw [l_X7_writeProbes_3] at h
    exact False.elim h
  | succ n ih =>
    intro y1 y3 y4 y5 y6 I P hP h
    rw [l_X7_writeProbes_3] at h
    refine g_iload cx dX7_writeProbes_3 rfl ?_
    refine g_aload_n cx dX7_writeProbes_5 rfl ?_
    refine g_getI cx lk_X7_89 rfl (Nat.le_of_ble_eq_true rfl) rfl dX7_writeProbes_6 (x := (I 108 5)) rfl ?_
    refine g_icmp_ge cx (tgt := 97) dX7_writeProbes_9 rfl (fun c1 => ?_) (fun c1 => ?_)
    · have h := zifp c1 h
      exact g_wv cx hE dX7_writeProbes_97 rfl hP h
    · have h := zifn c1 h
      refine g_aload_n cx dX7_writeProbes_12 rfl ?_
      refine g_iload cx dX7_writeProbes_13 rfl ?_
      refine g_wVi cx [.int y6] [] (e_X4_sortOf hP h) mt_X4_sortOf ml_X7_211 rfl rfl rfl dX7_writeProbes_15 rfl rfl (Nat.le_of_ble_eq_true rfl) (Nat.le_of_ble_eq_true rfl) (Nat.le_of_ble_eq_true rfl) (fun v2 I2 P2 hP h => ?_)
      refine g_istore cx dX7_writeProbes_18 (Nat.le_of_ble_eq_true rfl) (Gx.L [.ref 7, .ref y1, .ref 108, .int y3, .int y4, .int y5, .int y6, .int v2, .float 0] rfl ?_)
      refine g_iload cx dX7_writeProbes_20 rfl ?_
      refine g_iload_n cx dX7_writeProbes_22 rfl ?_
      refine g_icmp_eq cx (tgt := 37) dX7_writeProbes_23 rfl (fun c3 => ?_) (fun c3 => ?_)
      · have h := zifp c3 h
        refine g_iconst cx dX7_writeProbes_37 ic_1 ?_
        refine g_goto cx (tgt := 42) dX7_writeProbes_38 rfl ?_
        exact gj_X7_writeProbes_42 cx hE ih hP h
      · have h := zifn c3 h
        refine g_iload_n cx dX7_writeProbes_26 rfl ?_
        refine g_if_ne cx (tgt := 41) dX7_writeProbes_27 rfl (fun c4 => ?_) (fun c4 => ?_)
        · have h := zifn c4 h
          exact gj_X7_writeProbes_41 cx hE ih hP h
        · have h := zifp c4 h
          refine g_iload cx dX7_writeProbes_30 rfl ?_
          refine g_bipush cx dX7_writeProbes_32 bp_6 ?_
          refine g_icmp_ne cx (tgt := 41) dX7_writeProbes_34 rfl (fun c5 => ?_) (fun c5 => ?_)
          · have h := zifn c5 h
            exact gj_X7_writeProbes_41 cx hE ih hP h
          · have h := zifp c5 h
            refine g_iconst cx dX7_writeProbes_37 ic_1 ?_
            refine g_goto cx (tgt := 42) dX7_writeProbes_38 rfl ?_
            exact gj_X7_writeProbes_42 cx hE ih hP h
def w_X7_writeProbes (x1 : Nat) (x3 : Int32) (x4 : Int32) (x5 : Int32) (I : zI) (P : zP) (K : zI → zP → Prop) : Prop := ∃ n9, l_X7_writeProbes_3 K n9 x1 x3 x4 x5 0 I P
theorem e_X7_writeProbes {x1 : Nat} {x3 : Int32} {x4 : Int32} {x5 : Int32} {I : zI} {P : zP} {K : zI → zP → Prop} (hP : PSt P) (h : w_X7_writeProbes x1 x3 x4 x5 I P K) : Ev yX7_writeProbes cX7_writeProbes 9 none 1 23 0 0 [.ref 7, .ref x1, .ref 108, .int x3, .int x4, .int x5] SHy I P (zKv K) := by
  refine Ev.start [.ref 7, .ref x1, .ref 108, .int x3, .int x4, .int x5, .float 0, .float 0, .float 0] pn_X7 rfl (Nat.le_of_ble_eq_true rfl) rfl (fun κ cx hE => ?_)
  unfold w_X7_writeProbes at h
  refine g_iconst cx dX7_writeProbes_0 ic_0 ?_
  refine g_istore cx dX7_writeProbes_1 (Nat.le_of_ble_eq_true rfl) (Gx.L [.ref 7, .ref x1, .ref 108, .int x3, .int x4, .int x5, .int 0, .float 0, .float 0] rfl ?_)
  obtain ⟨n9, h⟩ := h
  exact gl_X7_writeProbes_3 cx hE n9 _ _ _ _ _ _ _ hP h
def j_X7_writeAhead_39 (K : zI → zP → Prop) (y1 : Nat) (y3 : Int32) (I : zI) (P : zP) : Prop := w_X7_writeProbes y1 4 y3 y3 I P (fun (I1 : zI) (P1 : zP) => (K I1 P1))
theorem gj_X7_writeAhead_39 {κ : zX} (cx : Cx yX7_writeAhead cX7_writeAhead 4 none 2 51 κ) {K : zI → zP → Prop} (hE : zEnd (zKv K) 0 0 κ) {y1 : Nat} {y3 : Int32} {I : zI} {P : zP} (hP : PSt P) (h : j_X7_writeAhead_39 K y1 y3 I P) : Gx κ 39 [.ref 7, .ref y1, .ref 108, .int y3] [] SHy I P 0 0 := by
  unfold j_X7_writeAhead_39 at h
  refine g_aload_n cx dX7_writeAhead_39 rfl ?_
  refine g_aload_n cx dX7_writeAhead_40 rfl ?_
  refine g_aload_n cx dX7_writeAhead_41 rfl ?_
  refine g_iconst cx dX7_writeAhead_42 ic_4 ?_
  refine g_iload_n cx dX7_writeAhead_43 rfl ?_
  refine g_iload_n cx dX7_writeAhead_44 rfl ?_
  refine g_wVv cx [.ref y1, .ref 108, .int 4, .int y3, .int y3] [] (e_X7_writeProbes hP h) mt_X7_writeProbes ml_X7_169 rfl rfl rfl dX7_writeAhead_45 rfl rfl (Nat.le_of_ble_eq_true rfl) (Nat.le_of_ble_eq_true rfl) (Nat.le_of_ble_eq_true rfl) (fun I1 P1 hP h => ?_)
  exact g_wv cx hE dX7_writeAhead_48 rfl hP h
def w_X7_writeAhead (x1 : Nat) (x3 : Int32) (I : zI) (P : zP) (K : zI → zP → Prop) : Prop := vp_in x3 400 ∧ (if (I 8 ((x3).toNatClampNeg)) = 0 then (K I P) else (w_X7_writeProbes x1 0 x3 x3 I P (fun (I3 : zI) (P3 : zP) => (SHy[x1]? = some (3, 11) ∧ (∃ v5, P3 x1 1 = some v5 ∧ (SHy[v5]? = some (11, (zlen v5)) ∧ (vp_in x3 (zlen v5) ∧ (if (I3 v5 ((x3).toNatClampNeg)) = 42 then (w_X7_writeProbes x1 3 0 x3 I3 P3 (fun (I10 : zI) (P10 : zP) => (j_X7_writeAhead_39 K x1 x3 I10 P10))) else (j_X7_writeAhead_39 K x1 x3 I3 P3)))))))))
theorem e_X7_writeAhead {x1 : Nat} {x3 : Int32} {I : zI} {P : zP} {K : zI → zP → Prop} (hP : PSt P) (h : w_X7_writeAhead x1 x3 I P K) : Ev yX7_writeAhead cX7_writeAhead 4 none 2 51 0 0 [.ref 7, .ref x1, .ref 108, .int x3] SHy I P (zKv K) := by
  refine Ev.start [.ref 7, .ref x1, .ref 108, .int x3] pn_X7 rfl (Nat.le_of_ble_eq_true rfl) rfl (fun κ cx hE => ?_)
  unfold w_X7_writeAhead at h
  refine g_aload_n cx dX7_writeAhead_0 rfl ?_
  refine g_getR cx lk_X7_9 rfl (Nat.le_of_ble_eq_true rfl) rfl dX7_writeAhead_1 (v := 8) (pst hP 5 rfl) ?_
  refine g_iload_n cx dX7_writeAhead_4 rfl ?_
  obtain ⟨hc1, h⟩ := h
  refine g_iald cx dX7_writeAhead_5 rfl hc1 (x := (I 8 ((x3).toNatClampNeg))) rfl ?_
  refine g_if_ne cx (tgt := 10) dX7_writeAhead_6 rfl (fun c2 => ?_) (fun c2 => ?_)
  · have h := zifn c2 h
    refine g_aload_n cx dX7_writeAhead_10 rfl ?_
    refine g_aload_n cx dX7_writeAhead_11 rfl ?_
    refine g_aload_n cx dX7_writeAhead_12 rfl ?_
    refine g_iconst cx dX7_writeAhead_13 ic_0 ?_
    refine g_iload_n cx dX7_writeAhead_14 rfl ?_
    refine g_iload_n cx dX7_writeAhead_15 rfl ?_
    refine g_wVv cx [.ref x1, .ref 108, .int 0, .int x3, .int x3] [] (e_X7_writeProbes hP h) mt_X7_writeProbes ml_X7_169 rfl rfl rfl dX7_writeAhead_16 rfl rfl (Nat.le_of_ble_eq_true rfl) (Nat.le_of_ble_eq_true rfl) (Nat.le_of_ble_eq_true rfl) (fun I3 P3 hP h => ?_)
    refine g_aload_n cx dX7_writeAhead_19 rfl ?_
    obtain ⟨hs4, h⟩ := h
    obtain ⟨v5, hv6, h⟩ := h
    refine g_getR cx lk_X7_119 hs4 (Nat.le_of_ble_eq_true rfl) rfl dX7_writeAhead_20 hv6 ?_
    refine g_iload_n cx dX7_writeAhead_23 rfl ?_
    obtain ⟨hs7, h⟩ := h
    obtain ⟨hc8, h⟩ := h
    refine g_iald cx dX7_writeAhead_24 hs7 hc8 (x := (I3 v5 ((x3).toNatClampNeg))) rfl ?_
    refine g_bipush cx dX7_writeAhead_25 bp_42 ?_
    refine g_icmp_ne cx (tgt := 39) dX7_writeAhead_27 rfl (fun c9 => ?_) (fun c9 => ?_)
    · have h := zifn c9 h
      exact gj_X7_writeAhead_39 cx hE hP h
    · have h := zifp c9 h
      refine g_aload_n cx dX7_writeAhead_30 rfl ?_
      refine g_aload_n cx dX7_writeAhead_31 rfl ?_
      refine g_aload_n cx dX7_writeAhead_32 rfl ?_
      refine g_iconst cx dX7_writeAhead_33 ic_3 ?_
      refine g_iconst cx dX7_writeAhead_34 ic_0 ?_
      refine g_iload_n cx dX7_writeAhead_35 rfl ?_
      refine g_wVv cx [.ref x1, .ref 108, .int 3, .int 0, .int x3] [] (e_X7_writeProbes hP h) mt_X7_writeProbes ml_X7_169 rfl rfl rfl dX7_writeAhead_36 rfl rfl (Nat.le_of_ble_eq_true rfl) (Nat.le_of_ble_eq_true rfl) (Nat.le_of_ble_eq_true rfl) (fun I10 P10 hP h => ?_)
      exact gj_X7_writeAhead_39 cx hE hP h
  · have h := zifp c2 h
    exact g_wv cx hE dX7_writeAhead_9 rfl hP h
def w_X7_writeSide (x1 : Nat) (x2 : Int32) (x3 : Int32) (x4 : Int32) (I : zI) (P : zP) (K : zI → zP → Prop) : Prop := w_X7_writeByte x1 49 x4 I P (fun (I1 : zI) (P1 : zP) => (w_X7_writeByte x1 x2 x4 I1 P1 (fun (I2 : zI) (P2 : zP) => (w_X7_writeByte x1 x3 x4 I2 P2 (fun (I3 : zI) (P3 : zP) => (K I3 P3))))))
theorem e_X7_writeSide {x1 : Nat} {x2 : Int32} {x3 : Int32} {x4 : Int32} {I : zI} {P : zP} {K : zI → zP → Prop} (hP : PSt P) (h : w_X7_writeSide x1 x2 x3 x4 I P K) : Ev yX7_writeSide cX7_writeSide 5 none 1 23 0 0 [.ref 7, .ref x1, .int x2, .int x3, .int x4] SHy I P (zKv K) := by
  refine Ev.start [.ref 7, .ref x1, .int x2, .int x3, .int x4] pn_X7 rfl (Nat.le_of_ble_eq_true rfl) rfl (fun κ cx hE => ?_)
  unfold w_X7_writeSide at h
  refine g_aload_n cx dX7_writeSide_0 rfl ?_
  refine g_aload_n cx dX7_writeSide_1 rfl ?_
  refine g_bipush cx dX7_writeSide_2 bp_49 ?_
  refine g_iload cx dX7_writeSide_4 rfl ?_
  refine g_wVv cx [.ref x1, .int 49, .int x4] [] (e_X7_writeByte hP h) mt_X7_writeByte ml_X7_221 rfl rfl rfl dX7_writeSide_6 rfl rfl (Nat.le_of_ble_eq_true rfl) (Nat.le_of_ble_eq_true rfl) (Nat.le_of_ble_eq_true rfl) (fun I1 P1 hP h => ?_)
  refine g_aload_n cx dX7_writeSide_9 rfl ?_
  refine g_aload_n cx dX7_writeSide_10 rfl ?_
  refine g_iload_n cx dX7_writeSide_11 rfl ?_
  refine g_iload cx dX7_writeSide_12 rfl ?_
  refine g_wVv cx [.ref x1, .int x2, .int x4] [] (e_X7_writeByte hP h) mt_X7_writeByte ml_X7_221 rfl rfl rfl dX7_writeSide_14 rfl rfl (Nat.le_of_ble_eq_true rfl) (Nat.le_of_ble_eq_true rfl) (Nat.le_of_ble_eq_true rfl) (fun I2 P2 hP h => ?_)
  refine g_aload_n cx dX7_writeSide_17 rfl ?_
  refine g_aload_n cx dX7_writeSide_18 rfl ?_
  refine g_iload_n cx dX7_writeSide_19 rfl ?_
  refine g_iload cx dX7_writeSide_20 rfl ?_
  refine g_wVv cx [.ref x1, .int x3, .int x4] [] (e_X7_writeByte hP h) mt_X7_writeByte ml_X7_221 rfl rfl rfl dX7_writeSide_22 rfl rfl (Nat.le_of_ble_eq_true rfl) (Nat.le_of_ble_eq_true rfl) (Nat.le_of_ble_eq_true rfl) (fun I3 P3 hP h => ?_)
  exact g_wv cx hE dX7_writeSide_25 rfl hP h
def j_X7_writeBehind_99 (X13 : Nat → Int32 → Int32 → zI → zP → Prop) (K : zI → zP → Prop) (y1 : Nat) (y3 : Int32) (y4 : Int32) (s0 : Int32) (s1 : Nat) (I : zI) (P : zP) : Prop := w_X7_writeByte s1 s0 y3 I P (fun (I1 : zI) (P1 : zP) => (SHy[y1]? = some (3, 11) ∧ (∃ v3, P1 y1 6 = some v3 ∧ (w_X7_writeByte v3 y4 y3 I1 P1 (fun (I5 : zI) (P5 : zP) => (X13 y1 y3 (y4 + 1) I5 P5))))))
theorem gj_X7_writeBehind_99 {κ : zX} (cx : Cx yX7_writeBehind cX7_writeBehind 6 none 2 47 κ) {K : zI → zP → Prop} (hE : zEnd (zKv K) 0 0 κ) {X13 : Nat → Int32 → Int32 → zI → zP → Prop} (hX13 : ∀ (y1 : Nat) (y3 : Int32) (y4 : Int32) (I : zI) (P : zP), PSt P → X13 y1 y3 y4 I P → Gx κ 13 [.ref 7, .ref y1, .ref 108, .int y3, .int y4, .float 0] [] SHy I P 0 0) {y1 : Nat} {y3 : Int32} {y4 : Int32} {s0 : Int32} {s1 : Nat} {I : zI} {P : zP} (hP : PSt P) (h : j_X7_writeBehind_99 X13 K y1 y3 y4 s0 s1 I P) : Gx κ 99 [.ref 7, .ref y1, .ref 108, .int y3, .int y4, .float 0] [.int s0, .ref s1, .ref 7] SHy I P 0 0 := by
  unfold j_X7_writeBehind_99 at h
  refine g_iload_n cx dX7_writeBehind_99 rfl ?_
  refine g_wVv cx [.ref s1, .int s0, .int y3] [] (e_X7_writeByte hP h) mt_X7_writeByte ml_X7_221 rfl rfl rfl dX7_writeBehind_100 rfl rfl (Nat.le_of_ble_eq_true rfl) (Nat.le_of_ble_eq_true rfl) (Nat.le_of_ble_eq_true rfl) (fun I1 P1 hP h => ?_)
  refine g_aload_n cx dX7_writeBehind_103 rfl ?_
  refine g_aload_n cx dX7_writeBehind_104 rfl ?_
  obtain ⟨hs2, h⟩ := h
  obtain ⟨v3, hv4, h⟩ := h
  refine g_getR cx lk_X7_160 hs2 (Nat.le_of_ble_eq_true rfl) rfl dX7_writeBehind_105 hv4 ?_
  refine g_iload cx dX7_writeBehind_108 rfl ?_
  refine g_iload_n cx dX7_writeBehind_110 rfl ?_
  refine g_wVv cx [.ref v3, .int y4, .int y3] [] (e_X7_writeByte hP h) mt_X7_writeByte ml_X7_221 rfl rfl rfl dX7_writeBehind_111 rfl rfl (Nat.le_of_ble_eq_true rfl) (Nat.le_of_ble_eq_true rfl) (Nat.le_of_ble_eq_true rfl) (fun I5 P5 hP h => ?_)
  refine g_iinc cx (v := (y4 + 1)) dX7_writeBehind_114 rfl rfl (Nat.le_of_ble_eq_true rfl) (Gx.L [.ref 7, .ref y1, .ref 108, .int y3, .int (y4 + 1), .float 0] rfl ?_)
  refine g_goto cx (tgt := 13) dX7_writeBehind_117 rfl ?_
  exact hX13 _ _ _ _ _ hP h
def j_X7_writeBehind_81 (X13 : Nat → Int32 → Int32 → zI → zP → Prop) (K : zI → zP → Prop) (y1 : Nat) (y3 : Int32) (y4 : Int32) (y5 : Int32) (I : zI) (P : zP) : Prop := SHy[y1]? = some (3, 11) ∧ (∃ v2, P y1 6 = some v2 ∧ (if y5 = 4 then (j_X7_writeBehind_99 X13 K y1 y3 y4 54 v2 I P) else (j_X7_writeBehind_99 X13 K y1 y3 y4 57 v2 I P)))
theorem gj_X7_writeBehind_81 {κ : zX} (cx : Cx yX7_writeBehind cX7_writeBehind 6 none 2 47 κ) {K : zI → zP → Prop} (hE : zEnd (zKv K) 0 0 κ) {X13 : Nat → Int32 → Int32 → zI → zP → Prop} (hX13 : ∀ (y1 : Nat) (y3 : Int32) (y4 : Int32) (I : zI) (P : zP), PSt P → X13 y1 y3 y4 I P → Gx κ 13 [.ref 7, .ref y1, .ref 108, .int y3, .int y4, .float 0] [] SHy I P 0 0) {y1 : Nat} {y3 : Int32} {y4 : Int32} {y5 : Int32} {I : zI} {P : zP} (hP : PSt P) (h : j_X7_writeBehind_81 X13 K y1 y3 y4 y5 I P) : Gx κ 81 [.ref 7, .ref y1, .ref 108, .int y3, .int y4, .int y5] [] SHy I P 0 0 := by
  unfold j_X7_writeBehind_81 at h
  refine g_aload_n cx dX7_writeBehind_81 rfl ?_
  refine g_aload_n cx dX7_writeBehind_82 rfl ?_
  obtain ⟨hs1, h⟩ := h
  obtain ⟨v2, hv3, h⟩ := h
  refine g_getR cx lk_X7_160 hs1 (Nat.le_of_ble_eq_true rfl) rfl dX7_writeBehind_83 hv3 ?_
  refine g_iload cx dX7_writeBehind_86 rfl ?_
  refine g_iconst cx dX7_writeBehind_88 ic_4 ?_
  refine g_icmp_ne cx (tgt := 97) dX7_writeBehind_89 rfl (fun c4 => ?_) (fun c4 => ?_)
  · have h := zifn c4 h
    refine g_bipush cx dX7_writeBehind_97 bp_57 ?_
    refine (Gx.unset 5 (Gx.L [.ref 7, .ref y1, .ref 108, .int y3, .int y4, .float 0] rfl ?_))
    exact gj_X7_writeBehind_99 cx hE hX13 hP h
  · have h := zifp c4 h
    refine g_bipush cx dX7_writeBehind_92 bp_54 ?_
    refine g_goto cx (tgt := 99) dX7_writeBehind_94 rfl ?_
    refine (Gx.unset 5 (Gx.L [.ref 7, .ref y1, .ref 108, .int y3, .int y4, .float 0] rfl ?_))
    exact gj_X7_writeBehind_99 cx hE hX13 hP h
def l_X7_writeBehind_13 (K : zI → zP → Prop) : Nat → Nat → Int32 → Int32 → zI → zP → Prop
  | 0, _, _, _, _, _ => False
  | n + 1, y1, y3, y4, I, P => if (I 108 5) ≤ y4 then (K I P) else (SHy[y1]? = some (3, 11) ∧ (w_X4_isAt y4 (I y1 0) y3 I P (fun (v3 : Int32) (I3 : zI) (P3 : zP) => (if v3 = 0 then ((l_X7_writeBehind_13 K n) y1 y3 (y4 + 1) I3 P3) else (w_X4_sortOf y4 I3 P3 (fun (v5 : Int32) (I5 : zI) (P5 : zP) => (if v5 = 1 then (∃ v9, P5 y1 6 = some v9 ∧ (w_X7_writeSide v9 y4 0 y3 I5 P5 (fun (I11 : zI) (P11 : zP) => ((l_X7_writeBehind_13 K n) y1 y3 (y4 + 1) I11 P11)))) else (if v5 = 4 then (j_X7_writeBehind_81 (l_X7_writeBehind_13 K n) K y1 y3 y4 v5 I5 P5) else (if v5 = 7 then (j_X7_writeBehind_81 (l_X7_writeBehind_13 K n) K y1 y3 y4 v5 I5 P5) else ((l_X7_writeBehind_13 K n) y1 y3 (y4 + 1) I5 P5))))))))))
theorem gl_X7_writeBehind_13 {κ : zX} (cx : Cx yX7_writeBehind cX7_writeBehind 6 none 2 47 κ) {K : zI → zP → Prop} (hE : zEnd (zKv K) 0 0 κ) : ∀ (n : Nat) (y1 : Nat) (y3 : Int32) (y4 : Int32) (I : zI) (P : zP), PSt P → l_X7_writeBehind_13 K n y1 y3 y4 I P → Gx κ 13 [.ref 7, .ref y1, .ref 108, .int y3, .int y4, .float 0] [] SHy I P 0 0 := by
  intro n
  induction n with
  | zero =>
    intro y1 y3 y4 I P hP h
    rw [l_X7_writeBehind_13] at h
    exact False.elim h
  | succ n ih =>
    intro y1 y3 y4 I P hP h
    rw [l_X7_writeBehind_13] at h
    refine g_iload cx dX7_writeBehind_13 rfl ?_
    refine g_aload_n cx dX7_writeBehind_15 rfl ?_
    refine g_getI cx lk_X7_89 rfl (Nat.le_of_ble_eq_true rfl) rfl dX7_writeBehind_16 (x := (I 108 5)) rfl ?_
    refine g_icmp_ge cx (tgt := 120) dX7_writeBehind_19 rfl (fun c1 => ?_) (fun c1 => ?_)
    · have h := zifp c1 h
      exact g_wv cx hE dX7_writeBehind_120 rfl hP h
    · have h := zifn c1 h
      refine g_aload_n cx dX7_writeBehind_22 rfl ?_
      refine g_iload cx dX7_writeBehind_23 rfl ?_
      refine g_aload_n cx dX7_writeBehind_25 rfl ?_
      obtain ⟨hs2, h⟩ := h
      refine g_getI cx lk_X7_100 hs2 (Nat.le_of_ble_eq_true rfl) rfl dX7_writeBehind_26 (x := (I y1 0)) rfl ?_
      refine g_iload_n cx dX7_writeBehind_29 rfl ?_
      refine g_wVi cx [.int y4, .int (I y1 0), .int y3] [] (e_X4_isAt hP h) mt_X4_isAt ml_X7_214 rfl rfl rfl dX7_writeBehind_30 rfl rfl (Nat.le_of_ble_eq_true rfl) (Nat.le_of_ble_eq_true rfl) (Nat.le_of_ble_eq_true rfl) (fun v3 I3 P3 hP h => ?_)
      refine g_if_ne cx (tgt := 39) dX7_writeBehind_33 rfl (fun c4 => ?_) (fun c4 => ?_)
      · have h := zifn c4 h
        refine g_aload_n cx dX7_writeBehind_39 rfl ?_
        refine g_iload cx dX7_writeBehind_40 rfl ?_
        refine g_wVi cx [.int y4] [] (e_X4_sortOf hP h) mt_X4_sortOf ml_X7_211 rfl rfl rfl dX7_writeBehind_42 rfl rfl (Nat.le_of_ble_eq_true rfl) (Nat.le_of_ble_eq_true rfl) (Nat.le_of_ble_eq_true rfl) (fun v5 I5 P5 hP h => ?_)
        refine g_istore cx dX7_writeBehind_45 (Nat.le_of_ble_eq_true rfl) (Gx.L [.ref 7, .ref y1, .ref 108, .int y3, .int y4, .int v5] rfl ?_)
        refine g_iload cx dX7_writeBehind_47 rfl ?_
        refine g_iconst cx dX7_writeBehind_49 ic_1 ?_
        refine g_icmp_ne cx (tgt := 68) dX7_writeBehind_50 rfl (fun c6 => ?_) (fun c6 => ?_)
        · have h := zifn c6 h
          refine g_iload cx dX7_writeBehind_68 rfl ?_
          refine g_iconst cx dX7_writeBehind_70 ic_4 ?_
          refine g_icmp_eq cx (tgt := 81) dX7_writeBehind_71 rfl (fun c7 => ?_) (fun c7 => ?_)
          · have h := zifp c7 h
            exact gj_X7_writeBehind_81 cx hE ih hP h
          · have h := zifn c7 h
            refine g_iload cx dX7_writeBehind_74 rfl ?_
            refine g_bipush cx dX7_writeBehind_76 bp_7 ?_
            refine g_icmp_ne cx (tgt := 114) dX7_writeBehind_78 rfl (fun c8 => ?_) (fun c8 => ?_)
            · have h := zifn c8 h
              refine g_iinc cx (v := (y4 + 1)) dX7_writeBehind_114 rfl rfl (Nat.le_of_ble_eq_true rfl) (Gx.L [.ref 7, .ref y1, .ref 108, .int y3, .int (y4 + 1), .int v5] rfl ?_)
              refine g_goto cx (tgt := 13) dX7_writeBehind_117 rfl ?_
              refine (Gx.unset 5 (Gx.L [.ref 7, .ref y1, .ref 108, .int y3, .int (y4 + 1), .float 0] rfl ?_))
              exact ih _ _ _ _ _ hP h
            · have h := zifp c8 h
              exact gj_X7_writeBehind_81 cx hE ih hP h
        · have h := zifp c6 h
          refine g_aload_n cx dX7_writeBehind_53 rfl ?_
          refine g_aload_n cx dX7_writeBehind_54 rfl ?_
          obtain ⟨v9, hv10, h⟩ := h
          refine g_getR cx lk_X7_160 hs2 (Nat.le_of_ble_eq_true rfl) rfl dX7_writeBehind_55 hv10 ?_
          refine g_iload cx dX7_writeBehind_58 rfl ?_
          refine g_iconst cx dX7_writeBehind_60 ic_0 ?_
          refine g_iload_n cx dX7_writeBehind_61 rfl ?_
          refine g_wVv cx [.ref v9, .int y4, .int 0, .int y3] [] (e_X7_writeSide hP h) mt_X7_writeSide ml_X7_242 rfl rfl rfl dX7_writeBehind_62 rfl rfl (Nat.le_of_ble_eq_true rfl) (Nat.le_of_ble_eq_true rfl) (Nat.le_of_ble_eq_true rfl) (fun I11 P11 hP h => ?_)
          refine g_goto cx (tgt := 114) dX7_writeBehind_65 rfl ?_
          refine g_iinc cx (v := (y4 + 1)) dX7_writeBehind_114 rfl rfl (Nat.le_of_ble_eq_true rfl) (Gx.L [.ref 7, .ref y1, .ref 108, .int y3, .int (y4 + 1), .int v5] rfl ?_)
          refine g_goto cx (tgt := 13) dX7_writeBehind_117 rfl ?_
          refine (Gx.unset 5 (Gx.L [.ref 7, .ref y1, .ref 108, .int y3, .int (y4 + 1), .float 0] rfl ?_))
          exact ih _ _ _ _ _ hP h
      · have h := zifp c4 h
        refine g_goto cx (tgt := 114) dX7_writeBehind_36 rfl ?_
        refine g_iinc cx (v := (y4 + 1)) dX7_writeBehind_114 rfl rfl (Nat.le_of_ble_eq_true rfl) (Gx.L [.ref 7, .ref y1, .ref 108, .int y3, .int (y4 + 1), .float 0] rfl ?_)
        refine g_goto cx (tgt := 13) dX7_writeBehind_117 rfl ?_
        exact ih _ _ _ _ _ hP h
def w_X7_writeBehind (x1 : Nat) (x3 : Int32) (I : zI) (P : zP) (K : zI → zP → Prop) : Prop := vp_in x3 400 ∧ (if (I 9 ((x3).toNatClampNeg)) = 0 then (K I P) else (∃ n9, l_X7_writeBehind_13 K n9 x1 x3 0 I P))
theorem e_X7_writeBehind {x1 : Nat} {x3 : Int32} {I : zI} {P : zP} {K : zI → zP → Prop} (hP : PSt P) (h : w_X7_writeBehind x1 x3 I P K) : Ev yX7_writeBehind cX7_writeBehind 6 none 2 47 0 0 [.ref 7, .ref x1, .ref 108, .int x3] SHy I P (zKv K) := by
  refine Ev.start [.ref 7, .ref x1, .ref 108, .int x3, .float 0, .float 0] pn_X7 rfl (Nat.le_of_ble_eq_true rfl) rfl (fun κ cx hE => ?_)
  unfold w_X7_writeBehind at h
  refine g_aload_n cx dX7_writeBehind_0 rfl ?_
  refine g_getR cx lk_X7_15 rfl (Nat.le_of_ble_eq_true rfl) rfl dX7_writeBehind_1 (v := 9) (pst hP 6 rfl) ?_
  refine g_iload_n cx dX7_writeBehind_4 rfl ?_
  obtain ⟨hc1, h⟩ := h
  refine g_iald cx dX7_writeBehind_5 rfl hc1 (x := (I 9 ((x3).toNatClampNeg))) rfl ?_
  refine g_if_ne cx (tgt := 10) dX7_writeBehind_6 rfl (fun c2 => ?_) (fun c2 => ?_)
  · have h := zifn c2 h
    refine g_iconst cx dX7_writeBehind_10 ic_0 ?_
    refine g_istore cx dX7_writeBehind_11 (Nat.le_of_ble_eq_true rfl) (Gx.L [.ref 7, .ref x1, .ref 108, .int x3, .int 0, .float 0] rfl ?_)
    obtain ⟨n9, h⟩ := h
    exact gl_X7_writeBehind_13 cx hE n9 _ _ _ _ _ hP h
  · have h := zifp c2 h
    exact g_wv cx hE dX7_writeBehind_9 rfl hP h
def w_X7_writePair (x1 : Nat) (x2 : Int32) (x3 : Int32) (I : zI) (P : zP) (K : zI → zP → Prop) : Prop := w_X7_writeByte x1 ((x2 : Int32) >>> ((8 : Int32) &&& 31)) x3 I P (fun (I1 : zI) (P1 : zP) => (w_X7_writeByte x1 x2 x3 I1 P1 (fun (I2 : zI) (P2 : zP) => (K I2 P2))))
theorem e_X7_writePair {x1 : Nat} {x2 : Int32} {x3 : Int32} {I : zI} {P : zP} {K : zI → zP → Prop} (hP : PSt P) (h : w_X7_writePair x1 x2 x3 I P K) : Ev yX7_writePair cX7_writePair 4 none 1 23 0 0 [.ref 7, .ref x1, .int x2, .int x3] SHy I P (zKv K) := by
  refine Ev.start [.ref 7, .ref x1, .int x2, .int x3] pn_X7 rfl (Nat.le_of_ble_eq_true rfl) rfl (fun κ cx hE => ?_)
  unfold w_X7_writePair at h
  refine g_aload_n cx dX7_writePair_0 rfl ?_
  refine g_aload_n cx dX7_writePair_1 rfl ?_
  refine g_iload_n cx dX7_writePair_2 rfl ?_
  refine g_bipush cx dX7_writePair_3 bp_8 ?_
  refine g_ishr cx dX7_writePair_5 ?_
  refine g_iload_n cx dX7_writePair_6 rfl ?_
  refine g_wVv cx [.ref x1, .int ((x2 : Int32) >>> ((8 : Int32) &&& 31)), .int x3] [] (e_X7_writeByte hP h) mt_X7_writeByte ml_X7_221 rfl rfl rfl dX7_writePair_7 rfl rfl (Nat.le_of_ble_eq_true rfl) (Nat.le_of_ble_eq_true rfl) (Nat.le_of_ble_eq_true rfl) (fun I1 P1 hP h => ?_)
  refine g_aload_n cx dX7_writePair_10 rfl ?_
  refine g_aload_n cx dX7_writePair_11 rfl ?_
  refine g_iload_n cx dX7_writePair_12 rfl ?_
  refine g_iload_n cx dX7_writePair_13 rfl ?_
  refine g_wVv cx [.ref x1, .int x2, .int x3] [] (e_X7_writeByte hP h) mt_X7_writeByte ml_X7_221 rfl rfl rfl dX7_writePair_14 rfl rfl (Nat.le_of_ble_eq_true rfl) (Nat.le_of_ble_eq_true rfl) (Nat.le_of_ble_eq_true rfl) (fun I2 P2 hP h => ?_)
  exact g_wv cx hE dX7_writePair_17 rfl hP h
def w_X7_writeJump (x1 : Nat) (x2 : Int32) (x3 : Int32) (x4 : Int32) (I : zI) (P : zP) (K : zI → zP → Prop) : Prop := w_X7_writeByte x1 x2 x4 I P (fun (I1 : zI) (P1 : zP) => (w_X9_isLongJump x2 I1 P1 (fun (v2 : Int32) (I2 : zI) (P2 : zP) => (if v2 = 0 then (w_X7_writeByte x1 (x3 - (I 7 16)) x4 I2 P2 (fun (I4 : zI) (P4 : zP) => (K I4 P4))) else (w_X7_writePair x1 (x3 - (I 7 16)) x4 I2 P2 (fun (I5 : zI) (P5 : zP) => (K I5 P5)))))))
theorem e_X7_writeJump {x1 : Nat} {x2 : Int32} {x3 : Int32} {x4 : Int32} {I : zI} {P : zP} {K : zI → zP → Prop} (hP : PSt P) (h : w_X7_writeJump x1 x2 x3 x4 I P K) : Ev yX7_writeJump cX7_writeJump 6 none 2 46 0 0 [.ref 7, .ref x1, .int x2, .int x3, .int x4] SHy I P (zKv K) := by
  refine Ev.start [.ref 7, .ref x1, .int x2, .int x3, .int x4, .float 0] pn_X7 rfl (Nat.le_of_ble_eq_true rfl) rfl (fun κ cx hE => ?_)
  unfold w_X7_writeJump at h
  refine g_iload_n cx dX7_writeJump_0 rfl ?_
  refine g_aload_n cx dX7_writeJump_1 rfl ?_
  refine g_getI cx lk_X7_62 rfl (Nat.le_of_ble_eq_true rfl) rfl dX7_writeJump_2 (x := (I 7 16)) rfl ?_
  refine g_isub cx dX7_writeJump_5 ?_
  refine g_istore cx dX7_writeJump_6 (Nat.le_of_ble_eq_true rfl) (Gx.L [.ref 7, .ref x1, .int x2, .int x3, .int x4, .int (x3 - (I 7 16))] rfl ?_)
  refine g_aload_n cx dX7_writeJump_8 rfl ?_
  refine g_aload_n cx dX7_writeJump_9 rfl ?_
  refine g_iload_n cx dX7_writeJump_10 rfl ?_
  refine g_iload cx dX7_writeJump_11 rfl ?_
  refine g_wVv cx [.ref x1, .int x2, .int x4] [] (e_X7_writeByte hP h) mt_X7_writeByte ml_X7_221 rfl rfl rfl dX7_writeJump_13 rfl rfl (Nat.le_of_ble_eq_true rfl) (Nat.le_of_ble_eq_true rfl) (Nat.le_of_ble_eq_true rfl) (fun I1 P1 hP h => ?_)
  refine g_iload_n cx dX7_writeJump_16 rfl ?_
  refine g_wSi cx [.int x2] [] (e_X9_isLongJump hP h) mt_X9_isLongJump ml_X7_225 dX7_writeJump_17 rfl rfl (Nat.le_of_ble_eq_true rfl) (Nat.le_of_ble_eq_true rfl) (Nat.le_of_ble_eq_true rfl) (fun v2 I2 P2 hP h => ?_)
  refine g_if_eq cx (tgt := 35) dX7_writeJump_20 rfl (fun c3 => ?_) (fun c3 => ?_)
  · have h := zifp c3 h
    refine g_aload_n cx dX7_writeJump_35 rfl ?_
    refine g_aload_n cx dX7_writeJump_36 rfl ?_
    refine g_iload cx dX7_writeJump_37 rfl ?_
    refine g_iload cx dX7_writeJump_39 rfl ?_
    refine g_wVv cx [.ref x1, .int (x3 - (I 7 16)), .int x4] [] (e_X7_writeByte hP h) mt_X7_writeByte ml_X7_221 rfl rfl rfl dX7_writeJump_41 rfl rfl (Nat.le_of_ble_eq_true rfl) (Nat.le_of_ble_eq_true rfl) (Nat.le_of_ble_eq_true rfl) (fun I4 P4 hP h => ?_)
    exact g_wv cx hE dX7_writeJump_44 rfl hP h
  · have h := zifn c3 h
    refine g_aload_n cx dX7_writeJump_23 rfl ?_
    refine g_aload_n cx dX7_writeJump_24 rfl ?_
    refine g_iload cx dX7_writeJump_25 rfl ?_
    refine g_iload cx dX7_writeJump_27 rfl ?_
    refine g_wVv cx [.ref x1, .int (x3 - (I 7 16)), .int x4] [] (e_X7_writePair hP h) mt_X7_writePair ml_X7_239 rfl rfl rfl dX7_writeJump_29 rfl rfl (Nat.le_of_ble_eq_true rfl) (Nat.le_of_ble_eq_true rfl) (Nat.le_of_ble_eq_true rfl) (fun I5 P5 hP h => ?_)
    refine g_goto cx (tgt := 44) dX7_writeJump_32 rfl ?_
    exact g_wv cx hE dX7_writeJump_44 rfl hP h
def j_X7_writeCaughtPads_61 (X2 : Nat → Int32 → zI → zP → Prop) (K : zI → zP → Prop) (y1 : Nat) (y3 : Int32) (y4 : Int32) (s0 : Int32) (s1 : Nat) (I : zI) (P : zP) : Prop := w_X7_groupAt y4 I P (fun (v1 : Int32) (I1 : zI) (P1 : zP) => (w_X7_writeJump s1 s0 v1 (-1) I1 P1 (fun (I2 : zI) (P2 : zP) => (X2 y1 (y3 + 1) I2 P2))))
theorem gj_X7_writeCaughtPads_61 {κ : zX} (cx : Cx yX7_writeCaughtPads cX7_writeCaughtPads 5 none 3 71 κ) {K : zI → zP → Prop} (hE : zEnd (zKv K) 0 0 κ) {X2 : Nat → Int32 → zI → zP → Prop} (hX2 : ∀ (y1 : Nat) (y3 : Int32) (I : zI) (P : zP), PSt P → X2 y1 y3 I P → Gx κ 2 [.ref 7, .ref y1, .ref 108, .int y3, .float 0] [] SHy I P 0 0) {y1 : Nat} {y3 : Int32} {y4 : Int32} {s0 : Int32} {s1 : Nat} {I : zI} {P : zP} (hP : PSt P) (h : j_X7_writeCaughtPads_61 X2 K y1 y3 y4 s0 s1 I P) : Gx κ 61 [.ref 7, .ref y1, .ref 108, .int y3, .int y4] [.int s0, .ref s1, .ref 7] SHy I P 0 0 := by
  unfold j_X7_writeCaughtPads_61 at h
  refine g_aload_n cx dX7_writeCaughtPads_61 rfl ?_
  refine g_iload cx dX7_writeCaughtPads_62 rfl ?_
  refine g_wVi cx [.int y4] [.int s0, .ref s1, .ref 7] (e_X7_groupAt hP h) mt_X7_groupAt ml_X7_142 rfl rfl rfl dX7_writeCaughtPads_64 rfl rfl (Nat.le_of_ble_eq_true rfl) (Nat.le_of_ble_eq_true rfl) (Nat.le_of_ble_eq_true rfl) (fun v1 I1 P1 hP h => ?_)
  refine g_iconst cx dX7_writeCaughtPads_67 ic_m1 ?_
  refine g_wVv cx [.ref s1, .int s0, .int v1, .int (-1)] [] (e_X7_writeJump hP h) mt_X7_writeJump ml_X7_228 rfl rfl rfl dX7_writeCaughtPads_68 rfl rfl (Nat.le_of_ble_eq_true rfl) (Nat.le_of_ble_eq_true rfl) (Nat.le_of_ble_eq_true rfl) (fun I2 P2 hP h => ?_)
  refine g_iinc cx (v := (y3 + 1)) dX7_writeCaughtPads_71 rfl rfl (Nat.le_of_ble_eq_true rfl) (Gx.L [.ref 7, .ref y1, .ref 108, .int (y3 + 1), .int y4] rfl ?_)
  refine g_goto cx (tgt := 2) dX7_writeCaughtPads_74 rfl ?_
  refine (Gx.unset 4 (Gx.L [.ref 7, .ref y1, .ref 108, .int (y3 + 1), .float 0] rfl ?_))
  exact hX2 _ _ _ _ hP h
def l_X7_writeCaughtPads_2 (K : zI → zP → Prop) : Nat → Nat → Int32 → zI → zP → Prop
  | 0, _, _, _, _ => False
  | n + 1, y1, y3, I, P => SHy[y1]? = some (3, 11) ∧ (if (I y1 10) ≤ y3 then (K I P) else (w_X7_caughtAt y1 y3 I P (fun (v3 : Int32) (I3 : zI) (P3 : zP) => (if v3 ≤ 0 then ((l_X7_writeCaughtPads_2 K n) y1 (y3 + 1) I3 P3) else (∃ v5, P3 y1 5 = some v5 ∧ (w_X9_handlerPart v5 y3 2 I3 P3 (fun (v7 : Int32) (I7 : zI) (P7 : zP) => (w_X7_writeProbes y1 5 v7 (-1) I7 P7 (fun (I8 : zI) (P8 : zP) => (∃ v9, P8 y1 6 = some v9 ∧ (vp_in y3 8 ∧ (if (I8 18 ((y3).toNatClampNeg)) = 0 then (j_X7_writeCaughtPads_61 (l_X7_writeCaughtPads_2 K n) K y1 y3 v7 20 v9 I8 P8) else (j_X7_writeCaughtPads_61 (l_X7_writeCaughtPads_2 K n) K y1 y3 v7 84 v9 I8 P8)))))))))))))
theorem gl_X7_writeCaughtPads_2 {κ : zX} (cx : Cx yX7_writeCaughtPads cX7_writeCaughtPads 5 none 3 71 κ) {K : zI → zP → Prop} (hE : zEnd (zKv K) 0 0 κ) : ∀ (n : Nat) (y1 : Nat) (y3 : Int32) (I : zI) (P : zP), PSt P → l_X7_writeCaughtPads_2 K n y1 y3 I P → Gx κ 2 [.ref 7, .ref y1, .ref 108, .int y3, .float 0] [] SHy I P 0 0 := by
  intro n
  induction n with
  | zero =>
    intro y1 y3 I P hP h
    rw [l_X7_writeCaughtPads_2] at h
    exact False.elim h
  | succ n ih =>
    intro y1 y3 I P hP h
    rw [l_X7_writeCaughtPads_2] at h
    refine g_iload_n cx dX7_writeCaughtPads_2 rfl ?_
    refine g_aload_n cx dX7_writeCaughtPads_3 rfl ?_
    obtain ⟨hs1, h⟩ := h
    refine g_getI cx lk_X7_125 hs1 (Nat.le_of_ble_eq_true rfl) rfl dX7_writeCaughtPads_4 (x := (I y1 10)) rfl ?_
    refine g_icmp_ge cx (tgt := 77) dX7_writeCaughtPads_7 rfl (fun c2 => ?_) (fun c2 => ?_)
    · have h := zifp c2 h
      exact g_wv cx hE dX7_writeCaughtPads_77 rfl hP h
    · have h := zifn c2 h
      refine g_aload_n cx dX7_writeCaughtPads_10 rfl ?_
      refine g_aload_n cx dX7_writeCaughtPads_11 rfl ?_
      refine g_iload_n cx dX7_writeCaughtPads_12 rfl ?_
      refine g_wVi cx [.ref y1, .int y3] [] (e_X7_caughtAt hP h) mt_X7_caughtAt ml_X7_128 rfl rfl rfl dX7_writeCaughtPads_13 rfl rfl (Nat.le_of_ble_eq_true rfl) (Nat.le_of_ble_eq_true rfl) (Nat.le_of_ble_eq_true rfl) (fun v3 I3 P3 hP h => ?_)
      refine g_if_le cx (tgt := 71) dX7_writeCaughtPads_16 rfl (fun c4 => ?_) (fun c4 => ?_)
      · have h := zifp c4 h
        refine g_iinc cx (v := (y3 + 1)) dX7_writeCaughtPads_71 rfl rfl (Nat.le_of_ble_eq_true rfl) (Gx.L [.ref 7, .ref y1, .ref 108, .int (y3 + 1), .float 0] rfl ?_)
        refine g_goto cx (tgt := 2) dX7_writeCaughtPads_74 rfl ?_
        exact ih _ _ _ _ hP h
      · have h := zifn c4 h
        refine g_aload_n cx dX7_writeCaughtPads_19 rfl ?_
        obtain ⟨v5, hv6, h⟩ := h
        refine g_getR cx lk_X7_132 hs1 (Nat.le_of_ble_eq_true rfl) rfl dX7_writeCaughtPads_20 hv6 ?_
        refine g_iload_n cx dX7_writeCaughtPads_23 rfl ?_
        refine g_iconst cx dX7_writeCaughtPads_24 ic_2 ?_
        refine g_wSi cx [.ref v5, .int y3, .int 2] [] (e_X9_handlerPart hP h) mt_X9_handlerPart ml_X7_135 dX7_writeCaughtPads_25 rfl rfl (Nat.le_of_ble_eq_true rfl) (Nat.le_of_ble_eq_true rfl) (Nat.le_of_ble_eq_true rfl) (fun v7 I7 P7 hP h => ?_)
        refine g_istore cx dX7_writeCaughtPads_28 (Nat.le_of_ble_eq_true rfl) (Gx.L [.ref 7, .ref y1, .ref 108, .int y3, .int v7] rfl ?_)
        refine g_aload_n cx dX7_writeCaughtPads_30 rfl ?_
        refine g_aload_n cx dX7_writeCaughtPads_31 rfl ?_
        refine g_aload_n cx dX7_writeCaughtPads_32 rfl ?_
        refine g_iconst cx dX7_writeCaughtPads_33 ic_5 ?_
        refine g_iload cx dX7_writeCaughtPads_34 rfl ?_
        refine g_iconst cx dX7_writeCaughtPads_36 ic_m1 ?_
        refine g_wVv cx [.ref y1, .ref 108, .int 5, .int v7, .int (-1)] [] (e_X7_writeProbes hP h) mt_X7_writeProbes ml_X7_169 rfl rfl rfl dX7_writeCaughtPads_37 rfl rfl (Nat.le_of_ble_eq_true rfl) (Nat.le_of_ble_eq_true rfl) (Nat.le_of_ble_eq_true rfl) (fun I8 P8 hP h => ?_)
        refine g_aload_n cx dX7_writeCaughtPads_40 rfl ?_
        refine g_aload_n cx dX7_writeCaughtPads_41 rfl ?_
        obtain ⟨v9, hv10, h⟩ := h
        refine g_getR cx lk_X7_160 hs1 (Nat.le_of_ble_eq_true rfl) rfl dX7_writeCaughtPads_42 hv10 ?_
        refine g_aload_n cx dX7_writeCaughtPads_45 rfl ?_
        refine g_getR cx lk_X7_43 rfl (Nat.le_of_ble_eq_true rfl) rfl dX7_writeCaughtPads_46 (v := 18) (pst hP 15 rfl) ?_
        refine g_iload_n cx dX7_writeCaughtPads_49 rfl ?_
        obtain ⟨hc11, h⟩ := h
        refine g_bald cx dX7_writeCaughtPads_50 rfl hc11 (x := (I8 18 ((y3).toNatClampNeg))) rfl ?_
        refine g_if_eq cx (tgt := 59) dX7_writeCaughtPads_51 rfl (fun c12 => ?_) (fun c12 => ?_)
        · have h := zifp c12 h
          refine g_bipush cx dX7_writeCaughtPads_59 bp_20 ?_
          exact gj_X7_writeCaughtPads_61 cx hE ih hP h
        · have h := zifn c12 h
          refine g_bipush cx dX7_writeCaughtPads_54 bp_84 ?_
          refine g_goto cx (tgt := 61) dX7_writeCaughtPads_56 rfl ?_
          exact gj_X7_writeCaughtPads_61 cx hE ih hP h
def w_X7_writeCaughtPads (x1 : Nat) (I : zI) (P : zP) (K : zI → zP → Prop) : Prop := ∃ n9, l_X7_writeCaughtPads_2 K n9 x1 0 I P
theorem e_X7_writeCaughtPads {x1 : Nat} {I : zI} {P : zP} {K : zI → zP → Prop} (hP : PSt P) (h : w_X7_writeCaughtPads x1 I P K) : Ev yX7_writeCaughtPads cX7_writeCaughtPads 5 none 3 71 0 0 [.ref 7, .ref x1, .ref 108] SHy I P (zKv K) := by
  refine Ev.start [.ref 7, .ref x1, .ref 108, .float 0, .float 0] pn_X7 rfl (Nat.le_of_ble_eq_true rfl) rfl (fun κ cx hE => ?_)
  unfold w_X7_writeCaughtPads at h
  refine g_iconst cx dX7_writeCaughtPads_0 ic_0 ?_
  refine g_istore_n cx dX7_writeCaughtPads_1 (Nat.le_of_ble_eq_true rfl) (Gx.L [.ref 7, .ref x1, .ref 108, .int 0, .float 0] rfl ?_)
  obtain ⟨n9, h⟩ := h
  exact gl_X7_writeCaughtPads_2 cx hE n9 _ _ _ _ hP h
def w_X7_writeHandler (x1 : Nat) (x2 : Int32) (x3 : Int32) (x4 : Int32) (x5 : Int32) (x6 : Int32) (I : zI) (P : zP) (K : zI → zP → Prop) : Prop := if (x2 * 4) < 0 then (K I P) else (SHy[x1]? = some (11, (zlen x1)) ∧ (if ((x2 * 4) + 3) < (Int32.ofNat (zlen x1)) then (vp_in (x2 * 4) (zlen x1) ∧ (vp_in ((x2 * 4) + 1) (zlen x1) ∧ (vp_in ((x2 * 4) + 2) (zlen x1) ∧ (vp_in ((x2 * 4) + 3) (zlen x1) ∧ (K (zu (zu (zu (zu I x1 (((x2 * 4)).toNatClampNeg) x3) x1 ((((x2 * 4) + 1)).toNatClampNeg) x4) x1 ((((x2 * 4) + 2)).toNatClampNeg) x5) x1 ((((x2 * 4) + 3)).toNatClampNeg) x6) P))))) else (K I P)))
theorem e_X7_writeHandler {x1 : Nat} {x2 : Int32} {x3 : Int32} {x4 : Int32} {x5 : Int32} {x6 : Int32} {I : zI} {P : zP} {K : zI → zP → Prop} (hP : PSt P) (h : w_X7_writeHandler x1 x2 x3 x4 x5 x6 I P K) : Ev yX7_writeHandler cX7_writeHandler 7 none 0 0 0 0 [.ref x1, .int x2, .int x3, .int x4, .int x5, .int x6] SHy I P (zKv K) := by
  refine Ev.start [.ref x1, .int x2, .int x3, .int x4, .int x5, .int x6, .float 0] pn_X7 rfl (Nat.le_of_ble_eq_true rfl) rfl (fun κ cx hE => ?_)
  unfold w_X7_writeHandler at h
  refine g_iload_n cx dX7_writeHandler_0 rfl ?_
  refine g_iconst cx dX7_writeHandler_1 ic_4 ?_
  refine g_imul cx dX7_writeHandler_2 ?_
  refine g_istore cx dX7_writeHandler_3 (Nat.le_of_ble_eq_true rfl) (Gx.L [.ref x1, .int x2, .int x3, .int x4, .int x5, .int x6, .int (x2 * 4)] rfl ?_)
  refine g_iload cx dX7_writeHandler_5 rfl ?_
  refine g_if_lt cx (tgt := 19) dX7_writeHandler_7 rfl (fun c1 => ?_) (fun c1 => ?_)
  · have h := zifp c1 h
    exact g_wv cx hE dX7_writeHandler_19 rfl hP h
  · have h := zifn c1 h
    refine g_iload cx dX7_writeHandler_10 rfl ?_
    refine g_iconst cx dX7_writeHandler_12 ic_3 ?_
    refine g_iadd cx dX7_writeHandler_13 ?_
    refine g_aload_n cx dX7_writeHandler_14 rfl ?_
    obtain ⟨hs2, h⟩ := h
    refine g_alen cx hs2 (Nat.le_of_ble_eq_true rfl) (Nat.le_of_ble_eq_true rfl) dX7_writeHandler_15 ?_
    refine g_icmp_lt cx (tgt := 20) dX7_writeHandler_16 rfl (fun c3 => ?_) (fun c3 => ?_)
    · have h := zifp c3 h
      refine g_aload_n cx dX7_writeHandler_20 rfl ?_
      refine g_iload cx dX7_writeHandler_21 rfl ?_
      refine g_iload_n cx dX7_writeHandler_23 rfl ?_
      obtain ⟨hc4, h⟩ := h
      refine g_iast cx dX7_writeHandler_24 hs2 hc4 ?_
      refine g_aload_n cx dX7_writeHandler_25 rfl ?_
      refine g_iload cx dX7_writeHandler_26 rfl ?_
      refine g_iconst cx dX7_writeHandler_28 ic_1 ?_
      refine g_iadd cx dX7_writeHandler_29 ?_
      refine g_iload_n cx dX7_writeHandler_30 rfl ?_
      obtain ⟨hc5, h⟩ := h
      refine g_iast cx dX7_writeHandler_31 hs2 hc5 ?_
      refine g_aload_n cx dX7_writeHandler_32 rfl ?_
      refine g_iload cx dX7_writeHandler_33 rfl ?_
      refine g_iconst cx dX7_writeHandler_35 ic_2 ?_
      refine g_iadd cx dX7_writeHandler_36 ?_
      refine g_iload cx dX7_writeHandler_37 rfl ?_
      obtain ⟨hc6, h⟩ := h
      refine g_iast cx dX7_writeHandler_39 hs2 hc6 ?_
      refine g_aload_n cx dX7_writeHandler_40 rfl ?_
      refine g_iload cx dX7_writeHandler_41 rfl ?_
      refine g_iconst cx dX7_writeHandler_43 ic_3 ?_
      refine g_iadd cx dX7_writeHandler_44 ?_
      refine g_iload cx dX7_writeHandler_45 rfl ?_
      obtain ⟨hc7, h⟩ := h
      refine g_iast cx dX7_writeHandler_47 hs2 hc7 ?_
      exact g_wv cx hE dX7_writeHandler_48 rfl hP h
    · have h := zifn c3 h
      exact g_wv cx hE dX7_writeHandler_19 rfl hP h
