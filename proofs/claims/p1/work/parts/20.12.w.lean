def j_X2_mayBegin_14 (K : Int32 → zI → zP → Prop) (I : zI) (P : zP) : Prop := if (I 114 10) = 0 then (∃ v2, P 114 6 = some v2 ∧ (SHy[v2]? = some (6, 13) ∧ (if (I v2 6) < (I 114 8) then (K 1 I P) else (∃ v6, P 114 6 = some v6 ∧ (SHy[v6]? = some (6, 13) ∧ (K 0 (zu I v6 4 2) P)))))) else (K 0 I P)
theorem gj_X2_mayBegin_14 {κ : zX} (cx : Cx yX2_mayBegin cX2_mayBegin 3 (some .boolean) 3 71 κ) {K : Int32 → zI → zP → Prop} (hE : zEnd (zKi K) 0 0 κ) {I : zI} {P : zP} (hP : PSt P) (h : j_X2_mayBegin_14 K I P) : Gx κ 14 [.ref 114, .float 0, .float 0] [] SHy I P 0 0 := by
  unfold j_X2_mayBegin_14 at h
  refine g_aload_n cx dX2_mayBegin_14 rfl ?_
  refine g_getI cx lk_X2_37 rfl (Nat.le_of_ble_eq_true rfl) rfl dX2_mayBegin_15 (x := (I 114 10)) rfl ?_
  refine g_if_eq cx (tgt := 23) dX2_mayBegin_18 rfl (fun c1 => ?_) (fun c1 => ?_)
  · have h := zifp c1 h
    refine g_aload_n cx dX2_mayBegin_23 rfl ?_
    obtain ⟨v2, hv3, h⟩ := h
    refine g_getR cx lk_X2_67 rfl (Nat.le_of_ble_eq_true rfl) rfl dX2_mayBegin_24 hv3 ?_
    obtain ⟨hs4, h⟩ := h
    refine g_getI cx lk_X2_176 hs4 (Nat.le_of_ble_eq_true rfl) rfl dX2_mayBegin_27 (x := (I v2 6)) rfl ?_
    refine g_aload_n cx dX2_mayBegin_30 rfl ?_
    refine g_getI cx lk_X2_31 rfl (Nat.le_of_ble_eq_true rfl) rfl dX2_mayBegin_31 (x := (I 114 8)) rfl ?_
    refine g_icmp_lt cx (tgt := 47) dX2_mayBegin_34 rfl (fun c5 => ?_) (fun c5 => ?_)
    · have h := zifp c5 h
      refine g_iconst cx dX2_mayBegin_47 ic_1 ?_
      exact g_wi cx hE dX2_mayBegin_48 rfl rfl hP h
    · have h := zifn c5 h
      refine g_aload_n cx dX2_mayBegin_37 rfl ?_
      obtain ⟨v6, hv7, h⟩ := h
      refine g_getR cx lk_X2_67 rfl (Nat.le_of_ble_eq_true rfl) rfl dX2_mayBegin_38 hv7 ?_
      refine g_iconst cx dX2_mayBegin_41 ic_2 ?_
      obtain ⟨hs8, h⟩ := h
      refine g_pI cx lk_X2_106 hs8 (Nat.le_of_ble_eq_true rfl) rfl dX2_mayBegin_42 fi_6_4 rfl rfl ?_
      refine g_iconst cx dX2_mayBegin_45 ic_0 ?_
      exact g_wi cx hE dX2_mayBegin_46 rfl rfl hP h
  · have h := zifn c1 h
    refine g_iconst cx dX2_mayBegin_21 ic_0 ?_
    exact g_wi cx hE dX2_mayBegin_22 rfl rfl hP h
def w_X2_mayBegin (x1 : Nat) (x2 : Int32) (I : zI) (P : zP) (K : Int32 → zI → zP → Prop) : Prop := w_X2_isWatchedHere x1 I P (fun (v1 : Int32) (I1 : zI) (P1 : zP) => (if v1 = 0 then (j_X2_mayBegin_14 K I1 P1) else (w_X2_passAhead x1 x2 I1 P1 (fun (I3 : zI) (P3 : zP) => (j_X2_mayBegin_14 K I3 P3)))))
theorem e_X2_mayBegin {x1 : Nat} {x2 : Int32} {I : zI} {P : zP} {K : Int32 → zI → zP → Prop} (hP : PSt P) (h : w_X2_mayBegin x1 x2 I P K) : Ev yX2_mayBegin cX2_mayBegin 3 (some .boolean) 3 71 0 0 [.ref 114, .ref x1, .int x2] SHy I P (zKi K) := by
  refine Ev.start [.ref 114, .ref x1, .int x2] pn_X2 rfl (Nat.le_of_ble_eq_true rfl) rfl (fun κ cx hE => ?_)
  unfold w_X2_mayBegin at h
  refine g_aload_n cx dX2_mayBegin_0 rfl ?_
  refine g_aload_n cx dX2_mayBegin_1 rfl ?_
  refine g_wVi cx [.ref x1] [] (e_X2_isWatchedHere hP h) mt_X2_isWatchedHere ml_X2_195 rfl rfl rfl dX2_mayBegin_2 rfl rfl (Nat.le_of_ble_eq_true rfl) (Nat.le_of_ble_eq_true rfl) (Nat.le_of_ble_eq_true rfl) (fun v1 I1 P1 hP h => ?_)
  refine g_if_eq cx (tgt := 14) dX2_mayBegin_5 rfl (fun c2 => ?_) (fun c2 => ?_)
  · have h := zifp c2 h
    refine (Gx.unset 1 (Gx.unset 2 (Gx.L [.ref 114, .float 0, .float 0] rfl ?_)))
    exact gj_X2_mayBegin_14 cx hE hP h
  · have h := zifn c2 h
    refine g_aload_n cx dX2_mayBegin_8 rfl ?_
    refine g_aload_n cx dX2_mayBegin_9 rfl ?_
    refine g_iload_n cx dX2_mayBegin_10 rfl ?_
    refine g_wVv cx [.ref x1, .int x2] [] (e_X2_passAhead hP h) mt_X2_passAhead ml_X2_199 rfl rfl rfl dX2_mayBegin_11 rfl rfl (Nat.le_of_ble_eq_true rfl) (Nat.le_of_ble_eq_true rfl) (Nat.le_of_ble_eq_true rfl) (fun I3 P3 hP h => ?_)
    refine (Gx.unset 1 (Gx.unset 2 (Gx.L [.ref 114, .float 0, .float 0] rfl ?_)))
    exact gj_X2_mayBegin_14 cx hE hP h
def j_X2_unwind_80 (K : zI → zP → Prop) (y1 : Int32) (I : zI) (P : zP) : Prop := ∃ v1, P 114 6 = some v1 ∧ (SHy[v1]? = some (6, 13) ∧ (∃ v4, P 114 6 = some v4 ∧ (SHy[v4]? = some (6, 13) ∧ (∃ v7, P 114 6 = some v7 ∧ (SHy[v7]? = some (6, 13) ∧ (∃ v10, P 114 6 = some v10 ∧ (SHy[v10]? = some (6, 13) ∧ (K (zu (zu (zu (zu I v1 4 1) v4 5 y1) v7 9 ((zu (zu I v1 4 1) v4 5 y1) 114 11)) v10 10 ((zu (zu (zu I v1 4 1) v4 5 y1) v7 9 ((zu (zu I v1 4 1) v4 5 y1) 114 11)) 114 12)) P))))))))
theorem gj_X2_unwind_80 {κ : zX} (cx : Cx yX2_unwind cX2_unwind 3 none 2 48 κ) {K : zI → zP → Prop} (hE : zEnd (zKv K) 0 0 κ) {y1 : Int32} {I : zI} {P : zP} (hP : PSt P) (h : j_X2_unwind_80 K y1 I P) : Gx κ 80 [.ref 114, .int y1, .float 0] [] SHy I P 0 0 := by
  unfold j_X2_unwind_80 at h
  refine g_aload_n cx dX2_unwind_80 rfl ?_
  obtain ⟨v1, hv2, h⟩ := h
  refine g_getR cx lk_X2_67 rfl (Nat.le_of_ble_eq_true rfl) rfl dX2_unwind_81 hv2 ?_
  refine g_iconst cx dX2_unwind_84 ic_1 ?_
  obtain ⟨hs3, h⟩ := h
  refine g_pI cx lk_X2_106 hs3 (Nat.le_of_ble_eq_true rfl) rfl dX2_unwind_85 fi_6_4 rfl rfl ?_
  refine g_aload_n cx dX2_unwind_88 rfl ?_
  obtain ⟨v4, hv5, h⟩ := h
  refine g_getR cx lk_X2_67 rfl (Nat.le_of_ble_eq_true rfl) rfl dX2_unwind_89 hv5 ?_
  refine g_iload_n cx dX2_unwind_92 rfl ?_
  obtain ⟨hs6, h⟩ := h
  refine g_pI cx lk_X2_283 hs6 (Nat.le_of_ble_eq_true rfl) rfl dX2_unwind_93 fi_6_5 rfl rfl ?_
  refine g_aload_n cx dX2_unwind_96 rfl ?_
  obtain ⟨v7, hv8, h⟩ := h
  refine g_getR cx lk_X2_67 rfl (Nat.le_of_ble_eq_true rfl) rfl dX2_unwind_97 hv8 ?_
  refine g_aload_n cx dX2_unwind_100 rfl ?_
  refine g_getI cx lk_X2_40 rfl (Nat.le_of_ble_eq_true rfl) rfl dX2_unwind_101 (x := ((zu (zu I v1 4 1) v4 5 y1) 114 11)) rfl ?_
  obtain ⟨hs9, h⟩ := h
  refine g_pI cx lk_X2_304 hs9 (Nat.le_of_ble_eq_true rfl) rfl dX2_unwind_104 fi_6_9 rfl rfl ?_
  refine g_aload_n cx dX2_unwind_107 rfl ?_
  obtain ⟨v10, hv11, h⟩ := h
  refine g_getR cx lk_X2_67 rfl (Nat.le_of_ble_eq_true rfl) rfl dX2_unwind_108 hv11 ?_
  refine g_aload_n cx dX2_unwind_111 rfl ?_
  refine g_getI cx lk_X2_43 rfl (Nat.le_of_ble_eq_true rfl) rfl dX2_unwind_112 (x := ((zu (zu (zu I v1 4 1) v4 5 y1) v7 9 ((zu (zu I v1 4 1) v4 5 y1) 114 11)) 114 12)) rfl ?_
  obtain ⟨hs12, h⟩ := h
  refine g_pI cx lk_X2_305 hs12 (Nat.le_of_ble_eq_true rfl) rfl dX2_unwind_115 fi_6_10 rfl rfl ?_
  exact g_wv cx hE dX2_unwind_118 rfl hP h
def l_X2_unwind_10 (K : zI → zP → Prop) : Nat → Int32 → zI → zP → Prop
  | 0, _, _, _ => False
  | n + 1, y1, I, P => if (I 114 9) ≤ 0 then (j_X2_unwind_80 K y1 I P) else (if 12 < (I 114 9) then (j_X2_unwind_80 K y1 I P) else (vp_in ((I 114 9) - 1) 12 ∧ (∃ v4, P 115 (((I 114 9) - 1)).toNatClampNeg = some v4 ∧ (SHy[v4]? = some (0, 6) ∧ (w_X0_catches v4 y1 I P (fun (v7 : Int32) (I7 : zI) (P7 : zP) => (if v7 = 0 then (w_X2_noteAll v4 3 0 (-y1) I7 P7 (fun (I9 : zI) (P9 : zP) => ((l_X2_unwind_10 K n) y1 (zu I9 114 9 ((I9 114 9) - 1)) P9))) else (w_X2_noteAll v4 5 (I7 v4 5) y1 I7 P7 (fun (I10 : zI) (P10 : zP) => (K I10 P10))))))))))
theorem gl_X2_unwind_10 {κ : zX} (cx : Cx yX2_unwind cX2_unwind 3 none 2 48 κ) {K : zI → zP → Prop} (hE : zEnd (zKv K) 0 0 κ) : ∀ (n : Nat) (y1 : Int32) (I : zI) (P : zP), PSt P → l_X2_unwind_10 K n y1 I P → Gx κ 10 [.ref 114, .int y1, .float 0] [] SHy I P 0 0 := by
  intro n
  induction n with
  | zero =>
    intro y1 I P hP h
    rw [l_X2_unwind_10] at h
    exact False.elim h
  | succ n ih =>
    intro y1 I P hP h
    rw [l_X2_unwind_10] at h
    refine g_aload_n cx dX2_unwind_10 rfl ?_
    refine g_getI cx lk_X2_34 rfl (Nat.le_of_ble_eq_true rfl) rfl dX2_unwind_11 (x := (I 114 9)) rfl ?_
    refine g_if_le cx (tgt := 80) dX2_unwind_14 rfl (fun c1 => ?_) (fun c1 => ?_)
    · have h := zifp c1 h
      exact gj_X2_unwind_80 cx hE hP h
    · have h := zifn c1 h
      refine g_aload_n cx dX2_unwind_17 rfl ?_
      refine g_getI cx lk_X2_34 rfl (Nat.le_of_ble_eq_true rfl) rfl dX2_unwind_18 (x := (I 114 9)) rfl ?_
      refine g_bipush cx dX2_unwind_21 bp_12 ?_
      refine g_icmp_gt cx (tgt := 80) dX2_unwind_23 rfl (fun c2 => ?_) (fun c2 => ?_)
      · have h := zifp c2 h
        exact gj_X2_unwind_80 cx hE hP h
      · have h := zifn c2 h
        refine g_aload_n cx dX2_unwind_26 rfl ?_
        refine g_getR cx lk_X2_11 rfl (Nat.le_of_ble_eq_true rfl) rfl dX2_unwind_27 (v := 115) (pst hP 112 rfl) ?_
        refine g_aload_n cx dX2_unwind_30 rfl ?_
        refine g_getI cx lk_X2_34 rfl (Nat.le_of_ble_eq_true rfl) rfl dX2_unwind_31 (x := (I 114 9)) rfl ?_
        refine g_iconst cx dX2_unwind_34 ic_1 ?_
        refine g_isub cx dX2_unwind_35 ?_
        obtain ⟨hc3, h⟩ := h
        obtain ⟨v4, hv5, h⟩ := h
        refine g_aald cx rfl (Nat.le_of_ble_eq_true rfl) (Nat.le_of_ble_eq_true rfl) hc3 hv5 dX2_unwind_36 ?_
        refine g_astore_n cx dX2_unwind_37 (Nat.le_of_ble_eq_true rfl) (Gx.L [.ref 114, .int y1, .ref v4] rfl ?_)
        refine g_aload_n cx dX2_unwind_38 rfl ?_
        refine g_iload_n cx dX2_unwind_39 rfl ?_
        obtain ⟨hs6, h⟩ := h
        refine g_wVi cx [.int y1] [] (e_X0_catches hP h) mt_X0_catches ml_X2_296 hs6 rfl rfl dX2_unwind_40 rfl rfl (Nat.le_of_ble_eq_true rfl) (Nat.le_of_ble_eq_true rfl) (Nat.le_of_ble_eq_true rfl) (fun v7 I7 P7 hP h => ?_)
        refine g_if_eq cx (tgt := 58) dX2_unwind_43 rfl (fun c8 => ?_) (fun c8 => ?_)
        · have h := zifp c8 h
          refine g_aload_n cx dX2_unwind_58 rfl ?_
          refine g_aload_n cx dX2_unwind_59 rfl ?_
          refine g_iconst cx dX2_unwind_60 ic_3 ?_
          refine g_iconst cx dX2_unwind_61 ic_0 ?_
          refine g_iload_n cx dX2_unwind_62 rfl ?_
          refine g_ineg cx dX2_unwind_63 ?_
          refine g_wVv cx [.ref v4, .int 3, .int 0, .int (-y1)] [] (e_X2_noteAll hP h) mt_X2_noteAll ml_X2_300 rfl rfl rfl dX2_unwind_64 rfl rfl (Nat.le_of_ble_eq_true rfl) (Nat.le_of_ble_eq_true rfl) (Nat.le_of_ble_eq_true rfl) (fun I9 P9 hP h => ?_)
          refine g_aload_n cx dX2_unwind_67 rfl ?_
          refine g_dup cx dX2_unwind_68 rfl ?_
          refine g_getI cx lk_X2_34 rfl (Nat.le_of_ble_eq_true rfl) rfl dX2_unwind_69 (x := (I9 114 9)) rfl ?_
          refine g_iconst cx dX2_unwind_72 ic_1 ?_
          refine g_isub cx dX2_unwind_73 ?_
          refine g_pI cx lk_X2_34 rfl (Nat.le_of_ble_eq_true rfl) rfl dX2_unwind_74 fi_2_9 rfl rfl ?_
          refine g_goto cx (tgt := 10) dX2_unwind_77 rfl ?_
          refine (Gx.unset 2 (Gx.L [.ref 114, .int y1, .float 0] rfl ?_))
          exact ih _ _ _ hP h
        · have h := zifn c8 h
          refine g_aload_n cx dX2_unwind_46 rfl ?_
          refine g_aload_n cx dX2_unwind_47 rfl ?_
          refine g_iconst cx dX2_unwind_48 ic_5 ?_
          refine g_aload_n cx dX2_unwind_49 rfl ?_
          refine g_getI cx lk_X2_150 hs6 (Nat.le_of_ble_eq_true rfl) rfl dX2_unwind_50 (x := (I7 v4 5)) rfl ?_
          refine g_iload_n cx dX2_unwind_53 rfl ?_
          refine g_wVv cx [.ref v4, .int 5, .int (I7 v4 5), .int y1] [] (e_X2_noteAll hP h) mt_X2_noteAll ml_X2_300 rfl rfl rfl dX2_unwind_54 rfl rfl (Nat.le_of_ble_eq_true rfl) (Nat.le_of_ble_eq_true rfl) (Nat.le_of_ble_eq_true rfl) (fun I10 P10 hP h => ?_)
          exact g_wv cx hE dX2_unwind_57 rfl hP h
def w_X2_unwind (I : zI) (P : zP) (K : zI → zP → Prop) : Prop := ∃ n9, l_X2_unwind_10 K n9 (I 114 10) (zu I 114 10 0) P
theorem e_X2_unwind {I : zI} {P : zP} {K : zI → zP → Prop} (hP : PSt P) (h : w_X2_unwind I P K) : Ev yX2_unwind cX2_unwind 3 none 2 48 0 0 [.ref 114] SHy I P (zKv K) := by
  refine Ev.start [.ref 114, .float 0, .float 0] pn_X2 rfl (Nat.le_of_ble_eq_true rfl) rfl (fun κ cx hE => ?_)
  unfold w_X2_unwind at h
  refine g_aload_n cx dX2_unwind_0 rfl ?_
  refine g_getI cx lk_X2_37 rfl (Nat.le_of_ble_eq_true rfl) rfl dX2_unwind_1 (x := (I 114 10)) rfl ?_
  refine g_istore_n cx dX2_unwind_4 (Nat.le_of_ble_eq_true rfl) (Gx.L [.ref 114, .int (I 114 10), .float 0] rfl ?_)
  refine g_aload_n cx dX2_unwind_5 rfl ?_
  refine g_iconst cx dX2_unwind_6 ic_0 ?_
  refine g_pI cx lk_X2_37 rfl (Nat.le_of_ble_eq_true rfl) rfl dX2_unwind_7 fi_2_10 rfl rfl ?_
  obtain ⟨n9, h⟩ := h
  exact gl_X2_unwind_10 cx hE n9 _ _ _ hP h
def j_X2_takeTurn_134 (K : zI → zP → Prop) (I : zI) (P : zP) : Prop := if (I 114 10) = 0 then (K I P) else (w_X2_unwind I P (fun (I2 : zI) (P2 : zP) => (K I2 P2)))
theorem gj_X2_takeTurn_134 {κ : zX} (cx : Cx yX2_takeTurn cX2_takeTurn 3 none 5 116 κ) {K : zI → zP → Prop} (hE : zEnd (zKv K) 0 0 κ) {I : zI} {P : zP} (hP : PSt P) (h : j_X2_takeTurn_134 K I P) : Gx κ 134 [.ref 114, .float 0, .float 0] [] SHy I P 0 0 := by
  unfold j_X2_takeTurn_134 at h
  refine g_aload_n cx dX2_takeTurn_134 rfl ?_
  refine g_getI cx lk_X2_37 rfl (Nat.le_of_ble_eq_true rfl) rfl dX2_takeTurn_135 (x := (I 114 10)) rfl ?_
  refine g_if_eq cx (tgt := 145) dX2_takeTurn_138 rfl (fun c1 => ?_) (fun c1 => ?_)
  · have h := zifp c1 h
    exact g_wv cx hE dX2_takeTurn_145 rfl hP h
  · have h := zifn c1 h
    refine g_aload_n cx dX2_takeTurn_141 rfl ?_
    refine g_wVv cx [] [] (e_X2_unwind hP h) mt_X2_unwind ml_X2_192 rfl rfl rfl dX2_takeTurn_142 rfl rfl (Nat.le_of_ble_eq_true rfl) (Nat.le_of_ble_eq_true rfl) (Nat.le_of_ble_eq_true rfl) (fun I2 P2 hP h => ?_)
    exact g_wv cx hE dX2_takeTurn_145 rfl hP h
def j_X2_takeTurn_48 (K : zI → zP → Prop) (y1 : Nat) (y2 : Int32) (I : zI) (P : zP) : Prop := if (I 114 16) = (-1) then (SHy[y1]? = some (0, 6) ∧ (w_X0_code y1 I P (fun (v14 : Nat) (I14 : zI) (P14 : zP) => (w_X9_targetAt v14 (I14 y1 5) 0 I14 P14 (fun (v15 : Int32) (I15 : zI) (P15 : zP) => (j_X2_takeTurn_134 K (zu I15 y1 5 v15) P15)))))) else (w_X2_mayBegin y1 y2 I P (fun (v2 : Int32) (I2 : zI) (P2 : zP) => (if v2 = 0 then (j_X2_takeTurn_134 K I2 P2) else (∃ v4, P2 114 6 = some v4 ∧ (SHy[v4]? = some (6, 13) ∧ (if y2 = 40 then (w_X2_doCall y1 (zu I2 v4 6 ((I2 v4 6) + 1)) P2 (fun (I12 : zI) (P12 : zP) => (j_X2_takeTurn_134 K I12 P12))) else (if y2 = 42 then (w_X2_doGive y1 (zu I2 v4 6 ((I2 v4 6) + 1)) P2 (fun (I11 : zI) (P11 : zP) => (j_X2_takeTurn_134 K I11 P11))) else (w_X9_shortOf y2 (zu I2 v4 6 ((I2 v4 6) + 1)) P2 (fun (v9 : Int32) (I9 : zI) (P9 : zP) => (w_X2_doInstruction y1 v9 I9 P9 (fun (I10 : zI) (P10 : zP) => (j_X2_takeTurn_134 K I10 P10))))))))))))
theorem gj_X2_takeTurn_48 {κ : zX} (cx : Cx yX2_takeTurn cX2_takeTurn 3 none 5 116 κ) {K : zI → zP → Prop} (hE : zEnd (zKv K) 0 0 κ) {y1 : Nat} {y2 : Int32} {I : zI} {P : zP} (hP : PSt P) (h : j_X2_takeTurn_48 K y1 y2 I P) : Gx κ 48 [.ref 114, .ref y1, .int y2] [] SHy I P 0 0 := by
  unfold j_X2_takeTurn_48 at h
  refine g_aload_n cx dX2_takeTurn_48 rfl ?_
  refine g_getI cx lk_X2_56 rfl (Nat.le_of_ble_eq_true rfl) rfl dX2_takeTurn_49 (x := (I 114 16)) rfl ?_
  refine g_iconst cx dX2_takeTurn_52 ic_m1 ?_
  refine g_icmp_ne cx (tgt := 75) dX2_takeTurn_53 rfl (fun c1 => ?_) (fun c1 => ?_)
  · have h := zifn c1 h
    refine g_aload_n cx dX2_takeTurn_75 rfl ?_
    refine g_aload_n cx dX2_takeTurn_76 rfl ?_
    refine g_iload_n cx dX2_takeTurn_77 rfl ?_
    refine g_wVi cx [.ref y1, .int y2] [] (e_X2_mayBegin hP h) mt_X2_mayBegin ml_X2_172 rfl rfl rfl dX2_takeTurn_78 rfl rfl (Nat.le_of_ble_eq_true rfl) (Nat.le_of_ble_eq_true rfl) (Nat.le_of_ble_eq_true rfl) (fun v2 I2 P2 hP h => ?_)
    refine g_if_eq cx (tgt := 134) dX2_takeTurn_81 rfl (fun c3 => ?_) (fun c3 => ?_)
    · have h := zifp c3 h
      refine (Gx.unset 1 (Gx.unset 2 (Gx.L [.ref 114, .float 0, .float 0] rfl ?_)))
      exact gj_X2_takeTurn_134 cx hE hP h
    · have h := zifn c3 h
      refine g_aload_n cx dX2_takeTurn_84 rfl ?_
      obtain ⟨v4, hv5, h⟩ := h
      refine g_getR cx lk_X2_67 rfl (Nat.le_of_ble_eq_true rfl) rfl dX2_takeTurn_85 hv5 ?_
      refine g_dup cx dX2_takeTurn_88 rfl ?_
      obtain ⟨hs6, h⟩ := h
      refine g_getI cx lk_X2_176 hs6 (Nat.le_of_ble_eq_true rfl) rfl dX2_takeTurn_89 (x := (I2 v4 6)) rfl ?_
      refine g_iconst cx dX2_takeTurn_92 ic_1 ?_
      refine g_iadd cx dX2_takeTurn_93 ?_
      refine g_pI cx lk_X2_176 hs6 (Nat.le_of_ble_eq_true rfl) rfl dX2_takeTurn_94 fi_6_6 rfl rfl ?_
      refine g_iload_n cx dX2_takeTurn_97 rfl ?_
      refine g_bipush cx dX2_takeTurn_98 bp_40 ?_
      refine g_icmp_ne cx (tgt := 111) dX2_takeTurn_100 rfl (fun c7 => ?_) (fun c7 => ?_)
      · have h := zifn c7 h
        refine g_iload_n cx dX2_takeTurn_111 rfl ?_
        refine g_bipush cx dX2_takeTurn_112 bp_42 ?_
        refine g_icmp_ne cx (tgt := 125) dX2_takeTurn_114 rfl (fun c8 => ?_) (fun c8 => ?_)
        · have h := zifn c8 h
          refine g_aload_n cx dX2_takeTurn_125 rfl ?_
          refine g_aload_n cx dX2_takeTurn_126 rfl ?_
          refine g_iload_n cx dX2_takeTurn_127 rfl ?_
          refine g_wSi cx [.int y2] [.ref y1, .ref 114] (e_X9_shortOf hP h) mt_X9_shortOf ml_X2_185 dX2_takeTurn_128 rfl rfl (Nat.le_of_ble_eq_true rfl) (Nat.le_of_ble_eq_true rfl) (Nat.le_of_ble_eq_true rfl) (fun v9 I9 P9 hP h => ?_)
          refine g_wVv cx [.ref y1, .int v9] [] (e_X2_doInstruction hP h) mt_X2_doInstruction ml_X2_189 rfl rfl rfl dX2_takeTurn_131 rfl rfl (Nat.le_of_ble_eq_true rfl) (Nat.le_of_ble_eq_true rfl) (Nat.le_of_ble_eq_true rfl) (fun I10 P10 hP h => ?_)
          refine (Gx.unset 1 (Gx.unset 2 (Gx.L [.ref 114, .float 0, .float 0] rfl ?_)))
          exact gj_X2_takeTurn_134 cx hE hP h
        · have h := zifp c8 h
          refine g_aload_n cx dX2_takeTurn_117 rfl ?_
          refine g_aload_n cx dX2_takeTurn_118 rfl ?_
          refine g_wVv cx [.ref y1] [] (e_X2_doGive hP h) mt_X2_doGive ml_X2_182 rfl rfl rfl dX2_takeTurn_119 rfl rfl (Nat.le_of_ble_eq_true rfl) (Nat.le_of_ble_eq_true rfl) (Nat.le_of_ble_eq_true rfl) (fun I11 P11 hP h => ?_)
          refine g_goto cx (tgt := 134) dX2_takeTurn_122 rfl ?_
          refine (Gx.unset 1 (Gx.unset 2 (Gx.L [.ref 114, .float 0, .float 0] rfl ?_)))
          exact gj_X2_takeTurn_134 cx hE hP h
      · have h := zifp c7 h
        refine g_aload_n cx dX2_takeTurn_103 rfl ?_
        refine g_aload_n cx dX2_takeTurn_104 rfl ?_
        refine g_wVv cx [.ref y1] [] (e_X2_doCall hP h) mt_X2_doCall ml_X2_179 rfl rfl rfl dX2_takeTurn_105 rfl rfl (Nat.le_of_ble_eq_true rfl) (Nat.le_of_ble_eq_true rfl) (Nat.le_of_ble_eq_true rfl) (fun I12 P12 hP h => ?_)
        refine g_goto cx (tgt := 134) dX2_takeTurn_108 rfl ?_
        refine (Gx.unset 1 (Gx.unset 2 (Gx.L [.ref 114, .float 0, .float 0] rfl ?_)))
        exact gj_X2_takeTurn_134 cx hE hP h
  · have h := zifp c1 h
    refine g_aload_n cx dX2_takeTurn_56 rfl ?_
    refine g_aload_n cx dX2_takeTurn_57 rfl ?_
    obtain ⟨hs13, h⟩ := h
    refine g_wVr cx [] [.ref y1] (e_X0_code hP h) mt_X0_code ml_X2_146 hs13 rfl rfl dX2_takeTurn_58 rfl rfl (Nat.le_of_ble_eq_true rfl) (Nat.le_of_ble_eq_true rfl) (Nat.le_of_ble_eq_true rfl) (fun v14 I14 P14 hP h => ?_)
    refine g_aload_n cx dX2_takeTurn_61 rfl ?_
    refine g_getI cx lk_X2_150 hs13 (Nat.le_of_ble_eq_true rfl) rfl dX2_takeTurn_62 (x := (I14 y1 5)) rfl ?_
    refine g_iconst cx dX2_takeTurn_65 ic_0 ?_
    refine g_wSi cx [.ref v14, .int (I14 y1 5), .int 0] [.ref y1] (e_X9_targetAt hP h) mt_X9_targetAt ml_X2_168 dX2_takeTurn_66 rfl rfl (Nat.le_of_ble_eq_true rfl) (Nat.le_of_ble_eq_true rfl) (Nat.le_of_ble_eq_true rfl) (fun v15 I15 P15 hP h => ?_)
    refine g_pI cx lk_X2_150 hs13 (Nat.le_of_ble_eq_true rfl) rfl dX2_takeTurn_69 fi_0_5 rfl rfl ?_
    refine g_goto cx (tgt := 134) dX2_takeTurn_72 rfl ?_
    refine (Gx.unset 1 (Gx.unset 2 (Gx.L [.ref 114, .float 0, .float 0] rfl ?_)))
    exact gj_X2_takeTurn_134 cx hE hP h
def w_X2_takeTurn (x1 : Nat) (I : zI) (P : zP) (K : zI → zP → Prop) : Prop := SHy[x1]? = some (0, 6) ∧ (w_X0_code x1 I P (fun (v2 : Nat) (I2 : zI) (P2 : zP) => (w_X9_byteAt v2 (I2 x1 5) I2 P2 (fun (v3 : Int32) (I3 : zI) (P3 : zP) => (w_X0_homePlace x1 I3 P3 (fun (v4 : Int32) (I4 : zI) (P4 : zP) => (if ((zu I4 114 16 v4) x1 4) = 0 then (j_X2_takeTurn_48 K x1 v3 (zu I4 114 16 v4) P4) else (if v3 < 48 then (j_X2_takeTurn_48 K x1 v3 (zu I4 114 16 v4) P4) else (if 58 < v3 then (j_X2_takeTurn_48 K x1 v3 (zu I4 114 16 v4) P4) else (w_X2_doWovenOp x1 v3 (zu I4 114 16 v4) P4 (fun (I8 : zI) (P8 : zP) => (j_X2_takeTurn_134 K I8 P8))))))))))))
theorem e_X2_takeTurn {x1 : Nat} {I : zI} {P : zP} {K : zI → zP → Prop} (hP : PSt P) (h : w_X2_takeTurn x1 I P K) : Ev yX2_takeTurn cX2_takeTurn 3 none 5 116 0 0 [.ref 114, .ref x1] SHy I P (zKv K) := by
  refine Ev.start [.ref 114, .ref x1, .float 0] pn_X2 rfl (Nat.le_of_ble_eq_true rfl) rfl (fun κ cx hE => ?_)
  unfold w_X2_takeTurn at h
  refine g_aload_n cx dX2_takeTurn_0 rfl ?_
  obtain ⟨hs1, h⟩ := h
  refine g_wVr cx [] [] (e_X0_code hP h) mt_X0_code ml_X2_146 hs1 rfl rfl dX2_takeTurn_1 rfl rfl (Nat.le_of_ble_eq_true rfl) (Nat.le_of_ble_eq_true rfl) (Nat.le_of_ble_eq_true rfl) (fun v2 I2 P2 hP h => ?_)
  refine g_aload_n cx dX2_takeTurn_4 rfl ?_
  refine g_getI cx lk_X2_150 hs1 (Nat.le_of_ble_eq_true rfl) rfl dX2_takeTurn_5 (x := (I2 x1 5)) rfl ?_
  refine g_wSi cx [.ref v2, .int (I2 x1 5)] [] (e_X9_byteAt hP h) mt_X9_byteAt ml_X2_153 dX2_takeTurn_8 rfl rfl (Nat.le_of_ble_eq_true rfl) (Nat.le_of_ble_eq_true rfl) (Nat.le_of_ble_eq_true rfl) (fun v3 I3 P3 hP h => ?_)
  refine g_istore_n cx dX2_takeTurn_11 (Nat.le_of_ble_eq_true rfl) (Gx.L [.ref 114, .ref x1, .int v3] rfl ?_)
  refine g_aload_n cx dX2_takeTurn_12 rfl ?_
  refine g_aload_n cx dX2_takeTurn_13 rfl ?_
  refine g_wVi cx [] [.ref 114] (e_X0_homePlace hP h) mt_X0_homePlace ml_X2_157 hs1 rfl rfl dX2_takeTurn_14 rfl rfl (Nat.le_of_ble_eq_true rfl) (Nat.le_of_ble_eq_true rfl) (Nat.le_of_ble_eq_true rfl) (fun v4 I4 P4 hP h => ?_)
  refine g_pI cx lk_X2_56 rfl (Nat.le_of_ble_eq_true rfl) rfl dX2_takeTurn_17 fi_2_16 rfl rfl ?_
  refine g_aload_n cx dX2_takeTurn_20 rfl ?_
  refine g_getI cx lk_X2_161 hs1 (Nat.le_of_ble_eq_true rfl) rfl dX2_takeTurn_21 (x := ((zu I4 114 16 v4) x1 4)) rfl ?_
  refine g_if_eq cx (tgt := 48) dX2_takeTurn_24 rfl (fun c5 => ?_) (fun c5 => ?_)
  · have h := zifp c5 h
    exact gj_X2_takeTurn_48 cx hE hP h
  · have h := zifn c5 h
    refine g_iload_n cx dX2_takeTurn_27 rfl ?_
    refine g_bipush cx dX2_takeTurn_28 bp_48 ?_
    refine g_icmp_lt cx (tgt := 48) dX2_takeTurn_30 rfl (fun c6 => ?_) (fun c6 => ?_)
    · have h := zifp c6 h
      exact gj_X2_takeTurn_48 cx hE hP h
    · have h := zifn c6 h
      refine g_iload_n cx dX2_takeTurn_33 rfl ?_
      refine g_bipush cx dX2_takeTurn_34 bp_58 ?_
      refine g_icmp_gt cx (tgt := 48) dX2_takeTurn_36 rfl (fun c7 => ?_) (fun c7 => ?_)
      · have h := zifp c7 h
        exact gj_X2_takeTurn_48 cx hE hP h
      · have h := zifn c7 h
        refine g_aload_n cx dX2_takeTurn_39 rfl ?_
        refine g_aload_n cx dX2_takeTurn_40 rfl ?_
        refine g_iload_n cx dX2_takeTurn_41 rfl ?_
        refine g_wVv cx [.ref x1, .int v3] [] (e_X2_doWovenOp hP h) mt_X2_doWovenOp ml_X2_164 rfl rfl rfl dX2_takeTurn_42 rfl rfl (Nat.le_of_ble_eq_true rfl) (Nat.le_of_ble_eq_true rfl) (Nat.le_of_ble_eq_true rfl) (fun I8 P8 hP h => ?_)
        refine g_goto cx (tgt := 134) dX2_takeTurn_45 rfl ?_
        refine (Gx.unset 1 (Gx.unset 2 (Gx.L [.ref 114, .float 0, .float 0] rfl ?_)))
        exact gj_X2_takeTurn_134 cx hE hP h
def w_X6_startAnew (o : Nat) (I : zI) (P : zP) (K : zI → zP → Prop) : Prop := SHy[o]? = some (6, 13) ∧ (∃ v2, P o 0 = some v2 ∧ (w_J7_fill_53178 v2 0 I P (fun (I4 : zI) (P4 : zP) => (K (zu (zu (zu (zu (zu (zu (zu (zu (zu I4 o 4 (-1)) o 5 0) o 6 0) o 7 0) o 8 0) o 9 (-1)) o 10 (-1)) o 11 0) o 12 0) P4))))
theorem e_X6_startAnew {o : Nat} {I : zI} {P : zP} {K : zI → zP → Prop} (hP : PSt P) (h : w_X6_startAnew o I P K) : Ev yX6_startAnew cX6_startAnew 1 none 1 23 0 0 [.ref o] SHy I P (zKv K) := by
  refine Ev.start [.ref o] pn_X6 rfl (Nat.le_of_ble_eq_true rfl) rfl (fun κ cx hE => ?_)
  unfold w_X6_startAnew at h
  refine g_aload_n cx dX6_startAnew_0 rfl ?_
  obtain ⟨hs1, h⟩ := h
  obtain ⟨v2, hv3, h⟩ := h
  refine g_getR cx lk_X6_9 hs1 (Nat.le_of_ble_eq_true rfl) rfl dX6_startAnew_1 hv3 ?_
  refine g_iconst cx dX6_startAnew_4 ic_0 ?_
  refine g_wSv cx [.ref v2, .int 0] [] (e_J7_fill_53178 hP h) mt_J7_fill_53178 ml_X6_52 dX6_startAnew_5 rfl rfl (Nat.le_of_ble_eq_true rfl) (Nat.le_of_ble_eq_true rfl) (Nat.le_of_ble_eq_true rfl) (fun I4 P4 hP h => ?_)
  refine g_aload_n cx dX6_startAnew_8 rfl ?_
  refine g_iconst cx dX6_startAnew_9 ic_m1 ?_
  refine g_pI cx lk_X6_24 hs1 (Nat.le_of_ble_eq_true rfl) rfl dX6_startAnew_10 fi_6_4 rfl rfl ?_
  refine g_aload_n cx dX6_startAnew_13 rfl ?_
  refine g_iconst cx dX6_startAnew_14 ic_0 ?_
  refine g_pI cx lk_X6_28 hs1 (Nat.le_of_ble_eq_true rfl) rfl dX6_startAnew_15 fi_6_5 rfl rfl ?_
  refine g_aload_n cx dX6_startAnew_18 rfl ?_
  refine g_iconst cx dX6_startAnew_19 ic_0 ?_
  refine g_pI cx lk_X6_31 hs1 (Nat.le_of_ble_eq_true rfl) rfl dX6_startAnew_20 fi_6_6 rfl rfl ?_
  refine g_aload_n cx dX6_startAnew_23 rfl ?_
  refine g_iconst cx dX6_startAnew_24 ic_0 ?_
  refine g_pI cx lk_X6_34 hs1 (Nat.le_of_ble_eq_true rfl) rfl dX6_startAnew_25 fi_6_7 rfl rfl ?_
  refine g_aload_n cx dX6_startAnew_28 rfl ?_
  refine g_iconst cx dX6_startAnew_29 ic_0 ?_
  refine g_pI cx lk_X6_37 hs1 (Nat.le_of_ble_eq_true rfl) rfl dX6_startAnew_30 fi_6_8 rfl rfl ?_
  refine g_aload_n cx dX6_startAnew_33 rfl ?_
  refine g_iconst cx dX6_startAnew_34 ic_m1 ?_
  refine g_pI cx lk_X6_40 hs1 (Nat.le_of_ble_eq_true rfl) rfl dX6_startAnew_35 fi_6_9 rfl rfl ?_
  refine g_aload_n cx dX6_startAnew_38 rfl ?_
  refine g_iconst cx dX6_startAnew_39 ic_m1 ?_
  refine Gx.N 40 rfl ?_
  refine g_pI cx lk_X6_43 hs1 (Nat.le_of_ble_eq_true rfl) rfl dX6_startAnew_40 fi_6_10 rfl rfl ?_
  refine g_aload_n cx dX6_startAnew_43 rfl ?_
  refine g_iconst cx dX6_startAnew_44 ic_0 ?_
  refine g_pI cx lk_X6_46 hs1 (Nat.le_of_ble_eq_true rfl) rfl dX6_startAnew_45 fi_6_11 rfl rfl ?_
  refine g_aload_n cx dX6_startAnew_48 rfl ?_
  refine g_iconst cx dX6_startAnew_49 ic_0 ?_
  refine g_pI cx lk_X6_49 hs1 (Nat.le_of_ble_eq_true rfl) rfl dX6_startAnew_50 fi_6_12 rfl rfl ?_
  exact g_wv cx hE dX6_startAnew_53 rfl hP h
def w_X3_isComeTo (o : Nat) (x1 : Int32) (I : zI) (P : zP) (K : Int32 → zI → zP → Prop) : Prop := SHy[o]? = some (3, 11) ∧ (w_X3_beginsAt o x1 I P (fun (v2 : Int32) (I2 : zI) (P2 : zP) => (if v2 = 0 then (K 0 I2 P2) else (∃ v4, P2 o 3 = some v4 ∧ (SHy[v4]? = some (11, (zlen v4)) ∧ (vp_in x1 (zlen v4) ∧ (if (I2 v4 ((x1).toNatClampNeg)) = (-1) then (K 0 I2 P2) else (K 1 I2 P2))))))))
theorem e_X3_isComeTo {o : Nat} {x1 : Int32} {I : zI} {P : zP} {K : Int32 → zI → zP → Prop} (hP : PSt P) (h : w_X3_isComeTo o x1 I P K) : Ev yX3_isComeTo cX3_isComeTo 2 (some .boolean) 1 21 0 0 [.ref o, .int x1] SHy I P (zKi K) := by
  refine Ev.start [.ref o, .int x1] pn_X3 rfl (Nat.le_of_ble_eq_true rfl) rfl (fun κ cx hE => ?_)
  unfold w_X3_isComeTo at h
  refine g_aload_n cx dX3_isComeTo_0 rfl ?_
  refine g_iload_n cx dX3_isComeTo_1 rfl ?_
  obtain ⟨hs1, h⟩ := h
  refine g_wVi cx [.int x1] [] (e_X3_beginsAt hP h) mt_X3_beginsAt ml_X3_50 hs1 rfl rfl dX3_isComeTo_2 rfl rfl (Nat.le_of_ble_eq_true rfl) (Nat.le_of_ble_eq_true rfl) (Nat.le_of_ble_eq_true rfl) (fun v2 I2 P2 hP h => ?_)
  refine g_if_eq cx (tgt := 22) dX3_isComeTo_5 rfl (fun c3 => ?_) (fun c3 => ?_)
  · have h := zifp c3 h
    refine g_iconst cx dX3_isComeTo_22 ic_0 ?_
    exact g_wi cx hE dX3_isComeTo_23 rfl rfl hP h
  · have h := zifn c3 h
    refine g_aload_n cx dX3_isComeTo_8 rfl ?_
    obtain ⟨v4, hv5, h⟩ := h
    refine g_getR cx lk_X3_18 hs1 (Nat.le_of_ble_eq_true rfl) rfl dX3_isComeTo_9 hv5 ?_
    refine g_iload_n cx dX3_isComeTo_12 rfl ?_
    obtain ⟨hs6, h⟩ := h
    obtain ⟨hc7, h⟩ := h
    refine g_iald cx dX3_isComeTo_13 hs6 hc7 (x := (I2 v4 ((x1).toNatClampNeg))) rfl ?_
    refine g_iconst cx dX3_isComeTo_14 ic_m1 ?_
    refine g_icmp_eq cx (tgt := 22) dX3_isComeTo_15 rfl (fun c8 => ?_) (fun c8 => ?_)
    · have h := zifp c8 h
      refine g_iconst cx dX3_isComeTo_22 ic_0 ?_
      exact g_wi cx hE dX3_isComeTo_23 rfl rfl hP h
    · have h := zifn c8 h
      refine g_iconst cx dX3_isComeTo_18 ic_1 ?_
      refine g_goto cx (tgt := 23) dX3_isComeTo_19 rfl ?_
      exact g_wi cx hE dX3_isComeTo_23 rfl rfl hP h
def l_X3_greatestHeight_4 (K : Int32 → zI → zP → Prop) : Nat → Nat → Int32 → Int32 → zI → zP → Prop
  | 0, _, _, _, _, _ => False
  | n + 1, y0, y1, y2, I, P => SHy[y0]? = some (3, 11) ∧ (if (I y0 9) ≤ y2 then (K y1 I P) else (w_X3_isComeTo y0 y2 I P (fun (v3 : Int32) (I3 : zI) (P3 : zP) => (if v3 = 0 then ((l_X3_greatestHeight_4 K n) y0 y1 (y2 + 1) I3 P3) else (∃ v5, P3 y0 3 = some v5 ∧ (SHy[v5]? = some (11, (zlen v5)) ∧ (vp_in y2 (zlen v5) ∧ ((l_X3_greatestHeight_4 K n) y0 (if y1 < (((I3 v5 ((y2).toNatClampNeg)) : Int32) >>> ((20 : Int32) &&& 31)) then (((I3 v5 ((y2).toNatClampNeg)) : Int32) >>> ((20 : Int32) &&& 31)) else y1) (y2 + 1) I3 P3))))))))
theorem gl_X3_greatestHeight_4 {κ : zX} (cx : Cx yX3_greatestHeight cX3_greatestHeight 3 (some .int) 2 42 κ) {K : Int32 → zI → zP → Prop} (hE : zEnd (zKi K) 0 0 κ) : ∀ (n : Nat) (y0 : Nat) (y1 : Int32) (y2 : Int32) (I : zI) (P : zP), PSt P → l_X3_greatestHeight_4 K n y0 y1 y2 I P → Gx κ 4 [.ref y0, .int y1, .int y2] [] SHy I P 0 0 := by
  intro n
  induction n with
  | zero =>
    intro y0 y1 y2 I P hP h
    rw [l_X3_greatestHeight_4] at h
    exact False.elim h
  | succ n ih =>
    intro y0 y1 y2 I P hP h
    rw [l_X3_greatestHeight_4] at h
    refine g_iload_n cx dX3_greatestHeight_4 rfl ?_
    refine g_aload_n cx dX3_greatestHeight_5 rfl ?_
    obtain ⟨hs1, h⟩ := h
    refine g_getI cx lk_X3_41 hs1 (Nat.le_of_ble_eq_true rfl) rfl dX3_greatestHeight_6 (x := (I y0 9)) rfl ?_
    refine g_icmp_ge cx (tgt := 40) dX3_greatestHeight_9 rfl (fun c2 => ?_) (fun c2 => ?_)
    · have h := zifp c2 h
      refine g_iload_n cx dX3_greatestHeight_40 rfl ?_
      exact g_wi cx hE dX3_greatestHeight_41 rfl rfl hP h
    · have h := zifn c2 h
      refine g_aload_n cx dX3_greatestHeight_12 rfl ?_
      refine g_iload_n cx dX3_greatestHeight_13 rfl ?_
      refine g_wVi cx [.int y2] [] (e_X3_isComeTo hP h) mt_X3_isComeTo ml_X3_88 hs1 rfl rfl dX3_greatestHeight_14 rfl rfl (Nat.le_of_ble_eq_true rfl) (Nat.le_of_ble_eq_true rfl) (Nat.le_of_ble_eq_true rfl) (fun v3 I3 P3 hP h => ?_)
      refine g_if_eq cx (tgt := 34) dX3_greatestHeight_17 rfl (fun c4 => ?_) (fun c4 => ?_)
      · have h := zifp c4 h
        refine g_iinc cx (v := (y2 + 1)) dX3_greatestHeight_34 rfl rfl (Nat.le_of_ble_eq_true rfl) (Gx.L [.ref y0, .int y1, .int (y2 + 1)] rfl ?_)
        refine g_goto cx (tgt := 4) dX3_greatestHeight_37 rfl ?_
        exact ih _ _ _ _ _ hP h
      · have h := zifn c4 h
        refine g_iload_n cx dX3_greatestHeight_20 rfl ?_
        refine g_aload_n cx dX3_greatestHeight_21 rfl ?_
        obtain ⟨v5, hv6, h⟩ := h
        refine g_getR cx lk_X3_18 hs1 (Nat.le_of_ble_eq_true rfl) rfl dX3_greatestHeight_22 hv6 ?_
        refine g_iload_n cx dX3_greatestHeight_25 rfl ?_
        obtain ⟨hs7, h⟩ := h
        obtain ⟨hc8, h⟩ := h
        refine g_iald cx dX3_greatestHeight_26 hs7 hc8 (x := (I3 v5 ((y2).toNatClampNeg))) rfl ?_
        refine g_bipush cx dX3_greatestHeight_27 bp_20 ?_
        refine g_ishr cx dX3_greatestHeight_29 ?_
        refine g_mmax cx ml_X3_91 dX3_greatestHeight_30 rfl (Nat.le_of_ble_eq_true rfl) (Nat.le_of_ble_eq_true rfl) (Nat.le_of_ble_eq_true rfl) rfl rfl ?_
        refine g_istore_n cx dX3_greatestHeight_33 (Nat.le_of_ble_eq_true rfl) (Gx.L [.ref y0, .int (if y1 < (((I3 v5 ((y2).toNatClampNeg)) : Int32) >>> ((20 : Int32) &&& 31)) then (((I3 v5 ((y2).toNatClampNeg)) : Int32) >>> ((20 : Int32) &&& 31)) else y1), .int y2] rfl ?_)
        refine g_iinc cx (v := (y2 + 1)) dX3_greatestHeight_34 rfl rfl (Nat.le_of_ble_eq_true rfl) (Gx.L [.ref y0, .int (if y1 < (((I3 v5 ((y2).toNatClampNeg)) : Int32) >>> ((20 : Int32) &&& 31)) then (((I3 v5 ((y2).toNatClampNeg)) : Int32) >>> ((20 : Int32) &&& 31)) else y1), .int (y2 + 1)] rfl ?_)
        refine g_goto cx (tgt := 4) dX3_greatestHeight_37 rfl ?_
        exact ih _ _ _ _ _ hP h
def w_X3_greatestHeight (o : Nat) (I : zI) (P : zP) (K : Int32 → zI → zP → Prop) : Prop := ∃ n9, l_X3_greatestHeight_4 K n9 o 0 0 I P
theorem e_X3_greatestHeight {o : Nat} {I : zI} {P : zP} {K : Int32 → zI → zP → Prop} (hP : PSt P) (h : w_X3_greatestHeight o I P K) : Ev yX3_greatestHeight cX3_greatestHeight 3 (some .int) 2 42 0 0 [.ref o] SHy I P (zKi K) := by
  refine Ev.start [.ref o, .float 0, .float 0] pn_X3 rfl (Nat.le_of_ble_eq_true rfl) rfl (fun κ cx hE => ?_)
  unfold w_X3_greatestHeight at h
  refine g_iconst cx dX3_greatestHeight_0 ic_0 ?_
  refine g_istore_n cx dX3_greatestHeight_1 (Nat.le_of_ble_eq_true rfl) (Gx.L [.ref o, .int 0, .float 0] rfl ?_)
  refine g_iconst cx dX3_greatestHeight_2 ic_0 ?_
  refine g_istore_n cx dX3_greatestHeight_3 (Nat.le_of_ble_eq_true rfl) (Gx.L [.ref o, .int 0, .int 0] rfl ?_)
  obtain ⟨n9, h⟩ := h
  exact gl_X3_greatestHeight_4 cx hE n9 _ _ _ _ _ hP h
def j_X3_handlerFault_87 (K : Int32 → zI → zP → Prop) (y0 : Nat) (y1 : Int32) (I : zI) (P : zP) : Prop := SHy[y0]? = some (3, 11) ∧ (K (((4 + (I y0 9)) + 1) + (7 * y1)) I P)
theorem gj_X3_handlerFault_87 {κ : zX} (cx : Cx yX3_handlerFault cX3_handlerFault 5 (some .int) 1 23 κ) {K : Int32 → zI → zP → Prop} (hE : zEnd (zKi K) 0 0 κ) {y0 : Nat} {y1 : Int32} {I : zI} {P : zP} (hP : PSt P) (h : j_X3_handlerFault_87 K y0 y1 I P) : Gx κ 87 [.ref y0, .int y1, .float 0, .float 0, .float 0] [] SHy I P 0 0 := by
  unfold j_X3_handlerFault_87 at h
  refine g_iconst cx dX3_handlerFault_87 ic_4 ?_
  refine g_aload_n cx dX3_handlerFault_88 rfl ?_
  obtain ⟨hs1, h⟩ := h
  refine g_getI cx lk_X3_41 hs1 (Nat.le_of_ble_eq_true rfl) rfl dX3_handlerFault_89 (x := (I y0 9)) rfl ?_
  refine g_iadd cx dX3_handlerFault_92 ?_
  refine g_iconst cx dX3_handlerFault_93 ic_1 ?_
  refine g_iadd cx dX3_handlerFault_94 ?_
  refine g_bipush cx dX3_handlerFault_95 bp_7 ?_
  refine g_iload_n cx dX3_handlerFault_97 rfl ?_
  refine g_imul cx dX3_handlerFault_98 ?_
  refine g_iadd cx dX3_handlerFault_99 ?_
  exact g_wi cx hE dX3_handlerFault_100 rfl rfl hP h
def j_X3_handlerFault_51 (X2 : Nat → Int32 → zI → zP → Prop) (K : Int32 → zI → zP → Prop) (y0 : Nat) (y1 : Int32) (y2 : Int32) (y3 : Int32) (s0 : Int32) (I : zI) (P : zP) : Prop := SHy[y0]? = some (3, 11) ∧ (w_X3_beginsAt y0 y2 I P (fun (v2 : Int32) (I2 : zI) (P2 : zP) => (if v2 = 0 then (j_X3_handlerFault_87 K y0 y1 I2 P2) else (if s0 = 0 then (j_X3_handlerFault_87 K y0 y1 I2 P2) else (if y3 ≤ y2 then (j_X3_handlerFault_87 K y0 y1 I2 P2) else (∃ v6, P2 y0 5 = some v6 ∧ (w_X9_handlerPart v6 y1 2 I2 P2 (fun (v8 : Int32) (I8 : zI) (P8 : zP) => (w_X3_beginsAt y0 v8 I8 P8 (fun (v9 : Int32) (I9 : zI) (P9 : zP) => (if v9 = 0 then (j_X3_handlerFault_87 K y0 y1 I9 P9) else (X2 y0 (y1 + 1) I9 P9))))))))))))
theorem gj_X3_handlerFault_51 {κ : zX} (cx : Cx yX3_handlerFault cX3_handlerFault 5 (some .int) 1 23 κ) {K : Int32 → zI → zP → Prop} (hE : zEnd (zKi K) 0 0 κ) {X2 : Nat → Int32 → zI → zP → Prop} (hX2 : ∀ (y0 : Nat) (y1 : Int32) (I : zI) (P : zP), PSt P → X2 y0 y1 I P → Gx κ 2 [.ref y0, .int y1, .float 0, .float 0, .float 0] [] SHy I P 0 0) {y0 : Nat} {y1 : Int32} {y2 : Int32} {y3 : Int32} {s0 : Int32} {I : zI} {P : zP} (hP : PSt P) (h : j_X3_handlerFault_51 X2 K y0 y1 y2 y3 s0 I P) : Gx κ 51 [.ref y0, .int y1, .int y2, .int y3, .float 0] [.int s0] SHy I P 0 0 := by
  unfold j_X3_handlerFault_51 at h
  refine g_istore cx dX3_handlerFault_51 (Nat.le_of_ble_eq_true rfl) (Gx.L [.ref y0, .int y1, .int y2, .int y3, .int s0] rfl ?_)
  refine g_aload_n cx dX3_handlerFault_53 rfl ?_
  refine g_iload_n cx dX3_handlerFault_54 rfl ?_
  obtain ⟨hs1, h⟩ := h
  refine g_wVi cx [.int y2] [] (e_X3_beginsAt hP h) mt_X3_beginsAt ml_X3_50 hs1 rfl rfl dX3_handlerFault_55 rfl rfl (Nat.le_of_ble_eq_true rfl) (Nat.le_of_ble_eq_true rfl) (Nat.le_of_ble_eq_true rfl) (fun v2 I2 P2 hP h => ?_)
  refine g_if_eq cx (tgt := 87) dX3_handlerFault_58 rfl (fun c3 => ?_) (fun c3 => ?_)
  · have h := zifp c3 h
    refine (Gx.unset 2 (Gx.unset 3 (Gx.unset 4 (Gx.L [.ref y0, .int y1, .float 0, .float 0, .float 0] rfl ?_))))
    exact gj_X3_handlerFault_87 cx hE hP h
  · have h := zifn c3 h
    refine g_iload cx dX3_handlerFault_61 rfl ?_
    refine g_if_eq cx (tgt := 87) dX3_handlerFault_63 rfl (fun c4 => ?_) (fun c4 => ?_)
    · have h := zifp c4 h
      refine (Gx.unset 2 (Gx.unset 3 (Gx.unset 4 (Gx.L [.ref y0, .int y1, .float 0, .float 0, .float 0] rfl ?_))))
      exact gj_X3_handlerFault_87 cx hE hP h
    · have h := zifn c4 h
      refine g_iload_n cx dX3_handlerFault_66 rfl ?_
      refine g_iload_n cx dX3_handlerFault_67 rfl ?_
      refine g_icmp_ge cx (tgt := 87) dX3_handlerFault_68 rfl (fun c5 => ?_) (fun c5 => ?_)
      · have h := zifp c5 h
        refine (Gx.unset 2 (Gx.unset 3 (Gx.unset 4 (Gx.L [.ref y0, .int y1, .float 0, .float 0, .float 0] rfl ?_))))
        exact gj_X3_handlerFault_87 cx hE hP h
      · have h := zifn c5 h
        refine g_aload_n cx dX3_handlerFault_71 rfl ?_
        refine g_aload_n cx dX3_handlerFault_72 rfl ?_
        obtain ⟨v6, hv7, h⟩ := h
        refine g_getR cx lk_X3_24 hs1 (Nat.le_of_ble_eq_true rfl) rfl dX3_handlerFault_73 hv7 ?_
        refine g_iload_n cx dX3_handlerFault_76 rfl ?_
        refine g_iconst cx dX3_handlerFault_77 ic_2 ?_
        refine g_wSi cx [.ref v6, .int y1, .int 2] [.ref y0] (e_X9_handlerPart hP h) mt_X9_handlerPart ml_X3_65 dX3_handlerFault_78 rfl rfl (Nat.le_of_ble_eq_true rfl) (Nat.le_of_ble_eq_true rfl) (Nat.le_of_ble_eq_true rfl) (fun v8 I8 P8 hP h => ?_)
        refine g_wVi cx [.int v8] [] (e_X3_beginsAt hP h) mt_X3_beginsAt ml_X3_50 hs1 rfl rfl dX3_handlerFault_81 rfl rfl (Nat.le_of_ble_eq_true rfl) (Nat.le_of_ble_eq_true rfl) (Nat.le_of_ble_eq_true rfl) (fun v9 I9 P9 hP h => ?_)
        refine g_if_ne cx (tgt := 101) dX3_handlerFault_84 rfl (fun c10 => ?_) (fun c10 => ?_)
        · have h := zifn c10 h
          refine g_iinc cx (v := (y1 + 1)) dX3_handlerFault_101 rfl rfl (Nat.le_of_ble_eq_true rfl) (Gx.L [.ref y0, .int (y1 + 1), .int y2, .int y3, .int s0] rfl ?_)
          refine g_goto cx (tgt := 2) dX3_handlerFault_104 rfl ?_
          refine (Gx.unset 2 (Gx.unset 3 (Gx.unset 4 (Gx.L [.ref y0, .int (y1 + 1), .float 0, .float 0, .float 0] rfl ?_))))
          exact hX2 _ _ _ _ hP h
        · have h := zifp c10 h
          refine (Gx.unset 2 (Gx.unset 3 (Gx.unset 4 (Gx.L [.ref y0, .int y1, .float 0, .float 0, .float 0] rfl ?_))))
          exact gj_X3_handlerFault_87 cx hE hP h
def l_X3_handlerFault_2 (K : Int32 → zI → zP → Prop) : Nat → Nat → Int32 → zI → zP → Prop
  | 0, _, _, _, _ => False
  | n + 1, y0, y1, I, P => SHy[y0]? = some (3, 11) ∧ (if (I y0 10) ≤ y1 then (K (-1) I P) else (∃ v3, P y0 5 = some v3 ∧ (w_X9_handlerPart v3 y1 0 I P (fun (v5 : Int32) (I5 : zI) (P5 : zP) => (∃ v6, P5 y0 5 = some v6 ∧ (w_X9_handlerPart v6 y1 1 I5 P5 (fun (v8 : Int32) (I8 : zI) (P8 : zP) => (if v8 = (I8 y0 9) then (j_X3_handlerFault_51 (l_X3_handlerFault_2 K n) K y0 y1 v5 v8 1 I8 P8) else (w_X3_beginsAt y0 v8 I8 P8 (fun (v10 : Int32) (I10 : zI) (P10 : zP) => (if v10 = 0 then (j_X3_handlerFault_51 (l_X3_handlerFault_2 K n) K y0 y1 v5 v8 0 I10 P10) else (j_X3_handlerFault_51 (l_X3_handlerFault_2 K n) K y0 y1 v5 v8 1 I10 P10))))))))))))
theorem gl_X3_handlerFault_2 {κ : zX} (cx : Cx yX3_handlerFault cX3_handlerFault 5 (some .int) 1 23 κ) {K : Int32 → zI → zP → Prop} (hE : zEnd (zKi K) 0 0 κ) : ∀ (n : Nat) (y0 : Nat) (y1 : Int32) (I : zI) (P : zP), PSt P → l_X3_handlerFault_2 K n y0 y1 I P → Gx κ 2 [.ref y0, .int y1, .float 0, .float 0, .float 0] [] SHy I P 0 0 := by
  intro n
  induction n with
  | zero =>
    intro y0 y1 I P hP h
    rw [l_X3_handlerFault_2] at h
    exact False.elim h
  | succ n ih =>
    intro y0 y1 I P hP h
    rw [l_X3_handlerFault_2] at h
    refine g_iload_n cx dX3_handlerFault_2 rfl ?_
    refine g_aload_n cx dX3_handlerFault_3 rfl ?_
    obtain ⟨hs1, h⟩ := h
    refine g_getI cx lk_X3_44 hs1 (Nat.le_of_ble_eq_true rfl) rfl dX3_handlerFault_4 (x := (I y0 10)) rfl ?_
    refine g_icmp_ge cx (tgt := 107) dX3_handlerFault_7 rfl (fun c2 => ?_) (fun c2 => ?_)
    · have h := zifp c2 h
      refine g_iconst cx dX3_handlerFault_107 ic_m1 ?_
      exact g_wi cx hE dX3_handlerFault_108 rfl rfl hP h
    · have h := zifn c2 h
      refine g_aload_n cx dX3_handlerFault_10 rfl ?_
      obtain ⟨v3, hv4, h⟩ := h
      refine g_getR cx lk_X3_24 hs1 (Nat.le_of_ble_eq_true rfl) rfl dX3_handlerFault_11 hv4 ?_
      refine g_iload_n cx dX3_handlerFault_14 rfl ?_
      refine g_iconst cx dX3_handlerFault_15 ic_0 ?_
      refine g_wSi cx [.ref v3, .int y1, .int 0] [] (e_X9_handlerPart hP h) mt_X9_handlerPart ml_X3_65 dX3_handlerFault_16 rfl rfl (Nat.le_of_ble_eq_true rfl) (Nat.le_of_ble_eq_true rfl) (Nat.le_of_ble_eq_true rfl) (fun v5 I5 P5 hP h => ?_)
      refine g_istore_n cx dX3_handlerFault_19 (Nat.le_of_ble_eq_true rfl) (Gx.L [.ref y0, .int y1, .int v5, .float 0, .float 0] rfl ?_)
      refine g_aload_n cx dX3_handlerFault_20 rfl ?_
      obtain ⟨v6, hv7, h⟩ := h
      refine g_getR cx lk_X3_24 hs1 (Nat.le_of_ble_eq_true rfl) rfl dX3_handlerFault_21 hv7 ?_
      refine g_iload_n cx dX3_handlerFault_24 rfl ?_
      refine g_iconst cx dX3_handlerFault_25 ic_1 ?_
      refine g_wSi cx [.ref v6, .int y1, .int 1] [] (e_X9_handlerPart hP h) mt_X9_handlerPart ml_X3_65 dX3_handlerFault_26 rfl rfl (Nat.le_of_ble_eq_true rfl) (Nat.le_of_ble_eq_true rfl) (Nat.le_of_ble_eq_true rfl) (fun v8 I8 P8 hP h => ?_)
      refine g_istore_n cx dX3_handlerFault_29 (Nat.le_of_ble_eq_true rfl) (Gx.L [.ref y0, .int y1, .int v5, .int v8, .float 0] rfl ?_)
      refine g_iload_n cx dX3_handlerFault_30 rfl ?_
      refine g_aload_n cx dX3_handlerFault_31 rfl ?_
      refine g_getI cx lk_X3_41 hs1 (Nat.le_of_ble_eq_true rfl) rfl dX3_handlerFault_32 (x := (I8 y0 9)) rfl ?_
      refine g_icmp_eq cx (tgt := 46) dX3_handlerFault_35 rfl (fun c9 => ?_) (fun c9 => ?_)
      · have h := zifp c9 h
        refine g_iconst cx dX3_handlerFault_46 ic_1 ?_
        refine g_goto cx (tgt := 51) dX3_handlerFault_47 rfl ?_
        exact gj_X3_handlerFault_51 cx hE ih hP h
      · have h := zifn c9 h
        refine g_aload_n cx dX3_handlerFault_38 rfl ?_
        refine g_iload_n cx dX3_handlerFault_39 rfl ?_
        refine g_wVi cx [.int v8] [] (e_X3_beginsAt hP h) mt_X3_beginsAt ml_X3_50 hs1 rfl rfl dX3_handlerFault_40 rfl rfl (Nat.le_of_ble_eq_true rfl) (Nat.le_of_ble_eq_true rfl) (Nat.le_of_ble_eq_true rfl) (fun v10 I10 P10 hP h => ?_)
        refine g_if_eq cx (tgt := 50) dX3_handlerFault_43 rfl (fun c11 => ?_) (fun c11 => ?_)
        · have h := zifp c11 h
          refine g_iconst cx dX3_handlerFault_50 ic_0 ?_
          exact gj_X3_handlerFault_51 cx hE ih hP h
        · have h := zifn c11 h
          refine g_iconst cx dX3_handlerFault_46 ic_1 ?_
          refine g_goto cx (tgt := 51) dX3_handlerFault_47 rfl ?_
          exact gj_X3_handlerFault_51 cx hE ih hP h
def w_X3_handlerFault (o : Nat) (I : zI) (P : zP) (K : Int32 → zI → zP → Prop) : Prop := ∃ n9, l_X3_handlerFault_2 K n9 o 0 I P
theorem e_X3_handlerFault {o : Nat} {I : zI} {P : zP} {K : Int32 → zI → zP → Prop} (hP : PSt P) (h : w_X3_handlerFault o I P K) : Ev yX3_handlerFault cX3_handlerFault 5 (some .int) 1 23 0 0 [.ref o] SHy I P (zKi K) := by
  refine Ev.start [.ref o, .float 0, .float 0, .float 0, .float 0] pn_X3 rfl (Nat.le_of_ble_eq_true rfl) rfl (fun κ cx hE => ?_)
  unfold w_X3_handlerFault at h
  refine g_iconst cx dX3_handlerFault_0 ic_0 ?_
  refine g_istore_n cx dX3_handlerFault_1 (Nat.le_of_ble_eq_true rfl) (Gx.L [.ref o, .int 0, .float 0, .float 0, .float 0] rfl ?_)
  obtain ⟨n9, h⟩ := h
  exact gl_X3_handlerFault_2 cx hE n9 _ _ _ _ hP h
def l_X3_instructionCount_4 (K : Int32 → zI → zP → Prop) : Nat → Nat → Int32 → Int32 → zI → zP → Prop
  | 0, _, _, _, _, _ => False
  | n + 1, y0, y1, y2, I, P => SHy[y0]? = some (3, 11) ∧ (if (I y0 9) ≤ y2 then (K y1 I P) else (w_X3_beginsAt y0 y2 I P (fun (v3 : Int32) (I3 : zI) (P3 : zP) => (if v3 = 0 then ((l_X3_instructionCount_4 K n) y0 y1 (y2 + 1) I3 P3) else ((l_X3_instructionCount_4 K n) y0 (y1 + 1) (y2 + 1) I3 P3)))))
theorem gl_X3_instructionCount_4 {κ : zX} (cx : Cx yX3_instructionCount cX3_instructionCount 3 (some .int) 1 21 κ) {K : Int32 → zI → zP → Prop} (hE : zEnd (zKi K) 0 0 κ) : ∀ (n : Nat) (y0 : Nat) (y1 : Int32) (y2 : Int32) (I : zI) (P : zP), PSt P → l_X3_instructionCount_4 K n y0 y1 y2 I P → Gx κ 4 [.ref y0, .int y1, .int y2] [] SHy I P 0 0 := by
  intro n
  induction n with
  | zero =>
    intro y0 y1 y2 I P hP h
    rw [l_X3_instructionCount_4] at h
    exact False.elim h
  | succ n ih =>
    intro y0 y1 y2 I P hP h
    rw [l_X3_instructionCount_4] at h
    refine g_iload_n cx dX3_instructionCount_4 rfl ?_
    refine g_aload_n cx dX3_instructionCount_5 rfl ?_
    obtain ⟨hs1, h⟩ := h
    refine g_getI cx lk_X3_41 hs1 (Nat.le_of_ble_eq_true rfl) rfl dX3_instructionCount_6 (x := (I y0 9)) rfl ?_
    refine g_icmp_ge cx (tgt := 29) dX3_instructionCount_9 rfl (fun c2 => ?_) (fun c2 => ?_)
    · have h := zifp c2 h
      refine g_iload_n cx dX3_instructionCount_29 rfl ?_
      exact g_wi cx hE dX3_instructionCount_30 rfl rfl hP h
    · have h := zifn c2 h
      refine g_aload_n cx dX3_instructionCount_12 rfl ?_
      refine g_iload_n cx dX3_instructionCount_13 rfl ?_
      refine g_wVi cx [.int y2] [] (e_X3_beginsAt hP h) mt_X3_beginsAt ml_X3_50 hs1 rfl rfl dX3_instructionCount_14 rfl rfl (Nat.le_of_ble_eq_true rfl) (Nat.le_of_ble_eq_true rfl) (Nat.le_of_ble_eq_true rfl) (fun v3 I3 P3 hP h => ?_)
      refine g_if_eq cx (tgt := 23) dX3_instructionCount_17 rfl (fun c4 => ?_) (fun c4 => ?_)
      · have h := zifp c4 h
        refine g_iinc cx (v := (y2 + 1)) dX3_instructionCount_23 rfl rfl (Nat.le_of_ble_eq_true rfl) (Gx.L [.ref y0, .int y1, .int (y2 + 1)] rfl ?_)
        refine g_goto cx (tgt := 4) dX3_instructionCount_26 rfl ?_
        exact ih _ _ _ _ _ hP h
      · have h := zifn c4 h
        refine g_iinc cx (v := (y1 + 1)) dX3_instructionCount_20 rfl rfl (Nat.le_of_ble_eq_true rfl) (Gx.L [.ref y0, .int (y1 + 1), .int y2] rfl ?_)
        refine g_iinc cx (v := (y2 + 1)) dX3_instructionCount_23 rfl rfl (Nat.le_of_ble_eq_true rfl) (Gx.L [.ref y0, .int (y1 + 1), .int (y2 + 1)] rfl ?_)
        refine g_goto cx (tgt := 4) dX3_instructionCount_26 rfl ?_
        exact ih _ _ _ _ _ hP h
def w_X3_instructionCount (o : Nat) (I : zI) (P : zP) (K : Int32 → zI → zP → Prop) : Prop := ∃ n9, l_X3_instructionCount_4 K n9 o 0 0 I P
theorem e_X3_instructionCount {o : Nat} {I : zI} {P : zP} {K : Int32 → zI → zP → Prop} (hP : PSt P) (h : w_X3_instructionCount o I P K) : Ev yX3_instructionCount cX3_instructionCount 3 (some .int) 1 21 0 0 [.ref o] SHy I P (zKi K) := by
  refine Ev.start [.ref o, .float 0, .float 0] pn_X3 rfl (Nat.le_of_ble_eq_true rfl) rfl (fun κ cx hE => ?_)
  unfold w_X3_instructionCount at h
  refine g_iconst cx dX3_instructionCount_0 ic_0 ?_
  refine g_istore_n cx dX3_instructionCount_1 (Nat.le_of_ble_eq_true rfl) (Gx.L [.ref o, .int 0, .float 0] rfl ?_)
  refine g_iconst cx dX3_instructionCount_2 ic_0 ?_
  refine g_istore_n cx dX3_instructionCount_3 (Nat.le_of_ble_eq_true rfl) (Gx.L [.ref o, .int 0, .int 0] rfl ?_)
  obtain ⟨n9, h⟩ := h
  exact gl_X3_instructionCount_4 cx hE n9 _ _ _ _ _ hP h
def l_X3_isTarget_2 (K : Int32 → zI → zP → Prop) : Nat → Nat → Int32 → Int32 → zI → zP → Prop
  | 0, _, _, _, _, _ => False
  | n + 1, y0, y1, y2, I, P => SHy[y0]? = some (3, 11) ∧ (if (I y0 10) ≤ y2 then (K 0 I P) else (∃ v3, P y0 5 = some v3 ∧ (w_X9_handlerPart v3 y2 2 I P (fun (v5 : Int32) (I5 : zI) (P5 : zP) => (if v5 = y1 then (K 1 I5 P5) else ((l_X3_isTarget_2 K n) y0 y1 (y2 + 1) I5 P5))))))
theorem gl_X3_isTarget_2 {κ : zX} (cx : Cx yX3_isTarget cX3_isTarget 3 (some .boolean) 1 23 κ) {K : Int32 → zI → zP → Prop} (hE : zEnd (zKi K) 0 0 κ) : ∀ (n : Nat) (y0 : Nat) (y1 : Int32) (y2 : Int32) (I : zI) (P : zP), PSt P → l_X3_isTarget_2 K n y0 y1 y2 I P → Gx κ 2 [.ref y0, .int y1, .int y2] [] SHy I P 0 0 := by
  intro n
  induction n with
  | zero =>
    intro y0 y1 y2 I P hP h
    rw [l_X3_isTarget_2] at h
    exact False.elim h
  | succ n ih =>
    intro y0 y1 y2 I P hP h
    rw [l_X3_isTarget_2] at h
    refine g_iload_n cx dX3_isTarget_2 rfl ?_
    refine g_aload_n cx dX3_isTarget_3 rfl ?_
    obtain ⟨hs1, h⟩ := h
    refine g_getI cx lk_X3_44 hs1 (Nat.le_of_ble_eq_true rfl) rfl dX3_isTarget_4 (x := (I y0 10)) rfl ?_
    refine g_icmp_ge cx (tgt := 31) dX3_isTarget_7 rfl (fun c2 => ?_) (fun c2 => ?_)
    · have h := zifp c2 h
      refine g_iconst cx dX3_isTarget_31 ic_0 ?_
      exact g_wi cx hE dX3_isTarget_32 rfl rfl hP h
    · have h := zifn c2 h
      refine g_aload_n cx dX3_isTarget_10 rfl ?_
      obtain ⟨v3, hv4, h⟩ := h
      refine g_getR cx lk_X3_24 hs1 (Nat.le_of_ble_eq_true rfl) rfl dX3_isTarget_11 hv4 ?_
      refine g_iload_n cx dX3_isTarget_14 rfl ?_
      refine g_iconst cx dX3_isTarget_15 ic_2 ?_
      refine g_wSi cx [.ref v3, .int y2, .int 2] [] (e_X9_handlerPart hP h) mt_X9_handlerPart ml_X3_65 dX3_isTarget_16 rfl rfl (Nat.le_of_ble_eq_true rfl) (Nat.le_of_ble_eq_true rfl) (Nat.le_of_ble_eq_true rfl) (fun v5 I5 P5 hP h => ?_)
      refine g_iload_n cx dX3_isTarget_19 rfl ?_
      refine g_icmp_ne cx (tgt := 25) dX3_isTarget_20 rfl (fun c6 => ?_) (fun c6 => ?_)
      · have h := zifn c6 h
        refine g_iinc cx (v := (y2 + 1)) dX3_isTarget_25 rfl rfl (Nat.le_of_ble_eq_true rfl) (Gx.L [.ref y0, .int y1, .int (y2 + 1)] rfl ?_)
        refine g_goto cx (tgt := 2) dX3_isTarget_28 rfl ?_
        exact ih _ _ _ _ _ hP h
      · have h := zifp c6 h
        refine g_iconst cx dX3_isTarget_23 ic_1 ?_
        exact g_wi cx hE dX3_isTarget_24 rfl rfl hP h
def w_X3_isTarget (o : Nat) (x1 : Int32) (I : zI) (P : zP) (K : Int32 → zI → zP → Prop) : Prop := ∃ n9, l_X3_isTarget_2 K n9 o x1 0 I P
theorem e_X3_isTarget {o : Nat} {x1 : Int32} {I : zI} {P : zP} {K : Int32 → zI → zP → Prop} (hP : PSt P) (h : w_X3_isTarget o x1 I P K) : Ev yX3_isTarget cX3_isTarget 3 (some .boolean) 1 23 0 0 [.ref o, .int x1] SHy I P (zKi K) := by
  refine Ev.start [.ref o, .int x1, .float 0] pn_X3 rfl (Nat.le_of_ble_eq_true rfl) rfl (fun κ cx hE => ?_)
  unfold w_X3_isTarget at h
  refine g_iconst cx dX3_isTarget_0 ic_0 ?_
  refine g_istore_n cx dX3_isTarget_1 (Nat.le_of_ble_eq_true rfl) (Gx.L [.ref o, .int x1, .int 0] rfl ?_)
  obtain ⟨n9, h⟩ := h
  exact gl_X3_isTarget_2 cx hE n9 _ _ _ _ _ hP h
def l_X3_jumpsAstray_11 (K : Int32 → zI → zP → Prop) : Nat → Nat → Int32 → Int32 → Int32 → zI → zP → Prop
  | 0, _, _, _, _, _, _ => False
  | n + 1, y0, y1, y2, y3, I, P => if y2 ≤ y3 then (K 0 I P) else (SHy[y0]? = some (3, 11) ∧ (∃ v3, P y0 1 = some v3 ∧ (w_X9_targetAt v3 y1 y3 I P (fun (v5 : Int32) (I5 : zI) (P5 : zP) => (w_X3_beginsAt y0 v5 I5 P5 (fun (v6 : Int32) (I6 : zI) (P6 : zP) => (if v6 = 0 then (K 1 I6 P6) else ((l_X3_jumpsAstray_11 K n) y0 y1 y2 (y3 + 1) I6 P6))))))))
theorem gl_X3_jumpsAstray_11 {κ : zX} (cx : Cx yX3_jumpsAstray cX3_jumpsAstray 4 (some .boolean) 2 44 κ) {K : Int32 → zI → zP → Prop} (hE : zEnd (zKi K) 0 0 κ) : ∀ (n : Nat) (y0 : Nat) (y1 : Int32) (y2 : Int32) (y3 : Int32) (I : zI) (P : zP), PSt P → l_X3_jumpsAstray_11 K n y0 y1 y2 y3 I P → Gx κ 11 [.ref y0, .int y1, .int y2, .int y3] [] SHy I P 0 0 := by
  intro n
  induction n with
  | zero =>
    intro y0 y1 y2 y3 I P hP h
    rw [l_X3_jumpsAstray_11] at h
    exact False.elim h
  | succ n ih =>
    intro y0 y1 y2 y3 I P hP h
    rw [l_X3_jumpsAstray_11] at h
    refine g_iload_n cx dX3_jumpsAstray_11 rfl ?_
    refine g_iload_n cx dX3_jumpsAstray_12 rfl ?_
    refine g_icmp_ge cx (tgt := 40) dX3_jumpsAstray_13 rfl (fun c1 => ?_) (fun c1 => ?_)
    · have h := zifp c1 h
      refine g_iconst cx dX3_jumpsAstray_40 ic_0 ?_
      exact g_wi cx hE dX3_jumpsAstray_41 rfl rfl hP h
    · have h := zifn c1 h
      refine g_aload_n cx dX3_jumpsAstray_16 rfl ?_
      refine g_aload_n cx dX3_jumpsAstray_17 rfl ?_
      obtain ⟨hs2, h⟩ := h
      obtain ⟨v3, hv4, h⟩ := h
      refine g_getR cx lk_X3_9 hs2 (Nat.le_of_ble_eq_true rfl) rfl dX3_jumpsAstray_18 hv4 ?_
      refine g_iload_n cx dX3_jumpsAstray_21 rfl ?_
      refine g_iload_n cx dX3_jumpsAstray_22 rfl ?_
      refine g_wSi cx [.ref v3, .int y1, .int y3] [.ref y0] (e_X9_targetAt hP h) mt_X9_targetAt ml_X3_61 dX3_jumpsAstray_23 rfl rfl (Nat.le_of_ble_eq_true rfl) (Nat.le_of_ble_eq_true rfl) (Nat.le_of_ble_eq_true rfl) (fun v5 I5 P5 hP h => ?_)
      refine g_wVi cx [.int v5] [] (e_X3_beginsAt hP h) mt_X3_beginsAt ml_X3_50 hs2 rfl rfl dX3_jumpsAstray_26 rfl rfl (Nat.le_of_ble_eq_true rfl) (Nat.le_of_ble_eq_true rfl) (Nat.le_of_ble_eq_true rfl) (fun v6 I6 P6 hP h => ?_)
      refine g_if_ne cx (tgt := 34) dX3_jumpsAstray_29 rfl (fun c7 => ?_) (fun c7 => ?_)
      · have h := zifn c7 h
        refine g_iinc cx (v := (y3 + 1)) dX3_jumpsAstray_34 rfl rfl (Nat.le_of_ble_eq_true rfl) (Gx.L [.ref y0, .int y1, .int y2, .int (y3 + 1)] rfl ?_)
        refine g_goto cx (tgt := 11) dX3_jumpsAstray_37 rfl ?_
        exact ih _ _ _ _ _ _ hP h
      · have h := zifp c7 h
        refine g_iconst cx dX3_jumpsAstray_32 ic_1 ?_
        exact g_wi cx hE dX3_jumpsAstray_33 rfl rfl hP h
def w_X3_jumpsAstray (o : Nat) (x1 : Int32) (I : zI) (P : zP) (K : Int32 → zI → zP → Prop) : Prop := SHy[o]? = some (3, 11) ∧ (∃ v2, P o 1 = some v2 ∧ (w_X9_targetCount v2 x1 I P (fun (v4 : Int32) (I4 : zI) (P4 : zP) => (∃ n9, l_X3_jumpsAstray_11 K n9 o x1 v4 0 I4 P4))))
theorem e_X3_jumpsAstray {o : Nat} {x1 : Int32} {I : zI} {P : zP} {K : Int32 → zI → zP → Prop} (hP : PSt P) (h : w_X3_jumpsAstray o x1 I P K) : Ev yX3_jumpsAstray cX3_jumpsAstray 4 (some .boolean) 2 44 0 0 [.ref o, .int x1] SHy I P (zKi K) := by
  refine Ev.start [.ref o, .int x1, .float 0, .float 0] pn_X3 rfl (Nat.le_of_ble_eq_true rfl) rfl (fun κ cx hE => ?_)
  unfold w_X3_jumpsAstray at h
  refine g_aload_n cx dX3_jumpsAstray_0 rfl ?_
  obtain ⟨hs1, h⟩ := h
  obtain ⟨v2, hv3, h⟩ := h
  refine g_getR cx lk_X3_9 hs1 (Nat.le_of_ble_eq_true rfl) rfl dX3_jumpsAstray_1 hv3 ?_
  refine g_iload_n cx dX3_jumpsAstray_4 rfl ?_
  refine g_wSi cx [.ref v2, .int x1] [] (e_X9_targetCount hP h) mt_X9_targetCount ml_X3_57 dX3_jumpsAstray_5 rfl rfl (Nat.le_of_ble_eq_true rfl) (Nat.le_of_ble_eq_true rfl) (Nat.le_of_ble_eq_true rfl) (fun v4 I4 P4 hP h => ?_)
  refine g_istore_n cx dX3_jumpsAstray_8 (Nat.le_of_ble_eq_true rfl) (Gx.L [.ref o, .int x1, .int v4, .float 0] rfl ?_)
  refine g_iconst cx dX3_jumpsAstray_9 ic_0 ?_
  refine g_istore_n cx dX3_jumpsAstray_10 (Nat.le_of_ble_eq_true rfl) (Gx.L [.ref o, .int x1, .int v4, .int 0] rfl ?_)
  obtain ⟨n9, h⟩ := h
  exact gl_X3_jumpsAstray_11 cx hE n9 _ _ _ _ _ _ hP h
def l_X3_jumpFault_2 (K : Int32 → zI → zP → Prop) : Nat → Nat → Int32 → zI → zP → Prop
  | 0, _, _, _, _ => False
  | n + 1, y0, y1, I, P => SHy[y0]? = some (3, 11) ∧ (if (I y0 9) ≤ y1 then (K (-1) I P) else (w_X3_beginsAt y0 y1 I P (fun (v3 : Int32) (I3 : zI) (P3 : zP) => (if v3 = 0 then ((l_X3_jumpFault_2 K n) y0 (y1 + 1) I3 P3) else (w_X3_jumpsAstray y0 y1 I3 P3 (fun (v5 : Int32) (I5 : zI) (P5 : zP) => (if v5 = 0 then ((l_X3_jumpFault_2 K n) y0 (y1 + 1) I5 P5) else (K (4 + y1) I5 P5))))))))
theorem gl_X3_jumpFault_2 {κ : zX} (cx : Cx yX3_jumpFault cX3_jumpFault 2 (some .int) 3 67 κ) {K : Int32 → zI → zP → Prop} (hE : zEnd (zKi K) 0 0 κ) : ∀ (n : Nat) (y0 : Nat) (y1 : Int32) (I : zI) (P : zP), PSt P → l_X3_jumpFault_2 K n y0 y1 I P → Gx κ 2 [.ref y0, .int y1] [] SHy I P 0 0 := by
  intro n
  induction n with
  | zero =>
    intro y0 y1 I P hP h
    rw [l_X3_jumpFault_2] at h
    exact False.elim h
  | succ n ih =>
    intro y0 y1 I P hP h
    rw [l_X3_jumpFault_2] at h
    refine g_iload_n cx dX3_jumpFault_2 rfl ?_
    refine g_aload_n cx dX3_jumpFault_3 rfl ?_
    obtain ⟨hs1, h⟩ := h
    refine g_getI cx lk_X3_41 hs1 (Nat.le_of_ble_eq_true rfl) rfl dX3_jumpFault_4 (x := (I y0 9)) rfl ?_
    refine g_icmp_ge cx (tgt := 36) dX3_jumpFault_7 rfl (fun c2 => ?_) (fun c2 => ?_)
    · have h := zifp c2 h
      refine g_iconst cx dX3_jumpFault_36 ic_m1 ?_
      exact g_wi cx hE dX3_jumpFault_37 rfl rfl hP h
    · have h := zifn c2 h
      refine g_aload_n cx dX3_jumpFault_10 rfl ?_
      refine g_iload_n cx dX3_jumpFault_11 rfl ?_
      refine g_wVi cx [.int y1] [] (e_X3_beginsAt hP h) mt_X3_beginsAt ml_X3_50 hs1 rfl rfl dX3_jumpFault_12 rfl rfl (Nat.le_of_ble_eq_true rfl) (Nat.le_of_ble_eq_true rfl) (Nat.le_of_ble_eq_true rfl) (fun v3 I3 P3 hP h => ?_)
      refine g_if_eq cx (tgt := 30) dX3_jumpFault_15 rfl (fun c4 => ?_) (fun c4 => ?_)
      · have h := zifp c4 h
        refine g_iinc cx (v := (y1 + 1)) dX3_jumpFault_30 rfl rfl (Nat.le_of_ble_eq_true rfl) (Gx.L [.ref y0, .int (y1 + 1)] rfl ?_)
        refine g_goto cx (tgt := 2) dX3_jumpFault_33 rfl ?_
        exact ih _ _ _ _ hP h
      · have h := zifn c4 h
        refine g_aload_n cx dX3_jumpFault_18 rfl ?_
        refine g_iload_n cx dX3_jumpFault_19 rfl ?_
        refine g_wVi cx [.int y1] [] (e_X3_jumpsAstray hP h) mt_X3_jumpsAstray ml_X3_54 hs1 rfl rfl dX3_jumpFault_20 rfl rfl (Nat.le_of_ble_eq_true rfl) (Nat.le_of_ble_eq_true rfl) (Nat.le_of_ble_eq_true rfl) (fun v5 I5 P5 hP h => ?_)
        refine g_if_eq cx (tgt := 30) dX3_jumpFault_23 rfl (fun c6 => ?_) (fun c6 => ?_)
        · have h := zifp c6 h
          refine g_iinc cx (v := (y1 + 1)) dX3_jumpFault_30 rfl rfl (Nat.le_of_ble_eq_true rfl) (Gx.L [.ref y0, .int (y1 + 1)] rfl ?_)
          refine g_goto cx (tgt := 2) dX3_jumpFault_33 rfl ?_
          exact ih _ _ _ _ hP h
        · have h := zifn c6 h
          refine g_iconst cx dX3_jumpFault_26 ic_4 ?_
          refine g_iload_n cx dX3_jumpFault_27 rfl ?_
          refine g_iadd cx dX3_jumpFault_28 ?_
          exact g_wi cx hE dX3_jumpFault_29 rfl rfl hP h
def w_X3_jumpFault (o : Nat) (I : zI) (P : zP) (K : Int32 → zI → zP → Prop) : Prop := ∃ n9, l_X3_jumpFault_2 K n9 o 0 I P
theorem e_X3_jumpFault {o : Nat} {I : zI} {P : zP} {K : Int32 → zI → zP → Prop} (hP : PSt P) (h : w_X3_jumpFault o I P K) : Ev yX3_jumpFault cX3_jumpFault 2 (some .int) 3 67 0 0 [.ref o] SHy I P (zKi K) := by
  refine Ev.start [.ref o, .float 0] pn_X3 rfl (Nat.le_of_ble_eq_true rfl) rfl (fun κ cx hE => ?_)
  unfold w_X3_jumpFault at h
  refine g_iconst cx dX3_jumpFault_0 ic_0 ?_
  refine g_istore_n cx dX3_jumpFault_1 (Nat.le_of_ble_eq_true rfl) (Gx.L [.ref o, .int 0] rfl ?_)
  obtain ⟨n9, h⟩ := h
  exact gl_X3_jumpFault_2 cx hE n9 _ _ _ _ hP h
def w_X9_isChoice (x1 : Int32) (I : zI) (P : zP) (K : Int32 → zI → zP → Prop) : Prop := w_X9_shortOf x1 I P (fun (v1 : Int32) (I1 : zI) (P1 : zP) => (if v1 < 21 then (K 0 I1 P1) else (if 32 < v1 then (K 0 I1 P1) else (K 1 I1 P1))))
theorem e_X9_isChoice {x1 : Int32} {I : zI} {P : zP} {K : Int32 → zI → zP → Prop} (hP : PSt P) (h : w_X9_isChoice x1 I P K) : Ev yX9_isChoice cX9_isChoice 2 (some .boolean) 2 40 0 0 [.int x1] SHy I P (zKi K) := by
  refine Ev.start [.int x1, .float 0] pn_X9 rfl (Nat.le_of_ble_eq_true rfl) rfl (fun κ cx hE => ?_)
  unfold w_X9_isChoice at h
  refine g_iload_n cx dX9_isChoice_0 rfl ?_
  refine g_wSi cx [.int x1] [] (e_X9_shortOf hP h) mt_X9_shortOf ml_X9_210 dX9_isChoice_1 rfl rfl (Nat.le_of_ble_eq_true rfl) (Nat.le_of_ble_eq_true rfl) (Nat.le_of_ble_eq_true rfl) (fun v1 I1 P1 hP h => ?_)
  refine g_istore_n cx dX9_isChoice_4 (Nat.le_of_ble_eq_true rfl) (Gx.L [.int x1, .int v1] rfl ?_)
  refine g_iload_n cx dX9_isChoice_5 rfl ?_
  refine g_bipush cx dX9_isChoice_6 bp_21 ?_
  refine g_icmp_lt cx (tgt := 21) dX9_isChoice_8 rfl (fun c2 => ?_) (fun c2 => ?_)
  · have h := zifp c2 h
    refine g_iconst cx dX9_isChoice_21 ic_0 ?_
    exact g_wi cx hE dX9_isChoice_22 rfl rfl hP h
  · have h := zifn c2 h
    refine g_iload_n cx dX9_isChoice_11 rfl ?_
    refine g_bipush cx dX9_isChoice_12 bp_32 ?_
    refine g_icmp_gt cx (tgt := 21) dX9_isChoice_14 rfl (fun c3 => ?_) (fun c3 => ?_)
    · have h := zifp c3 h
      refine g_iconst cx dX9_isChoice_21 ic_0 ?_
      exact g_wi cx hE dX9_isChoice_22 rfl rfl hP h
    · have h := zifn c3 h
      refine g_iconst cx dX9_isChoice_17 ic_1 ?_
      refine g_goto cx (tgt := 22) dX9_isChoice_18 rfl ?_
      exact g_wi cx hE dX9_isChoice_22 rfl rfl hP h
def j_X9_isReplaceable_22 (K : Int32 → zI → zP → Prop) (y0 : Int32) (I : zI) (P : zP) : Prop := if y0 = 34 then (K 1 I P) else (if y0 = 37 then (K 1 I P) else (if y0 = 38 then (K 1 I P) else (if y0 = 40 then (K 1 I P) else (K 0 I P))))
theorem gj_X9_isReplaceable_22 {κ : zX} (cx : Cx yX9_isReplaceable cX9_isReplaceable 1 (some .boolean) 0 0 κ) {K : Int32 → zI → zP → Prop} (hE : zEnd (zKi K) 0 0 κ) {y0 : Int32} {I : zI} {P : zP} (hP : PSt P) (h : j_X9_isReplaceable_22 K y0 I P) : Gx κ 22 [.int y0] [] SHy I P 0 0 := by
  unfold j_X9_isReplaceable_22 at h
  refine g_iload_n cx dX9_isReplaceable_22 rfl ?_
  refine g_bipush cx dX9_isReplaceable_23 bp_34 ?_
  refine g_icmp_eq cx (tgt := 46) dX9_isReplaceable_25 rfl (fun c1 => ?_) (fun c1 => ?_)
  · have h := zifp c1 h
    refine g_iconst cx dX9_isReplaceable_46 ic_1 ?_
    refine g_goto cx (tgt := 51) dX9_isReplaceable_47 rfl ?_
    exact g_wi cx hE dX9_isReplaceable_51 rfl rfl hP h
  · have h := zifn c1 h
    refine g_iload_n cx dX9_isReplaceable_28 rfl ?_
    refine g_bipush cx dX9_isReplaceable_29 bp_37 ?_
    refine g_icmp_eq cx (tgt := 46) dX9_isReplaceable_31 rfl (fun c2 => ?_) (fun c2 => ?_)
    · have h := zifp c2 h
      refine g_iconst cx dX9_isReplaceable_46 ic_1 ?_
      refine g_goto cx (tgt := 51) dX9_isReplaceable_47 rfl ?_
      exact g_wi cx hE dX9_isReplaceable_51 rfl rfl hP h
    · have h := zifn c2 h
      refine g_iload_n cx dX9_isReplaceable_34 rfl ?_
      refine g_bipush cx dX9_isReplaceable_35 bp_38 ?_
      refine g_icmp_eq cx (tgt := 46) dX9_isReplaceable_37 rfl (fun c3 => ?_) (fun c3 => ?_)
      · have h := zifp c3 h
        refine g_iconst cx dX9_isReplaceable_46 ic_1 ?_
        refine g_goto cx (tgt := 51) dX9_isReplaceable_47 rfl ?_
        exact g_wi cx hE dX9_isReplaceable_51 rfl rfl hP h
      · have h := zifn c3 h
        refine g_iload_n cx dX9_isReplaceable_40 rfl ?_
        refine g_bipush cx dX9_isReplaceable_41 bp_40 ?_
        refine g_icmp_ne cx (tgt := 50) dX9_isReplaceable_43 rfl (fun c4 => ?_) (fun c4 => ?_)
        · have h := zifn c4 h
          refine g_iconst cx dX9_isReplaceable_50 ic_0 ?_
          exact g_wi cx hE dX9_isReplaceable_51 rfl rfl hP h
        · have h := zifp c4 h
          refine g_iconst cx dX9_isReplaceable_46 ic_1 ?_
          refine g_goto cx (tgt := 51) dX9_isReplaceable_47 rfl ?_
          exact g_wi cx hE dX9_isReplaceable_51 rfl rfl hP h
def w_X9_isReplaceable (x1 : Int32) (I : zI) (P : zP) (K : Int32 → zI → zP → Prop) : Prop := if x1 = 1 then (K 1 I P) else (if x1 = 2 then (K 1 I P) else (if x1 < 9 then (j_X9_isReplaceable_22 K x1 I P) else (if x1 ≤ 19 then (K 1 I P) else (j_X9_isReplaceable_22 K x1 I P))))
theorem e_X9_isReplaceable {x1 : Int32} {I : zI} {P : zP} {K : Int32 → zI → zP → Prop} (hP : PSt P) (h : w_X9_isReplaceable x1 I P K) : Ev yX9_isReplaceable cX9_isReplaceable 1 (some .boolean) 0 0 0 0 [.int x1] SHy I P (zKi K) := by
  refine Ev.start [.int x1] pn_X9 rfl (Nat.le_of_ble_eq_true rfl) rfl (fun κ cx hE => ?_)
  unfold w_X9_isReplaceable at h
  refine g_iload_n cx dX9_isReplaceable_0 rfl ?_
  refine g_iconst cx dX9_isReplaceable_1 ic_1 ?_
  refine g_icmp_eq cx (tgt := 46) dX9_isReplaceable_2 rfl (fun c1 => ?_) (fun c1 => ?_)
  · have h := zifp c1 h
    refine g_iconst cx dX9_isReplaceable_46 ic_1 ?_
    refine g_goto cx (tgt := 51) dX9_isReplaceable_47 rfl ?_
    exact g_wi cx hE dX9_isReplaceable_51 rfl rfl hP h
  · have h := zifn c1 h
    refine g_iload_n cx dX9_isReplaceable_5 rfl ?_
    refine g_iconst cx dX9_isReplaceable_6 ic_2 ?_
    refine g_icmp_eq cx (tgt := 46) dX9_isReplaceable_7 rfl (fun c2 => ?_) (fun c2 => ?_)
    · have h := zifp c2 h
      refine g_iconst cx dX9_isReplaceable_46 ic_1 ?_
      refine g_goto cx (tgt := 51) dX9_isReplaceable_47 rfl ?_
      exact g_wi cx hE dX9_isReplaceable_51 rfl rfl hP h
    · have h := zifn c2 h
      refine g_iload_n cx dX9_isReplaceable_10 rfl ?_
      refine g_bipush cx dX9_isReplaceable_11 bp_9 ?_
      refine g_icmp_lt cx (tgt := 22) dX9_isReplaceable_13 rfl (fun c3 => ?_) (fun c3 => ?_)
      · have h := zifp c3 h
        exact gj_X9_isReplaceable_22 cx hE hP h
      · have h := zifn c3 h
        refine g_iload_n cx dX9_isReplaceable_16 rfl ?_
        refine g_bipush cx dX9_isReplaceable_17 bp_19 ?_
        refine g_icmp_le cx (tgt := 46) dX9_isReplaceable_19 rfl (fun c4 => ?_) (fun c4 => ?_)
        · have h := zifp c4 h
          refine g_iconst cx dX9_isReplaceable_46 ic_1 ?_
          refine g_goto cx (tgt := 51) dX9_isReplaceable_47 rfl ?_
          exact g_wi cx hE dX9_isReplaceable_51 rfl rfl hP h
        · have h := zifn c4 h
          exact gj_X9_isReplaceable_22 cx hE hP h
def w_X3_takesProbe (o : Nat) (x1 : Int32) (x2 : Int32) (I : zI) (P : zP) (K : Int32 → zI → zP → Prop) : Prop := SHy[o]? = some (3, 11) ∧ (w_X3_beginsAt o x2 I P (fun (v2 : Int32) (I2 : zI) (P2 : zP) => (if v2 = 0 then (K 0 I2 P2) else (∃ v4, P2 o 1 = some v4 ∧ (SHy[v4]? = some (11, (zlen v4)) ∧ (vp_in x2 (zlen v4) ∧ (if x1 = 0 then (K 1 I2 P2) else (if x1 = 1 then (w_X9_isChoice (I2 v4 ((x2).toNatClampNeg)) I2 P2 (fun (v10 : Int32) (I10 : zI) (P10 : zP) => (zbo v10 ∧ (K v10 I10 P10)))) else (if x1 = 2 then (if x2 = 0 then (K 1 I2 P2) else (K 0 I2 P2)) else (if x1 = 3 then (if x2 = 0 then (K 1 I2 P2) else (K 0 I2 P2)) else (if x1 = 4 then (if (I2 v4 ((x2).toNatClampNeg)) = 35 then (K 1 I2 P2) else (if (I2 v4 ((x2).toNatClampNeg)) = 39 then (K 1 I2 P2) else (K 0 I2 P2))) else (if x1 = 5 then (w_X3_isTarget o x2 I2 P2 (fun (v20 : Int32) (I20 : zI) (P20 : zP) => (zbo v20 ∧ (K v20 I20 P20)))) else (if x1 = 6 then (K 1 I2 P2) else (if x1 = 7 then (w_X9_isReplaceable (I2 v4 ((x2).toNatClampNeg)) I2 P2 (fun (v24 : Int32) (I24 : zI) (P24 : zP) => (zbo v24 ∧ (K v24 I24 P24)))) else (K 0 I2 P2)))))))))))))))
theorem e_X3_takesProbe {o : Nat} {x1 : Int32} {x2 : Int32} {I : zI} {P : zP} {K : Int32 → zI → zP → Prop} (hP : PSt P) (h : w_X3_takesProbe o x1 x2 I P K) : Ev yX3_takesProbe cX3_takesProbe 4 (some .boolean) 3 61 0 0 [.ref o, .int x1, .int x2] SHy I P (zKi K) := by
  refine Ev.start [.ref o, .int x1, .int x2, .float 0] pn_X3 rfl (Nat.le_of_ble_eq_true rfl) rfl (fun κ cx hE => ?_)
  unfold w_X3_takesProbe at h
  refine g_aload_n cx dX3_takesProbe_0 rfl ?_
  refine g_iload_n cx dX3_takesProbe_1 rfl ?_
  obtain ⟨hs1, h⟩ := h
  refine g_wVi cx [.int x2] [] (e_X3_beginsAt hP h) mt_X3_beginsAt ml_X3_50 hs1 rfl rfl dX3_takesProbe_2 rfl rfl (Nat.le_of_ble_eq_true rfl) (Nat.le_of_ble_eq_true rfl) (Nat.le_of_ble_eq_true rfl) (fun v2 I2 P2 hP h => ?_)
  refine g_if_ne cx (tgt := 10) dX3_takesProbe_5 rfl (fun c3 => ?_) (fun c3 => ?_)
  · have h := zifn c3 h
    refine g_aload_n cx dX3_takesProbe_10 rfl ?_
    obtain ⟨v4, hv5, h⟩ := h
    refine g_getR cx lk_X3_9 hs1 (Nat.le_of_ble_eq_true rfl) rfl dX3_takesProbe_11 hv5 ?_
    refine g_iload_n cx dX3_takesProbe_14 rfl ?_
    obtain ⟨hs6, h⟩ := h
    obtain ⟨hc7, h⟩ := h
    refine g_iald cx dX3_takesProbe_15 hs6 hc7 (x := (I2 v4 ((x2).toNatClampNeg))) rfl ?_
    refine g_istore_n cx dX3_takesProbe_16 (Nat.le_of_ble_eq_true rfl) (Gx.L [.ref o, .int x1, .int x2, .int (I2 v4 ((x2).toNatClampNeg))] rfl ?_)
    refine g_iload_n cx dX3_takesProbe_17 rfl ?_
    by_cases c8 : x1 = 0
    · have h := zifp c8 h
      refine g_tabIn cx (tgt := 64) (off := 46) dX3_takesProbe_18 (by rw [c8]; decide) (by rw [c8]; decide) (by rw [c8]; rfl) rfl ?_
      refine g_iconst cx dX3_takesProbe_64 ic_1 ?_
      exact g_wi cx hE dX3_takesProbe_65 rfl rfl hP h
    · have h := zifn c8 h
      by_cases c9 : x1 = 1
      · have h := zifp c9 h
        refine g_tabIn cx (tgt := 66) (off := 48) dX3_takesProbe_18 (by rw [c9]; decide) (by rw [c9]; decide) (by rw [c9]; rfl) rfl ?_
        refine g_iload_n cx dX3_takesProbe_66 rfl ?_
        refine g_wSi cx [.int (I2 v4 ((x2).toNatClampNeg))] [] (e_X9_isChoice hP h) mt_X9_isChoice ml_X3_68 dX3_takesProbe_67 rfl rfl (Nat.le_of_ble_eq_true rfl) (Nat.le_of_ble_eq_true rfl) (Nat.le_of_ble_eq_true rfl) (fun v10 I10 P10 hP h => ?_)
        obtain ⟨hc11, h⟩ := h
        exact g_wi cx hE dX3_takesProbe_70 rfl (zbo_n hc11) hP h
      · have h := zifn c9 h
        by_cases c12 : x1 = 2
        · have h := zifp c12 h
          refine g_tabIn cx (tgt := 71) (off := 53) dX3_takesProbe_18 (by rw [c12]; decide) (by rw [c12]; decide) (by rw [c12]; rfl) rfl ?_
          refine g_iload_n cx dX3_takesProbe_71 rfl ?_
          refine g_if_ne cx (tgt := 79) dX3_takesProbe_72 rfl (fun c13 => ?_) (fun c13 => ?_)
          · have h := zifn c13 h
            refine g_iconst cx dX3_takesProbe_79 ic_0 ?_
            exact g_wi cx hE dX3_takesProbe_80 rfl rfl hP h
          · have h := zifp c13 h
            refine g_iconst cx dX3_takesProbe_75 ic_1 ?_
            refine g_goto cx (tgt := 80) dX3_takesProbe_76 rfl ?_
            exact g_wi cx hE dX3_takesProbe_80 rfl rfl hP h
        · have h := zifn c12 h
          by_cases c14 : x1 = 3
          · have h := zifp c14 h
            refine g_tabIn cx (tgt := 71) (off := 53) dX3_takesProbe_18 (by rw [c14]; decide) (by rw [c14]; decide) (by rw [c14]; rfl) rfl ?_
            refine g_iload_n cx dX3_takesProbe_71 rfl ?_
            refine g_if_ne cx (tgt := 79) dX3_takesProbe_72 rfl (fun c15 => ?_) (fun c15 => ?_)
            · have h := zifn c15 h
              refine g_iconst cx dX3_takesProbe_79 ic_0 ?_
              exact g_wi cx hE dX3_takesProbe_80 rfl rfl hP h
            · have h := zifp c15 h
              refine g_iconst cx dX3_takesProbe_75 ic_1 ?_
              refine g_goto cx (tgt := 80) dX3_takesProbe_76 rfl ?_
              exact g_wi cx hE dX3_takesProbe_80 rfl rfl hP h
          · have h := zifn c14 h
            by_cases c16 : x1 = 4
            · have h := zifp c16 h
              refine g_tabIn cx (tgt := 81) (off := 63) dX3_takesProbe_18 (by rw [c16]; decide) (by rw [c16]; decide) (by rw [c16]; rfl) rfl ?_
              refine g_iload_n cx dX3_takesProbe_81 rfl ?_
              refine g_bipush cx dX3_takesProbe_82 bp_35 ?_
              refine g_icmp_eq cx (tgt := 93) dX3_takesProbe_84 rfl (fun c17 => ?_) (fun c17 => ?_)
              · have h := zifp c17 h
                refine g_iconst cx dX3_takesProbe_93 ic_1 ?_
                refine g_goto cx (tgt := 98) dX3_takesProbe_94 rfl ?_
                exact g_wi cx hE dX3_takesProbe_98 rfl rfl hP h
              · have h := zifn c17 h
                refine g_iload_n cx dX3_takesProbe_87 rfl ?_
                refine g_bipush cx dX3_takesProbe_88 bp_39 ?_
                refine g_icmp_ne cx (tgt := 97) dX3_takesProbe_90 rfl (fun c18 => ?_) (fun c18 => ?_)
                · have h := zifn c18 h
                  refine g_iconst cx dX3_takesProbe_97 ic_0 ?_
                  exact g_wi cx hE dX3_takesProbe_98 rfl rfl hP h
                · have h := zifp c18 h
                  refine g_iconst cx dX3_takesProbe_93 ic_1 ?_
                  refine g_goto cx (tgt := 98) dX3_takesProbe_94 rfl ?_
                  exact g_wi cx hE dX3_takesProbe_98 rfl rfl hP h
            · have h := zifn c16 h
              by_cases c19 : x1 = 5
              · have h := zifp c19 h
                refine g_tabIn cx (tgt := 99) (off := 81) dX3_takesProbe_18 (by rw [c19]; decide) (by rw [c19]; decide) (by rw [c19]; rfl) rfl ?_
                refine g_aload_n cx dX3_takesProbe_99 rfl ?_
                refine g_iload_n cx dX3_takesProbe_100 rfl ?_
                refine g_wVi cx [.int x2] [] (e_X3_isTarget hP h) mt_X3_isTarget ml_X3_71 hs1 rfl rfl dX3_takesProbe_101 rfl rfl (Nat.le_of_ble_eq_true rfl) (Nat.le_of_ble_eq_true rfl) (Nat.le_of_ble_eq_true rfl) (fun v20 I20 P20 hP h => ?_)
                obtain ⟨hc21, h⟩ := h
                exact g_wi cx hE dX3_takesProbe_104 rfl (zbo_n hc21) hP h
              · have h := zifn c19 h
                by_cases c22 : x1 = 6
                · have h := zifp c22 h
                  refine g_tabIn cx (tgt := 64) (off := 46) dX3_takesProbe_18 (by rw [c22]; decide) (by rw [c22]; decide) (by rw [c22]; rfl) rfl ?_
                  refine g_iconst cx dX3_takesProbe_64 ic_1 ?_
                  exact g_wi cx hE dX3_takesProbe_65 rfl rfl hP h
                · have h := zifn c22 h
                  by_cases c23 : x1 = 7
                  · have h := zifp c23 h
                    refine g_tabIn cx (tgt := 105) (off := 87) dX3_takesProbe_18 (by rw [c23]; decide) (by rw [c23]; decide) (by rw [c23]; rfl) rfl ?_
                    refine g_iload_n cx dX3_takesProbe_105 rfl ?_
                    refine g_wSi cx [.int (I2 v4 ((x2).toNatClampNeg))] [] (e_X9_isReplaceable hP h) mt_X9_isReplaceable ml_X3_74 dX3_takesProbe_106 rfl rfl (Nat.le_of_ble_eq_true rfl) (Nat.le_of_ble_eq_true rfl) (Nat.le_of_ble_eq_true rfl) (fun v24 I24 P24 hP h => ?_)
                    obtain ⟨hc25, h⟩ := h
                    exact g_wi cx hE dX3_takesProbe_109 rfl (zbo_n hc25) hP h
                  · have h := zifn c23 h
                    refine g_tabOut cx (tgt := 110) dX3_takesProbe_18 (by have q0 : (x1 : Int32).toInt ≠ 0 := i32ne c8; have q1 : (x1 : Int32).toInt ≠ 1 := i32ne c9; have q2 : (x1 : Int32).toInt ≠ 2 := i32ne c12; have q3 : (x1 : Int32).toInt ≠ 3 := i32ne c14; have q4 : (x1 : Int32).toInt ≠ 4 := i32ne c16; have q5 : (x1 : Int32).toInt ≠ 5 := i32ne c19; have q6 : (x1 : Int32).toInt ≠ 6 := i32ne c22; have q7 : (x1 : Int32).toInt ≠ 7 := i32ne c23; omega) rfl ?_
                    refine g_iconst cx dX3_takesProbe_110 ic_0 ?_
                    exact g_wi cx hE dX3_takesProbe_111 rfl rfl hP h
  · have h := zifp c3 h
    refine g_iconst cx dX3_takesProbe_8 ic_0 ?_
    exact g_wi cx hE dX3_takesProbe_9 rfl rfl hP h
def w_X8_tell (o : Nat) (x1 : Int32) (I : zI) (P : zP) (K : Int32 → zI → zP → Prop) : Prop := if x1 = 6 then (SHy[o]? = some (8, 11) ∧ (if (I o 5) = 0 then (K (-1) I P) else (K (I o 6) I P))) else (if x1 = 7 then (SHy[o]? = some (8, 11) ∧ (if (I o 5) = 0 then (K (-1) I P) else (K (I o 7) I P))) else (if x1 = 8 then (SHy[o]? = some (8, 11) ∧ (if (I o 5) = 0 then (K (-1) I P) else (K (I o 8) I P))) else (if x1 = 9 then (SHy[o]? = some (8, 11) ∧ (if (I o 5) = 0 then (K (-1) I P) else (K (I o 9) I P))) else (K (-2) I P))))
theorem e_X8_tell {o : Nat} {x1 : Int32} {I : zI} {P : zP} {K : Int32 → zI → zP → Prop} (hP : PSt P) (h : w_X8_tell o x1 I P K) : Ev yX8_tell cX8_tell 2 (some .int) 0 0 0 0 [.ref o, .int x1] SHy I P (zKi K) := by
  refine Ev.start [.ref o, .int x1] pn_X8 rfl (Nat.le_of_ble_eq_true rfl) rfl (fun κ cx hE => ?_)
  unfold w_X8_tell at h
  refine g_iload_n cx dX8_tell_0 rfl ?_
  by_cases c1 : x1 = 6
  · have h := zifp c1 h
    refine g_tabIn cx (tgt := 32) (off := 31) dX8_tell_1 (by rw [c1]; decide) (by rw [c1]; decide) (by rw [c1]; rfl) rfl ?_
    refine g_aload_n cx dX8_tell_32 rfl ?_
    obtain ⟨hs2, h⟩ := h
    refine g_getI cx lk_X8_28 hs2 (Nat.le_of_ble_eq_true rfl) rfl dX8_tell_33 (x := (I o 5)) rfl ?_
    refine g_if_eq cx (tgt := 46) dX8_tell_36 rfl (fun c3 => ?_) (fun c3 => ?_)
    · have h := zifp c3 h
      refine g_iconst cx dX8_tell_46 ic_m1 ?_
      exact g_wi cx hE dX8_tell_47 rfl rfl hP h
    · have h := zifn c3 h
      refine g_aload_n cx dX8_tell_39 rfl ?_
      refine g_getI cx lk_X8_32 hs2 (Nat.le_of_ble_eq_true rfl) rfl dX8_tell_40 (x := (I o 6)) rfl ?_
      refine g_goto cx (tgt := 47) dX8_tell_43 rfl ?_
      exact g_wi cx hE dX8_tell_47 rfl rfl hP h
  · have h := zifn c1 h
    by_cases c4 : x1 = 7
    · have h := zifp c4 h
      refine g_tabIn cx (tgt := 48) (off := 47) dX8_tell_1 (by rw [c4]; decide) (by rw [c4]; decide) (by rw [c4]; rfl) rfl ?_
      refine g_aload_n cx dX8_tell_48 rfl ?_
      obtain ⟨hs5, h⟩ := h
      refine g_getI cx lk_X8_28 hs5 (Nat.le_of_ble_eq_true rfl) rfl dX8_tell_49 (x := (I o 5)) rfl ?_
      refine g_if_eq cx (tgt := 62) dX8_tell_52 rfl (fun c6 => ?_) (fun c6 => ?_)
      · have h := zifp c6 h
        refine g_iconst cx dX8_tell_62 ic_m1 ?_
        exact g_wi cx hE dX8_tell_63 rfl rfl hP h
      · have h := zifn c6 h
        refine g_aload_n cx dX8_tell_55 rfl ?_
        refine g_getI cx lk_X8_36 hs5 (Nat.le_of_ble_eq_true rfl) rfl dX8_tell_56 (x := (I o 7)) rfl ?_
        refine g_goto cx (tgt := 63) dX8_tell_59 rfl ?_
        exact g_wi cx hE dX8_tell_63 rfl rfl hP h
    · have h := zifn c4 h
      by_cases c7 : x1 = 8
      · have h := zifp c7 h
        refine g_tabIn cx (tgt := 64) (off := 63) dX8_tell_1 (by rw [c7]; decide) (by rw [c7]; decide) (by rw [c7]; rfl) rfl ?_
        refine g_aload_n cx dX8_tell_64 rfl ?_
        obtain ⟨hs8, h⟩ := h
        refine g_getI cx lk_X8_28 hs8 (Nat.le_of_ble_eq_true rfl) rfl dX8_tell_65 (x := (I o 5)) rfl ?_
        refine g_if_eq cx (tgt := 78) dX8_tell_68 rfl (fun c9 => ?_) (fun c9 => ?_)
        · have h := zifp c9 h
          refine g_iconst cx dX8_tell_78 ic_m1 ?_
          exact g_wi cx hE dX8_tell_79 rfl rfl hP h
        · have h := zifn c9 h
          refine g_aload_n cx dX8_tell_71 rfl ?_
          refine g_getI cx lk_X8_39 hs8 (Nat.le_of_ble_eq_true rfl) rfl dX8_tell_72 (x := (I o 8)) rfl ?_
          refine g_goto cx (tgt := 79) dX8_tell_75 rfl ?_
          exact g_wi cx hE dX8_tell_79 rfl rfl hP h
      · have h := zifn c7 h
        by_cases c10 : x1 = 9
        · have h := zifp c10 h
          refine g_tabIn cx (tgt := 80) (off := 79) dX8_tell_1 (by rw [c10]; decide) (by rw [c10]; decide) (by rw [c10]; rfl) rfl ?_
          refine g_aload_n cx dX8_tell_80 rfl ?_
          obtain ⟨hs11, h⟩ := h
          refine g_getI cx lk_X8_28 hs11 (Nat.le_of_ble_eq_true rfl) rfl dX8_tell_81 (x := (I o 5)) rfl ?_
          refine g_if_eq cx (tgt := 94) dX8_tell_84 rfl (fun c12 => ?_) (fun c12 => ?_)
          · have h := zifp c12 h
            refine g_iconst cx dX8_tell_94 ic_m1 ?_
            exact g_wi cx hE dX8_tell_95 rfl rfl hP h
          · have h := zifn c12 h
            refine g_aload_n cx dX8_tell_87 rfl ?_
            refine g_getI cx lk_X8_42 hs11 (Nat.le_of_ble_eq_true rfl) rfl dX8_tell_88 (x := (I o 9)) rfl ?_
            refine g_goto cx (tgt := 95) dX8_tell_91 rfl ?_
            exact g_wi cx hE dX8_tell_95 rfl rfl hP h
        · have h := zifn c10 h
          refine g_tabOut cx (tgt := 96) dX8_tell_1 (by have q0 : (x1 : Int32).toInt ≠ 6 := i32ne c1; have q1 : (x1 : Int32).toInt ≠ 7 := i32ne c4; have q2 : (x1 : Int32).toInt ≠ 8 := i32ne c7; have q3 : (x1 : Int32).toInt ≠ 9 := i32ne c10; omega) rfl ?_
          refine g_bipush cx dX8_tell_96 bp_m2 ?_
          exact g_wi cx hE dX8_tell_98 rfl rfl hP h
def w_X3_tell (o : Nat) (x1 : Int32) (I : zI) (P : zP) (K : Int32 → zI → zP → Prop) : Prop := if x1 = 0 then (SHy[o]? = some (3, 11) ∧ (K (I o 7) I P)) else (if x1 = 1 then (SHy[o]? = some (3, 11) ∧ (K (I o 8) I P)) else (if x1 = 2 then (SHy[o]? = some (3, 11) ∧ (K (I o 9) I P)) else (if x1 = 3 then (SHy[o]? = some (3, 11) ∧ (K (I o 10) I P)) else (if x1 = 4 then (SHy[o]? = some (3, 11) ∧ (w_X3_instructionCount o I P (fun (v11 : Int32) (I11 : zI) (P11 : zP) => (K v11 I11 P11)))) else (if x1 = 5 then (SHy[o]? = some (3, 11) ∧ (w_X3_greatestHeight o I P (fun (v14 : Int32) (I14 : zI) (P14 : zP) => (K v14 I14 P14)))) else (SHy[o]? = some (3, 11) ∧ (∃ v16, P o 6 = some v16 ∧ (SHy[v16]? = some (8, 11) ∧ (w_X8_tell v16 x1 I P (fun (v19 : Int32) (I19 : zI) (P19 : zP) => (K v19 I19 P19)))))))))))
theorem e_X3_tell {o : Nat} {x1 : Int32} {I : zI} {P : zP} {K : Int32 → zI → zP → Prop} (hP : PSt P) (h : w_X3_tell o x1 I P K) : Ev yX3_tell cX3_tell 2 (some .int) 3 64 0 0 [.ref o, .int x1] SHy I P (zKi K) := by
  refine Ev.start [.ref o, .int x1] pn_X3 rfl (Nat.le_of_ble_eq_true rfl) rfl (fun κ cx hE => ?_)
  unfold w_X3_tell at h
  refine g_iload_n cx dX3_tell_0 rfl ?_
  by_cases c1 : x1 = 0
  · have h := zifp c1 h
    refine g_tabIn cx (tgt := 40) (off := 39) dX3_tell_1 (by rw [c1]; decide) (by rw [c1]; decide) (by rw [c1]; rfl) rfl ?_
    refine g_aload_n cx dX3_tell_40 rfl ?_
    obtain ⟨hs2, h⟩ := h
    refine g_getI cx lk_X3_34 hs2 (Nat.le_of_ble_eq_true rfl) rfl dX3_tell_41 (x := (I o 7)) rfl ?_
    exact g_wi cx hE dX3_tell_44 rfl rfl hP h
  · have h := zifn c1 h
    by_cases c3 : x1 = 1
    · have h := zifp c3 h
      refine g_tabIn cx (tgt := 45) (off := 44) dX3_tell_1 (by rw [c3]; decide) (by rw [c3]; decide) (by rw [c3]; rfl) rfl ?_
      refine g_aload_n cx dX3_tell_45 rfl ?_
      obtain ⟨hs4, h⟩ := h
      refine g_getI cx lk_X3_38 hs4 (Nat.le_of_ble_eq_true rfl) rfl dX3_tell_46 (x := (I o 8)) rfl ?_
      exact g_wi cx hE dX3_tell_49 rfl rfl hP h
    · have h := zifn c3 h
      by_cases c5 : x1 = 2
      · have h := zifp c5 h
        refine g_tabIn cx (tgt := 50) (off := 49) dX3_tell_1 (by rw [c5]; decide) (by rw [c5]; decide) (by rw [c5]; rfl) rfl ?_
        refine g_aload_n cx dX3_tell_50 rfl ?_
        obtain ⟨hs6, h⟩ := h
        refine g_getI cx lk_X3_41 hs6 (Nat.le_of_ble_eq_true rfl) rfl dX3_tell_51 (x := (I o 9)) rfl ?_
        exact g_wi cx hE dX3_tell_54 rfl rfl hP h
      · have h := zifn c5 h
        by_cases c7 : x1 = 3
        · have h := zifp c7 h
          refine g_tabIn cx (tgt := 55) (off := 54) dX3_tell_1 (by rw [c7]; decide) (by rw [c7]; decide) (by rw [c7]; rfl) rfl ?_
          refine g_aload_n cx dX3_tell_55 rfl ?_
          obtain ⟨hs8, h⟩ := h
          refine g_getI cx lk_X3_44 hs8 (Nat.le_of_ble_eq_true rfl) rfl dX3_tell_56 (x := (I o 10)) rfl ?_
          exact g_wi cx hE dX3_tell_59 rfl rfl hP h
        · have h := zifn c7 h
          by_cases c9 : x1 = 4
          · have h := zifp c9 h
            refine g_tabIn cx (tgt := 60) (off := 59) dX3_tell_1 (by rw [c9]; decide) (by rw [c9]; decide) (by rw [c9]; rfl) rfl ?_
            refine g_aload_n cx dX3_tell_60 rfl ?_
            obtain ⟨hs10, h⟩ := h
            refine g_wVi cx [] [] (e_X3_instructionCount hP h) mt_X3_instructionCount ml_X3_77 hs10 rfl rfl dX3_tell_61 rfl rfl (Nat.le_of_ble_eq_true rfl) (Nat.le_of_ble_eq_true rfl) (Nat.le_of_ble_eq_true rfl) (fun v11 I11 P11 hP h => ?_)
            exact g_wi cx hE dX3_tell_64 rfl rfl hP h
          · have h := zifn c9 h
            by_cases c12 : x1 = 5
            · have h := zifp c12 h
              refine g_tabIn cx (tgt := 65) (off := 64) dX3_tell_1 (by rw [c12]; decide) (by rw [c12]; decide) (by rw [c12]; rfl) rfl ?_
              refine g_aload_n cx dX3_tell_65 rfl ?_
              obtain ⟨hs13, h⟩ := h
              refine g_wVi cx [] [] (e_X3_greatestHeight hP h) mt_X3_greatestHeight ml_X3_81 hs13 rfl rfl dX3_tell_66 rfl rfl (Nat.le_of_ble_eq_true rfl) (Nat.le_of_ble_eq_true rfl) (Nat.le_of_ble_eq_true rfl) (fun v14 I14 P14 hP h => ?_)
              exact g_wi cx hE dX3_tell_69 rfl rfl hP h
            · have h := zifn c12 h
              refine g_tabOut cx (tgt := 70) dX3_tell_1 (by have q0 : (x1 : Int32).toInt ≠ 0 := i32ne c1; have q1 : (x1 : Int32).toInt ≠ 1 := i32ne c3; have q2 : (x1 : Int32).toInt ≠ 2 := i32ne c5; have q3 : (x1 : Int32).toInt ≠ 3 := i32ne c7; have q4 : (x1 : Int32).toInt ≠ 4 := i32ne c9; have q5 : (x1 : Int32).toInt ≠ 5 := i32ne c12; omega) rfl ?_
              refine g_aload_n cx dX3_tell_70 rfl ?_
              obtain ⟨hs15, h⟩ := h
              obtain ⟨v16, hv17, h⟩ := h
              refine g_getR cx lk_X3_30 hs15 (Nat.le_of_ble_eq_true rfl) rfl dX3_tell_71 hv17 ?_
              refine g_iload_n cx dX3_tell_74 rfl ?_
              obtain ⟨hs18, h⟩ := h
              refine g_wVi cx [.int x1] [] (e_X8_tell hP h) mt_X8_tell ml_X3_84 hs18 rfl rfl dX3_tell_75 rfl rfl (Nat.le_of_ble_eq_true rfl) (Nat.le_of_ble_eq_true rfl) (Nat.le_of_ble_eq_true rfl) (fun v19 I19 P19 hP h => ?_)
              exact g_wi cx hE dX3_tell_78 rfl rfl hP h
def j_X3_typeBefore_54 (K : Int32 → zI → zP → Prop) (y0 : Nat) (y1 : Int32) (y2 : Int32) (y3 : Int32) (I : zI) (P : zP) : Prop := if y2 ≤ 12 then (K (-1) I P) else (if y3 ≤ ((y2 - 12) - 1) then (K (-1) I P) else (SHy[y0]? = some (3, 11) ∧ (∃ v4, P y0 3 = some v4 ∧ (SHy[v4]? = some (11, (zlen v4)) ∧ (vp_in y1 (zlen v4) ∧ (K ((((I v4 ((y1).toNatClampNeg)) : Int32) >>> (((2 * ((y2 - 12) - 1)) : Int32) &&& 31)) &&& 3) I P))))))
theorem gj_X3_typeBefore_54 {κ : zX} (cx : Cx yX3_typeBefore cX3_typeBefore 5 (some .int) 2 42 κ) {K : Int32 → zI → zP → Prop} (hE : zEnd (zKi K) 0 0 κ) {y0 : Nat} {y1 : Int32} {y2 : Int32} {y3 : Int32} {I : zI} {P : zP} (hP : PSt P) (h : j_X3_typeBefore_54 K y0 y1 y2 y3 I P) : Gx κ 54 [.ref y0, .int y1, .int y2, .int y3, .float 0] [] SHy I P 0 0 := by
  unfold j_X3_typeBefore_54 at h
  refine g_iload_n cx dX3_typeBefore_54 rfl ?_
  refine g_bipush cx dX3_typeBefore_55 bp_12 ?_
  refine g_isub cx dX3_typeBefore_57 ?_
  refine g_iconst cx dX3_typeBefore_58 ic_1 ?_
  refine g_isub cx dX3_typeBefore_59 ?_
  refine g_istore cx dX3_typeBefore_60 (Nat.le_of_ble_eq_true rfl) (Gx.L [.ref y0, .int y1, .int y2, .int y3, .int ((y2 - 12) - 1)] rfl ?_)
  refine g_iload_n cx dX3_typeBefore_62 rfl ?_
  refine g_bipush cx dX3_typeBefore_63 bp_12 ?_
  refine g_icmp_le cx (tgt := 90) dX3_typeBefore_65 rfl (fun c1 => ?_) (fun c1 => ?_)
  · have h := zifp c1 h
    refine g_iconst cx dX3_typeBefore_90 ic_m1 ?_
    exact g_wi cx hE dX3_typeBefore_91 rfl rfl hP h
  · have h := zifn c1 h
    refine g_iload cx dX3_typeBefore_68 rfl ?_
    refine g_iload_n cx dX3_typeBefore_70 rfl ?_
    refine g_icmp_ge cx (tgt := 90) dX3_typeBefore_71 rfl (fun c2 => ?_) (fun c2 => ?_)
    · have h := zifp c2 h
      refine g_iconst cx dX3_typeBefore_90 ic_m1 ?_
      exact g_wi cx hE dX3_typeBefore_91 rfl rfl hP h
    · have h := zifn c2 h
      refine g_aload_n cx dX3_typeBefore_74 rfl ?_
      obtain ⟨hs3, h⟩ := h
      obtain ⟨v4, hv5, h⟩ := h
      refine g_getR cx lk_X3_18 hs3 (Nat.le_of_ble_eq_true rfl) rfl dX3_typeBefore_75 hv5 ?_
      refine g_iload_n cx dX3_typeBefore_78 rfl ?_
      obtain ⟨hs6, h⟩ := h
      obtain ⟨hc7, h⟩ := h
      refine g_iald cx dX3_typeBefore_79 hs6 hc7 (x := (I v4 ((y1).toNatClampNeg))) rfl ?_
      refine g_iconst cx dX3_typeBefore_80 ic_2 ?_
      refine g_iload cx dX3_typeBefore_81 rfl ?_
      refine g_imul cx dX3_typeBefore_83 ?_
      refine g_ishr cx dX3_typeBefore_84 ?_
      refine g_iconst cx dX3_typeBefore_85 ic_3 ?_
      refine g_iand cx dX3_typeBefore_86 ?_
      refine g_goto cx (tgt := 91) dX3_typeBefore_87 rfl ?_
      exact g_wi cx hE dX3_typeBefore_91 rfl rfl hP h
def w_X3_typeBefore (o : Nat) (x1 : Int32) (x2 : Int32) (I : zI) (P : zP) (K : Int32 → zI → zP → Prop) : Prop := SHy[o]? = some (3, 11) ∧ (w_X3_isComeTo o x1 I P (fun (v2 : Int32) (I2 : zI) (P2 : zP) => (if v2 = 0 then (K (-1) I2 P2) else (∃ v4, P2 o 3 = some v4 ∧ (SHy[v4]? = some (11, (zlen v4)) ∧ (vp_in x1 (zlen v4) ∧ (if x2 = 0 then (K (((I2 v4 ((x1).toNatClampNeg)) : Int32) >>> ((20 : Int32) &&& 31)) I2 P2) else (if x2 < 1 then (j_X3_typeBefore_54 K o x1 x2 (((I2 v4 ((x1).toNatClampNeg)) : Int32) >>> ((20 : Int32) &&& 31)) I2 P2) else (if (I2 o 8) < x2 then (j_X3_typeBefore_54 K o x1 x2 (((I2 v4 ((x1).toNatClampNeg)) : Int32) >>> ((20 : Int32) &&& 31)) I2 P2) else (∃ v11, P2 o 4 = some v11 ∧ (SHy[v11]? = some (11, (zlen v11)) ∧ (vp_in x1 (zlen v11) ∧ (K ((((I2 v11 ((x1).toNatClampNeg)) : Int32) >>> (((2 * (x2 - 1)) : Int32) &&& 31)) &&& 3) I2 P2)))))))))))))
theorem e_X3_typeBefore {o : Nat} {x1 : Int32} {x2 : Int32} {I : zI} {P : zP} {K : Int32 → zI → zP → Prop} (hP : PSt P) (h : w_X3_typeBefore o x1 x2 I P K) : Ev yX3_typeBefore cX3_typeBefore 5 (some .int) 2 42 0 0 [.ref o, .int x1, .int x2] SHy I P (zKi K) := by
  refine Ev.start [.ref o, .int x1, .int x2, .float 0, .float 0] pn_X3 rfl (Nat.le_of_ble_eq_true rfl) rfl (fun κ cx hE => ?_)
  unfold w_X3_typeBefore at h
  refine g_aload_n cx dX3_typeBefore_0 rfl ?_
  refine g_iload_n cx dX3_typeBefore_1 rfl ?_
  obtain ⟨hs1, h⟩ := h
  refine g_wVi cx [.int x1] [] (e_X3_isComeTo hP h) mt_X3_isComeTo ml_X3_88 hs1 rfl rfl dX3_typeBefore_2 rfl rfl (Nat.le_of_ble_eq_true rfl) (Nat.le_of_ble_eq_true rfl) (Nat.le_of_ble_eq_true rfl) (fun v2 I2 P2 hP h => ?_)
  refine g_if_ne cx (tgt := 10) dX3_typeBefore_5 rfl (fun c3 => ?_) (fun c3 => ?_)
  · have h := zifn c3 h
    refine g_aload_n cx dX3_typeBefore_10 rfl ?_
    obtain ⟨v4, hv5, h⟩ := h
    refine g_getR cx lk_X3_18 hs1 (Nat.le_of_ble_eq_true rfl) rfl dX3_typeBefore_11 hv5 ?_
    refine g_iload_n cx dX3_typeBefore_14 rfl ?_
    obtain ⟨hs6, h⟩ := h
    obtain ⟨hc7, h⟩ := h
    refine g_iald cx dX3_typeBefore_15 hs6 hc7 (x := (I2 v4 ((x1).toNatClampNeg))) rfl ?_
    refine g_bipush cx dX3_typeBefore_16 bp_20 ?_
    refine g_ishr cx dX3_typeBefore_18 ?_
    refine g_istore_n cx dX3_typeBefore_19 (Nat.le_of_ble_eq_true rfl) (Gx.L [.ref o, .int x1, .int x2, .int (((I2 v4 ((x1).toNatClampNeg)) : Int32) >>> ((20 : Int32) &&& 31)), .float 0] rfl ?_)
    refine g_iload_n cx dX3_typeBefore_20 rfl ?_
    refine g_if_ne cx (tgt := 26) dX3_typeBefore_21 rfl (fun c8 => ?_) (fun c8 => ?_)
    · have h := zifn c8 h
      refine g_iload_n cx dX3_typeBefore_26 rfl ?_
      refine g_iconst cx dX3_typeBefore_27 ic_1 ?_
      refine g_icmp_lt cx (tgt := 54) dX3_typeBefore_28 rfl (fun c9 => ?_) (fun c9 => ?_)
      · have h := zifp c9 h
        exact gj_X3_typeBefore_54 cx hE hP h
      · have h := zifn c9 h
        refine g_iload_n cx dX3_typeBefore_31 rfl ?_
        refine g_aload_n cx dX3_typeBefore_32 rfl ?_
        refine g_getI cx lk_X3_38 hs1 (Nat.le_of_ble_eq_true rfl) rfl dX3_typeBefore_33 (x := (I2 o 8)) rfl ?_
        refine g_icmp_gt cx (tgt := 54) dX3_typeBefore_36 rfl (fun c10 => ?_) (fun c10 => ?_)
        · have h := zifp c10 h
          exact gj_X3_typeBefore_54 cx hE hP h
        · have h := zifn c10 h
          refine g_aload_n cx dX3_typeBefore_39 rfl ?_
          obtain ⟨v11, hv12, h⟩ := h
          refine g_getR cx lk_X3_21 hs1 (Nat.le_of_ble_eq_true rfl) rfl dX3_typeBefore_40 hv12 ?_
          refine g_iload_n cx dX3_typeBefore_43 rfl ?_
          obtain ⟨hs13, h⟩ := h
          obtain ⟨hc14, h⟩ := h
          refine g_iald cx dX3_typeBefore_44 hs13 hc14 (x := (I2 v11 ((x1).toNatClampNeg))) rfl ?_
          refine g_iconst cx dX3_typeBefore_45 ic_2 ?_
          refine g_iload_n cx dX3_typeBefore_46 rfl ?_
          refine g_iconst cx dX3_typeBefore_47 ic_1 ?_
          refine g_isub cx dX3_typeBefore_48 ?_
          refine g_imul cx dX3_typeBefore_49 ?_
          refine g_ishr cx dX3_typeBefore_50 ?_
          refine g_iconst cx dX3_typeBefore_51 ic_3 ?_
          refine g_iand cx dX3_typeBefore_52 ?_
          exact g_wi cx hE dX3_typeBefore_53 rfl rfl hP h
    · have h := zifp c8 h
      refine g_iload_n cx dX3_typeBefore_24 rfl ?_
      exact g_wi cx hE dX3_typeBefore_25 rfl rfl hP h
  · have h := zifp c3 h
    refine g_iconst cx dX3_typeBefore_8 ic_m1 ?_
    exact g_wi cx hE dX3_typeBefore_9 rfl rfl hP h
def w_X4_add (x1 : Int32) (x2 : Int32) (x3 : Int32) (x4 : Int32) (x5 : Int32) (I : zI) (P : zP) (K : Int32 → zI → zP → Prop) : Prop := if (I 108 5) < 0 then (K (-3) I P) else (if (I 108 5) < 24 then (vp_in (I 108 5) 24 ∧ (vp_in ((zu I 109 (((I 108 5)).toNatClampNeg) x1) 108 5) 24 ∧ (vp_in ((zu (zu I 109 (((I 108 5)).toNatClampNeg) x1) 110 ((((zu I 109 (((I 108 5)).toNatClampNeg) x1) 108 5)).toNatClampNeg) x2) 108 5) 24 ∧ (vp_in ((zu (zu (zu I 109 (((I 108 5)).toNatClampNeg) x1) 110 ((((zu I 109 (((I 108 5)).toNatClampNeg) x1) 108 5)).toNatClampNeg) x2) 111 ((((zu (zu I 109 (((I 108 5)).toNatClampNeg) x1) 110 ((((zu I 109 (((I 108 5)).toNatClampNeg) x1) 108 5)).toNatClampNeg) x2) 108 5)).toNatClampNeg) x3) 108 5) 24 ∧ (vp_in ((zu (zu (zu (zu I 109 (((I 108 5)).toNatClampNeg) x1) 110 ((((zu I 109 (((I 108 5)).toNatClampNeg) x1) 108 5)).toNatClampNeg) x2) 111 ((((zu (zu I 109 (((I 108 5)).toNatClampNeg) x1) 110 ((((zu I 109 (((I 108 5)).toNatClampNeg) x1) 108 5)).toNatClampNeg) x2) 108 5)).toNatClampNeg) x3) 112 ((((zu (zu (zu I 109 (((I 108 5)).toNatClampNeg) x1) 110 ((((zu I 109 (((I 108 5)).toNatClampNeg) x1) 108 5)).toNatClampNeg) x2) 111 ((((zu (zu I 109 (((I 108 5)).toNatClampNeg) x1) 110 ((((zu I 109 (((I 108 5)).toNatClampNeg) x1) 108 5)).toNatClampNeg) x2) 108 5)).toNatClampNeg) x3) 108 5)).toNatClampNeg) x4) 108 5) 24 ∧ (K ((((zu (zu (zu (zu (zu I 109 (((I 108 5)).toNatClampNeg) x1) 110 ((((zu I 109 (((I 108 5)).toNatClampNeg) x1) 108 5)).toNatClampNeg) x2) 111 ((((zu (zu I 109 (((I 108 5)).toNatClampNeg) x1) 110 ((((zu I 109 (((I 108 5)).toNatClampNeg) x1) 108 5)).toNatClampNeg) x2) 108 5)).toNatClampNeg) x3) 112 ((((zu (zu (zu I 109 (((I 108 5)).toNatClampNeg) x1) 110 ((((zu I 109 (((I 108 5)).toNatClampNeg) x1) 108 5)).toNatClampNeg) x2) 111 ((((zu (zu I 109 (((I 108 5)).toNatClampNeg) x1) 110 ((((zu I 109 (((I 108 5)).toNatClampNeg) x1) 108 5)).toNatClampNeg) x2) 108 5)).toNatClampNeg) x3) 108 5)).toNatClampNeg) x4) 113 ((((zu (zu (zu (zu I 109 (((I 108 5)).toNatClampNeg) x1) 110 ((((zu I 109 (((I 108 5)).toNatClampNeg) x1) 108 5)).toNatClampNeg) x2) 111 ((((zu (zu I 109 (((I 108 5)).toNatClampNeg) x1) 110 ((((zu I 109 (((I 108 5)).toNatClampNeg) x1) 108 5)).toNatClampNeg) x2) 108 5)).toNatClampNeg) x3) 112 ((((zu (zu (zu I 109 (((I 108 5)).toNatClampNeg) x1) 110 ((((zu I 109 (((I 108 5)).toNatClampNeg) x1) 108 5)).toNatClampNeg) x2) 111 ((((zu (zu I 109 (((I 108 5)).toNatClampNeg) x1) 110 ((((zu I 109 (((I 108 5)).toNatClampNeg) x1) 108 5)).toNatClampNeg) x2) 108 5)).toNatClampNeg) x3) 108 5)).toNatClampNeg) x4) 108 5)).toNatClampNeg) x5) 108 5) + 1) - 1) (zu (zu (zu (zu (zu (zu I 109 (((I 108 5)).toNatClampNeg) x1) 110 ((((zu I 109 (((I 108 5)).toNatClampNeg) x1) 108 5)).toNatClampNeg) x2) 111 ((((zu (zu I 109 (((I 108 5)).toNatClampNeg) x1) 110 ((((zu I 109 (((I 108 5)).toNatClampNeg) x1) 108 5)).toNatClampNeg) x2) 108 5)).toNatClampNeg) x3) 112 ((((zu (zu (zu I 109 (((I 108 5)).toNatClampNeg) x1) 110 ((((zu I 109 (((I 108 5)).toNatClampNeg) x1) 108 5)).toNatClampNeg) x2) 111 ((((zu (zu I 109 (((I 108 5)).toNatClampNeg) x1) 110 ((((zu I 109 (((I 108 5)).toNatClampNeg) x1) 108 5)).toNatClampNeg) x2) 108 5)).toNatClampNeg) x3) 108 5)).toNatClampNeg) x4) 113 ((((zu (zu (zu (zu I 109 (((I 108 5)).toNatClampNeg) x1) 110 ((((zu I 109 (((I 108 5)).toNatClampNeg) x1) 108 5)).toNatClampNeg) x2) 111 ((((zu (zu I 109 (((I 108 5)).toNatClampNeg) x1) 110 ((((zu I 109 (((I 108 5)).toNatClampNeg) x1) 108 5)).toNatClampNeg) x2) 108 5)).toNatClampNeg) x3) 112 ((((zu (zu (zu I 109 (((I 108 5)).toNatClampNeg) x1) 110 ((((zu I 109 (((I 108 5)).toNatClampNeg) x1) 108 5)).toNatClampNeg) x2) 111 ((((zu (zu I 109 (((I 108 5)).toNatClampNeg) x1) 110 ((((zu I 109 (((I 108 5)).toNatClampNeg) x1) 108 5)).toNatClampNeg) x2) 108 5)).toNatClampNeg) x3) 108 5)).toNatClampNeg) x4) 108 5)).toNatClampNeg) x5) 108 5 (((zu (zu (zu (zu (zu I 109 (((I 108 5)).toNatClampNeg) x1) 110 ((((zu I 109 (((I 108 5)).toNatClampNeg) x1) 108 5)).toNatClampNeg) x2) 111 ((((zu (zu I 109 (((I 108 5)).toNatClampNeg) x1) 110 ((((zu I 109 (((I 108 5)).toNatClampNeg) x1) 108 5)).toNatClampNeg) x2) 108 5)).toNatClampNeg) x3) 112 ((((zu (zu (zu I 109 (((I 108 5)).toNatClampNeg) x1) 110 ((((zu I 109 (((I 108 5)).toNatClampNeg) x1) 108 5)).toNatClampNeg) x2) 111 ((((zu (zu I 109 (((I 108 5)).toNatClampNeg) x1) 110 ((((zu I 109 (((I 108 5)).toNatClampNeg) x1) 108 5)).toNatClampNeg) x2) 108 5)).toNatClampNeg) x3) 108 5)).toNatClampNeg) x4) 113 ((((zu (zu (zu (zu I 109 (((I 108 5)).toNatClampNeg) x1) 110 ((((zu I 109 (((I 108 5)).toNatClampNeg) x1) 108 5)).toNatClampNeg) x2) 111 ((((zu (zu I 109 (((I 108 5)).toNatClampNeg) x1) 110 ((((zu I 109 (((I 108 5)).toNatClampNeg) x1) 108 5)).toNatClampNeg) x2) 108 5)).toNatClampNeg) x3) 112 ((((zu (zu (zu I 109 (((I 108 5)).toNatClampNeg) x1) 110 ((((zu I 109 (((I 108 5)).toNatClampNeg) x1) 108 5)).toNatClampNeg) x2) 111 ((((zu (zu I 109 (((I 108 5)).toNatClampNeg) x1) 110 ((((zu I 109 (((I 108 5)).toNatClampNeg) x1) 108 5)).toNatClampNeg) x2) 108 5)).toNatClampNeg) x3) 108 5)).toNatClampNeg) x4) 108 5)).toNatClampNeg) x5) 108 5) + 1)) P)))))) else (K (-3) I P))
theorem e_X4_add {x1 : Int32} {x2 : Int32} {x3 : Int32} {x4 : Int32} {x5 : Int32} {I : zI} {P : zP} {K : Int32 → zI → zP → Prop} (hP : PSt P) (h : w_X4_add x1 x2 x3 x4 x5 I P K) : Ev yX4_add cX4_add 6 (some .int) 0 0 0 0 [.ref 108, .int x1, .int x2, .int x3, .int x4, .int x5] SHy I P (zKi K) := by
  refine Ev.start [.ref 108, .int x1, .int x2, .int x3, .int x4, .int x5] pn_X4 rfl (Nat.le_of_ble_eq_true rfl) rfl (fun κ cx hE => ?_)
  unfold w_X4_add at h
  refine g_aload_n cx dX4_add_0 rfl ?_
  refine g_getI cx lk_X4_27 rfl (Nat.le_of_ble_eq_true rfl) rfl dX4_add_1 (x := (I 108 5)) rfl ?_
  refine g_if_lt cx (tgt := 16) dX4_add_4 rfl (fun c1 => ?_) (fun c1 => ?_)
  · have h := zifp c1 h
    refine g_bipush cx dX4_add_16 bp_m3 ?_
    exact g_wi cx hE dX4_add_18 rfl rfl hP h
  · have h := zifn c1 h
    refine g_aload_n cx dX4_add_7 rfl ?_
    refine g_getI cx lk_X4_27 rfl (Nat.le_of_ble_eq_true rfl) rfl dX4_add_8 (x := (I 108 5)) rfl ?_
    refine g_bipush cx dX4_add_11 bp_24 ?_
    refine g_icmp_lt cx (tgt := 19) dX4_add_13 rfl (fun c2 => ?_) (fun c2 => ?_)
    · have h := zifp c2 h
      refine g_aload_n cx dX4_add_19 rfl ?_
      refine g_getR cx lk_X4_9 rfl (Nat.le_of_ble_eq_true rfl) rfl dX4_add_20 (v := 109) (pst hP 104 rfl) ?_
      refine g_aload_n cx dX4_add_23 rfl ?_
      refine g_getI cx lk_X4_27 rfl (Nat.le_of_ble_eq_true rfl) rfl dX4_add_24 (x := (I 108 5)) rfl ?_
      refine g_iload_n cx dX4_add_27 rfl ?_
      obtain ⟨hc3, h⟩ := h
      refine g_iast cx dX4_add_28 rfl hc3 ?_
      refine g_aload_n cx dX4_add_29 rfl ?_
      refine g_getR cx lk_X4_15 rfl (Nat.le_of_ble_eq_true rfl) rfl dX4_add_30 (v := 110) (pst hP 105 rfl) ?_
      refine g_aload_n cx dX4_add_33 rfl ?_
      refine g_getI cx lk_X4_27 rfl (Nat.le_of_ble_eq_true rfl) rfl dX4_add_34 (x := ((zu I 109 (((I 108 5)).toNatClampNeg) x1) 108 5)) rfl ?_
      refine g_iload_n cx dX4_add_37 rfl ?_
      obtain ⟨hc4, h⟩ := h
      refine g_iast cx dX4_add_38 rfl hc4 ?_
      refine g_aload_n cx dX4_add_39 rfl ?_
      refine g_getR cx lk_X4_18 rfl (Nat.le_of_ble_eq_true rfl) rfl dX4_add_40 (v := 111) (pst hP 106 rfl) ?_
      refine g_aload_n cx dX4_add_43 rfl ?_
      refine g_getI cx lk_X4_27 rfl (Nat.le_of_ble_eq_true rfl) rfl dX4_add_44 (x := ((zu (zu I 109 (((I 108 5)).toNatClampNeg) x1) 110 ((((zu I 109 (((I 108 5)).toNatClampNeg) x1) 108 5)).toNatClampNeg) x2) 108 5)) rfl ?_
      refine g_iload_n cx dX4_add_47 rfl ?_
      obtain ⟨hc5, h⟩ := h
      refine g_iast cx dX4_add_48 rfl hc5 ?_
      refine g_aload_n cx dX4_add_49 rfl ?_
      refine g_getR cx lk_X4_21 rfl (Nat.le_of_ble_eq_true rfl) rfl dX4_add_50 (v := 112) (pst hP 107 rfl) ?_
      refine g_aload_n cx dX4_add_53 rfl ?_
      refine g_getI cx lk_X4_27 rfl (Nat.le_of_ble_eq_true rfl) rfl dX4_add_54 (x := ((zu (zu (zu I 109 (((I 108 5)).toNatClampNeg) x1) 110 ((((zu I 109 (((I 108 5)).toNatClampNeg) x1) 108 5)).toNatClampNeg) x2) 111 ((((zu (zu I 109 (((I 108 5)).toNatClampNeg) x1) 110 ((((zu I 109 (((I 108 5)).toNatClampNeg) x1) 108 5)).toNatClampNeg) x2) 108 5)).toNatClampNeg) x3) 108 5)) rfl ?_
      refine g_iload cx dX4_add_57 rfl ?_
      obtain ⟨hc6, h⟩ := h
      refine g_iast cx dX4_add_59 rfl hc6 ?_
      refine Gx.N 60 rfl ?_
      refine g_aload_n cx dX4_add_60 rfl ?_
      refine g_getR cx lk_X4_24 rfl (Nat.le_of_ble_eq_true rfl) rfl dX4_add_61 (v := 113) (pst hP 108 rfl) ?_
      refine g_aload_n cx dX4_add_64 rfl ?_
      refine g_getI cx lk_X4_27 rfl (Nat.le_of_ble_eq_true rfl) rfl dX4_add_65 (x := ((zu (zu (zu (zu I 109 (((I 108 5)).toNatClampNeg) x1) 110 ((((zu I 109 (((I 108 5)).toNatClampNeg) x1) 108 5)).toNatClampNeg) x2) 111 ((((zu (zu I 109 (((I 108 5)).toNatClampNeg) x1) 110 ((((zu I 109 (((I 108 5)).toNatClampNeg) x1) 108 5)).toNatClampNeg) x2) 108 5)).toNatClampNeg) x3) 112 ((((zu (zu (zu I 109 (((I 108 5)).toNatClampNeg) x1) 110 ((((zu I 109 (((I 108 5)).toNatClampNeg) x1) 108 5)).toNatClampNeg) x2) 111 ((((zu (zu I 109 (((I 108 5)).toNatClampNeg) x1) 110 ((((zu I 109 (((I 108 5)).toNatClampNeg) x1) 108 5)).toNatClampNeg) x2) 108 5)).toNatClampNeg) x3) 108 5)).toNatClampNeg) x4) 108 5)) rfl ?_
      refine g_iload cx dX4_add_68 rfl ?_
      obtain ⟨hc7, h⟩ := h
      refine g_iast cx dX4_add_70 rfl hc7 ?_
      refine g_aload_n cx dX4_add_71 rfl ?_
      refine g_dup cx dX4_add_72 rfl ?_
      refine g_getI cx lk_X4_27 rfl (Nat.le_of_ble_eq_true rfl) rfl dX4_add_73 (x := ((zu (zu (zu (zu (zu I 109 (((I 108 5)).toNatClampNeg) x1) 110 ((((zu I 109 (((I 108 5)).toNatClampNeg) x1) 108 5)).toNatClampNeg) x2) 111 ((((zu (zu I 109 (((I 108 5)).toNatClampNeg) x1) 110 ((((zu I 109 (((I 108 5)).toNatClampNeg) x1) 108 5)).toNatClampNeg) x2) 108 5)).toNatClampNeg) x3) 112 ((((zu (zu (zu I 109 (((I 108 5)).toNatClampNeg) x1) 110 ((((zu I 109 (((I 108 5)).toNatClampNeg) x1) 108 5)).toNatClampNeg) x2) 111 ((((zu (zu I 109 (((I 108 5)).toNatClampNeg) x1) 110 ((((zu I 109 (((I 108 5)).toNatClampNeg) x1) 108 5)).toNatClampNeg) x2) 108 5)).toNatClampNeg) x3) 108 5)).toNatClampNeg) x4) 113 ((((zu (zu (zu (zu I 109 (((I 108 5)).toNatClampNeg) x1) 110 ((((zu I 109 (((I 108 5)).toNatClampNeg) x1) 108 5)).toNatClampNeg) x2) 111 ((((zu (zu I 109 (((I 108 5)).toNatClampNeg) x1) 110 ((((zu I 109 (((I 108 5)).toNatClampNeg) x1) 108 5)).toNatClampNeg) x2) 108 5)).toNatClampNeg) x3) 112 ((((zu (zu (zu I 109 (((I 108 5)).toNatClampNeg) x1) 110 ((((zu I 109 (((I 108 5)).toNatClampNeg) x1) 108 5)).toNatClampNeg) x2) 111 ((((zu (zu I 109 (((I 108 5)).toNatClampNeg) x1) 110 ((((zu I 109 (((I 108 5)).toNatClampNeg) x1) 108 5)).toNatClampNeg) x2) 108 5)).toNatClampNeg) x3) 108 5)).toNatClampNeg) x4) 108 5)).toNatClampNeg) x5) 108 5)) rfl ?_
      refine g_iconst cx dX4_add_76 ic_1 ?_
      refine g_iadd cx dX4_add_77 ?_
      refine g_pI cx lk_X4_27 rfl (Nat.le_of_ble_eq_true rfl) rfl dX4_add_78 fi_4_5 rfl rfl ?_
      refine g_aload_n cx dX4_add_81 rfl ?_
      refine g_getI cx lk_X4_27 rfl (Nat.le_of_ble_eq_true rfl) rfl dX4_add_82 (x := (((zu (zu (zu (zu (zu I 109 (((I 108 5)).toNatClampNeg) x1) 110 ((((zu I 109 (((I 108 5)).toNatClampNeg) x1) 108 5)).toNatClampNeg) x2) 111 ((((zu (zu I 109 (((I 108 5)).toNatClampNeg) x1) 110 ((((zu I 109 (((I 108 5)).toNatClampNeg) x1) 108 5)).toNatClampNeg) x2) 108 5)).toNatClampNeg) x3) 112 ((((zu (zu (zu I 109 (((I 108 5)).toNatClampNeg) x1) 110 ((((zu I 109 (((I 108 5)).toNatClampNeg) x1) 108 5)).toNatClampNeg) x2) 111 ((((zu (zu I 109 (((I 108 5)).toNatClampNeg) x1) 110 ((((zu I 109 (((I 108 5)).toNatClampNeg) x1) 108 5)).toNatClampNeg) x2) 108 5)).toNatClampNeg) x3) 108 5)).toNatClampNeg) x4) 113 ((((zu (zu (zu (zu I 109 (((I 108 5)).toNatClampNeg) x1) 110 ((((zu I 109 (((I 108 5)).toNatClampNeg) x1) 108 5)).toNatClampNeg) x2) 111 ((((zu (zu I 109 (((I 108 5)).toNatClampNeg) x1) 110 ((((zu I 109 (((I 108 5)).toNatClampNeg) x1) 108 5)).toNatClampNeg) x2) 108 5)).toNatClampNeg) x3) 112 ((((zu (zu (zu I 109 (((I 108 5)).toNatClampNeg) x1) 110 ((((zu I 109 (((I 108 5)).toNatClampNeg) x1) 108 5)).toNatClampNeg) x2) 111 ((((zu (zu I 109 (((I 108 5)).toNatClampNeg) x1) 110 ((((zu I 109 (((I 108 5)).toNatClampNeg) x1) 108 5)).toNatClampNeg) x2) 108 5)).toNatClampNeg) x3) 108 5)).toNatClampNeg) x4) 108 5)).toNatClampNeg) x5) 108 5) + 1)) rfl ?_
      refine g_iconst cx dX4_add_85 ic_1 ?_
      refine g_isub cx dX4_add_86 ?_
      exact g_wi cx hE dX4_add_87 rfl rfl hP h
    · have h := zifn c2 h
      refine g_bipush cx dX4_add_16 bp_m3 ?_
      exact g_wi cx hE dX4_add_18 rfl rfl hP h
def w_X5_operandFits (x1 : Nat) (x2 : Int32) (x3 : Int32) (I : zI) (P : zP) (K : Int32 → zI → zP → Prop) : Prop := if x2 = 3 then (SHy[x1]? = some (3, 11) ∧ (if (I x1 8) ≤ x3 then (K 0 I P) else (K 1 I P))) else (if x2 = 4 then (SHy[x1]? = some (3, 11) ∧ (if (I x1 8) ≤ x3 then (K 0 I P) else (K 1 I P))) else (if x2 = 5 then (SHy[x1]? = some (3, 11) ∧ (if (I x1 8) ≤ x3 then (K 0 I P) else (K 1 I P))) else (if x2 = 34 then (if 8 ≤ x3 then (K 0 I P) else (K 1 I P)) else (if x2 = 35 then (if 8 ≤ x3 then (K 0 I P) else (K 1 I P)) else (if x2 = 40 then (SHy[x1]? = some (3, 11) ∧ (if (I x1 0) < x3 then (K 0 I P) else (K 1 I P))) else (K 1 I P))))))
theorem e_X5_operandFits {x1 : Nat} {x2 : Int32} {x3 : Int32} {I : zI} {P : zP} {K : Int32 → zI → zP → Prop} (hP : PSt P) (h : w_X5_operandFits x1 x2 x3 I P K) : Ev yX5_operandFits cX5_operandFits 3 (some .boolean) 0 0 0 0 [.ref x1, .int x2, .int x3] SHy I P (zKi K) := by
  refine Ev.start [.ref x1, .int x2, .int x3] pn_X5 rfl (Nat.le_of_ble_eq_true rfl) rfl (fun κ cx hE => ?_)
  unfold w_X5_operandFits at h
  refine g_iload_n cx dX5_operandFits_0 rfl ?_
  by_cases c1 : x2 = 3
  · have h := zifp c1 h
    refine g_lookup cx (tgt := 60) (off := 59) dX5_operandFits_1 (by decide) (by rw [c1]; decide) rfl ?_
    refine g_iload_n cx dX5_operandFits_60 rfl ?_
    refine g_aload_n cx dX5_operandFits_61 rfl ?_
    obtain ⟨hs2, h⟩ := h
    refine g_getI cx lk_X5_44 hs2 (Nat.le_of_ble_eq_true rfl) rfl dX5_operandFits_62 (x := (I x1 8)) rfl ?_
    refine g_icmp_ge cx (tgt := 72) dX5_operandFits_65 rfl (fun c3 => ?_) (fun c3 => ?_)
    · have h := zifp c3 h
      refine g_iconst cx dX5_operandFits_72 ic_0 ?_
      exact g_wi cx hE dX5_operandFits_73 rfl rfl hP h
    · have h := zifn c3 h
      refine g_iconst cx dX5_operandFits_68 ic_1 ?_
      refine g_goto cx (tgt := 73) dX5_operandFits_69 rfl ?_
      exact g_wi cx hE dX5_operandFits_73 rfl rfl hP h
  · have h := zifn c1 h
    by_cases c4 : x2 = 4
    · have h := zifp c4 h
      refine g_lookup cx (tgt := 60) (off := 59) dX5_operandFits_1 (by decide) (by rw [c4]; decide) rfl ?_
      refine g_iload_n cx dX5_operandFits_60 rfl ?_
      refine g_aload_n cx dX5_operandFits_61 rfl ?_
      obtain ⟨hs5, h⟩ := h
      refine g_getI cx lk_X5_44 hs5 (Nat.le_of_ble_eq_true rfl) rfl dX5_operandFits_62 (x := (I x1 8)) rfl ?_
      refine g_icmp_ge cx (tgt := 72) dX5_operandFits_65 rfl (fun c6 => ?_) (fun c6 => ?_)
      · have h := zifp c6 h
        refine g_iconst cx dX5_operandFits_72 ic_0 ?_
        exact g_wi cx hE dX5_operandFits_73 rfl rfl hP h
      · have h := zifn c6 h
        refine g_iconst cx dX5_operandFits_68 ic_1 ?_
        refine g_goto cx (tgt := 73) dX5_operandFits_69 rfl ?_
        exact g_wi cx hE dX5_operandFits_73 rfl rfl hP h
    · have h := zifn c4 h
      by_cases c7 : x2 = 5
      · have h := zifp c7 h
        refine g_lookup cx (tgt := 60) (off := 59) dX5_operandFits_1 (by decide) (by rw [c7]; decide) rfl ?_
        refine g_iload_n cx dX5_operandFits_60 rfl ?_
        refine g_aload_n cx dX5_operandFits_61 rfl ?_
        obtain ⟨hs8, h⟩ := h
        refine g_getI cx lk_X5_44 hs8 (Nat.le_of_ble_eq_true rfl) rfl dX5_operandFits_62 (x := (I x1 8)) rfl ?_
        refine g_icmp_ge cx (tgt := 72) dX5_operandFits_65 rfl (fun c9 => ?_) (fun c9 => ?_)
        · have h := zifp c9 h
          refine g_iconst cx dX5_operandFits_72 ic_0 ?_
          exact g_wi cx hE dX5_operandFits_73 rfl rfl hP h
        · have h := zifn c9 h
          refine g_iconst cx dX5_operandFits_68 ic_1 ?_
          refine g_goto cx (tgt := 73) dX5_operandFits_69 rfl ?_
          exact g_wi cx hE dX5_operandFits_73 rfl rfl hP h
      · have h := zifn c7 h
        by_cases c10 : x2 = 34
        · have h := zifp c10 h
          refine g_lookup cx (tgt := 74) (off := 73) dX5_operandFits_1 (by decide) (by rw [c10]; decide) rfl ?_
          refine g_iload_n cx dX5_operandFits_74 rfl ?_
          refine g_bipush cx dX5_operandFits_75 bp_8 ?_
          refine g_icmp_ge cx (tgt := 84) dX5_operandFits_77 rfl (fun c11 => ?_) (fun c11 => ?_)
          · have h := zifp c11 h
            refine g_iconst cx dX5_operandFits_84 ic_0 ?_
            exact g_wi cx hE dX5_operandFits_85 rfl rfl hP h
          · have h := zifn c11 h
            refine g_iconst cx dX5_operandFits_80 ic_1 ?_
            refine g_goto cx (tgt := 85) dX5_operandFits_81 rfl ?_
            exact g_wi cx hE dX5_operandFits_85 rfl rfl hP h
        · have h := zifn c10 h
          by_cases c12 : x2 = 35
          · have h := zifp c12 h
            refine g_lookup cx (tgt := 74) (off := 73) dX5_operandFits_1 (by decide) (by rw [c12]; decide) rfl ?_
            refine g_iload_n cx dX5_operandFits_74 rfl ?_
            refine g_bipush cx dX5_operandFits_75 bp_8 ?_
            refine g_icmp_ge cx (tgt := 84) dX5_operandFits_77 rfl (fun c13 => ?_) (fun c13 => ?_)
            · have h := zifp c13 h
              refine g_iconst cx dX5_operandFits_84 ic_0 ?_
              exact g_wi cx hE dX5_operandFits_85 rfl rfl hP h
            · have h := zifn c13 h
              refine g_iconst cx dX5_operandFits_80 ic_1 ?_
              refine g_goto cx (tgt := 85) dX5_operandFits_81 rfl ?_
              exact g_wi cx hE dX5_operandFits_85 rfl rfl hP h
          · have h := zifn c12 h
            by_cases c14 : x2 = 40
            · have h := zifp c14 h
              refine g_lookup cx (tgt := 86) (off := 85) dX5_operandFits_1 (by decide) (by rw [c14]; decide) rfl ?_
              refine g_iload_n cx dX5_operandFits_86 rfl ?_
              refine g_aload_n cx dX5_operandFits_87 rfl ?_
              obtain ⟨hs15, h⟩ := h
              refine g_getI cx lk_X5_87 hs15 (Nat.le_of_ble_eq_true rfl) rfl dX5_operandFits_88 (x := (I x1 0)) rfl ?_
              refine g_icmp_gt cx (tgt := 98) dX5_operandFits_91 rfl (fun c16 => ?_) (fun c16 => ?_)
              · have h := zifp c16 h
                refine g_iconst cx dX5_operandFits_98 ic_0 ?_
                exact g_wi cx hE dX5_operandFits_99 rfl rfl hP h
              · have h := zifn c16 h
                refine g_iconst cx dX5_operandFits_94 ic_1 ?_
                refine g_goto cx (tgt := 99) dX5_operandFits_95 rfl ?_
                exact g_wi cx hE dX5_operandFits_99 rfl rfl hP h
            · have h := zifn c14 h
              refine g_lookup cx (tgt := 100) (off := 99) dX5_operandFits_1 (by decide) (by have q0 : (x2 : Int32).toInt ≠ 3 := i32ne c1; have q1 : (x2 : Int32).toInt ≠ 4 := i32ne c4; have q2 : (x2 : Int32).toInt ≠ 5 := i32ne c7; have q3 : (x2 : Int32).toInt ≠ 34 := i32ne c10; have q4 : (x2 : Int32).toInt ≠ 35 := i32ne c12; have q5 : (x2 : Int32).toInt ≠ 40 := i32ne c14; show Op.lookupswitch.offset [(3, 59), (4, 59), (5, 59), (34, 73), (35, 73), (40, 85)] 99 _ = _; (repeat (rw [Op.lookupswitch.offset_cons, if_neg (by omega)])); rfl) rfl ?_
              refine g_iconst cx dX5_operandFits_100 ic_1 ?_
              exact g_wi cx hE dX5_operandFits_101 rfl rfl hP h
