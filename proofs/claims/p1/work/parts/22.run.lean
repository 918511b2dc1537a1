def j_X2_perform_153 (K : zI → zP → Prop) (I : zI) (P : zP) : Prop := ∃ v1, P 114 6 = some v1 ∧ (SHy[v1]? = some (6, 13) ∧ (∃ v4, P v1 0 = some v4 ∧ (SHy[v4]? = some (11, (zlen v4)) ∧ ((0 : Int32).toNatClampNeg + (8 : Int32).toNatClampNeg ≤ (zlen v4) ∧ (K (zcpy I 116 ((0 : Int32).toNatClampNeg) v4 ((0 : Int32).toNatClampNeg) ((8 : Int32).toNatClampNeg)) P)))))
theorem gj_X2_perform_153 {κ : zX} (cx : Cx yX2_perform cX2_perform 9 none 6 138 κ) {K : zI → zP → Prop} (hE : zEnd (zKv K) 0 0 κ) {I : zI} {P : zP} (hP : PSt P) (h : j_X2_perform_153 K I P) : Gx κ 153 [.ref 114, .float 0, .float 0, .float 0, .float 0, .float 0, .float 0, .float 0, .float 0] [] SHy I P 0 0 := by
  unfold j_X2_perform_153 at h
  refine g_aload_n cx dX2_perform_153 rfl ?_
  refine g_getR cx lk_X2_17 rfl (Nat.le_of_ble_eq_true rfl) rfl dX2_perform_154 (v := 116) (pst hP 113 rfl) ?_
  refine g_iconst cx dX2_perform_157 ic_0 ?_
  refine g_aload_n cx dX2_perform_158 rfl ?_
  obtain ⟨v1, hv2, h⟩ := h
  refine g_getR cx lk_X2_67 rfl (Nat.le_of_ble_eq_true rfl) rfl dX2_perform_159 hv2 ?_
  obtain ⟨hs3, h⟩ := h
  obtain ⟨v4, hv5, h⟩ := h
  refine g_getR cx lk_X2_112 hs3 (Nat.le_of_ble_eq_true rfl) rfl dX2_perform_162 hv5 ?_
  refine g_iconst cx dX2_perform_165 ic_0 ?_
  refine g_bipush cx dX2_perform_166 bp_8 ?_
  obtain ⟨hs6, h⟩ := h
  obtain ⟨hc7, h⟩ := h
  refine g_copy cx cp_link dX2_perform_168 rfl hs6 (by decide) (by decide) (by decide) (by decide) hc7 rfl (Nat.le_of_ble_eq_true rfl) (Nat.le_of_ble_eq_true rfl) (by decide) ?_
  exact g_wv cx hE dX2_perform_171 rfl hP h
def l_X2_perform_107 (K : zI → zP → Prop) : Nat → Int32 → zI → zP → Prop
  | 0, _, _, _ => False
  | n + 1, y8, I, P => if 1000000 ≤ y8 then (j_X2_perform_153 K I P) else (∃ v2, P 114 6 = some v2 ∧ (SHy[v2]? = some (6, 13) ∧ (if (I v2 4) = (-1) then (if (I 114 9) ≤ 0 then (j_X2_perform_153 K I P) else (vp_in ((I 114 9) - 1) 12 ∧ (∃ v8, P 115 (((I 114 9) - 1)).toNatClampNeg = some v8 ∧ (w_X2_takeTurn v8 I P (fun (I10 : zI) (P10 : zP) => ((l_X2_perform_107 K n) (y8 + 1) I10 P10)))))) else (j_X2_perform_153 K I P))))
theorem gl_X2_perform_107 {κ : zX} (cx : Cx yX2_perform cX2_perform 9 none 6 138 κ) {K : zI → zP → Prop} (hE : zEnd (zKv K) 0 0 κ) : ∀ (n : Nat) (y8 : Int32) (I : zI) (P : zP), PSt P → l_X2_perform_107 K n y8 I P → Gx κ 107 [.ref 114, .float 0, .float 0, .float 0, .float 0, .float 0, .float 0, .float 0, .int y8] [] SHy I P 0 0 := by
  intro n
  induction n with
  | zero =>
    intro y8 I P hP h
    rw [l_X2_perform_107] at h
    exact False.elim h
  | succ n ih =>
    intro y8 I P hP h
    rw [l_X2_perform_107] at h
    refine g_iload cx dX2_perform_107 rfl ?_
    refine g_ldc cx dX2_perform_109 ldc_X2_105 ?_
    refine g_icmp_ge cx (tgt := 153) dX2_perform_111 rfl (fun c1 => ?_) (fun c1 => ?_)
    · have h := zifp c1 h
      refine (Gx.unset 8 (Gx.L [.ref 114, .float 0, .float 0, .float 0, .float 0, .float 0, .float 0, .float 0, .float 0] rfl ?_))
      exact gj_X2_perform_153 cx hE hP h
    · have h := zifn c1 h
      refine g_aload_n cx dX2_perform_114 rfl ?_
      obtain ⟨v2, hv3, h⟩ := h
      refine g_getR cx lk_X2_67 rfl (Nat.le_of_ble_eq_true rfl) rfl dX2_perform_115 hv3 ?_
      obtain ⟨hs4, h⟩ := h
      refine g_getI cx lk_X2_106 hs4 (Nat.le_of_ble_eq_true rfl) rfl dX2_perform_118 (x := (I v2 4)) rfl ?_
      refine g_iconst cx dX2_perform_121 ic_m1 ?_
      refine g_icmp_ne cx (tgt := 153) dX2_perform_122 rfl (fun c5 => ?_) (fun c5 => ?_)
      · have h := zifn c5 h
        refine (Gx.unset 8 (Gx.L [.ref 114, .float 0, .float 0, .float 0, .float 0, .float 0, .float 0, .float 0, .float 0] rfl ?_))
        exact gj_X2_perform_153 cx hE hP h
      · have h := zifp c5 h
        refine g_aload_n cx dX2_perform_125 rfl ?_
        refine g_getI cx lk_X2_34 rfl (Nat.le_of_ble_eq_true rfl) rfl dX2_perform_126 (x := (I 114 9)) rfl ?_
        refine g_if_le cx (tgt := 153) dX2_perform_129 rfl (fun c6 => ?_) (fun c6 => ?_)
        · have h := zifp c6 h
          refine (Gx.unset 8 (Gx.L [.ref 114, .float 0, .float 0, .float 0, .float 0, .float 0, .float 0, .float 0, .float 0] rfl ?_))
          exact gj_X2_perform_153 cx hE hP h
        · have h := zifn c6 h
          refine g_aload_n cx dX2_perform_132 rfl ?_
          refine g_aload_n cx dX2_perform_133 rfl ?_
          refine g_getR cx lk_X2_11 rfl (Nat.le_of_ble_eq_true rfl) rfl dX2_perform_134 (v := 115) (pst hP 112 rfl) ?_
          refine g_aload_n cx dX2_perform_137 rfl ?_
          refine g_getI cx lk_X2_34 rfl (Nat.le_of_ble_eq_true rfl) rfl dX2_perform_138 (x := (I 114 9)) rfl ?_
          refine g_iconst cx dX2_perform_141 ic_1 ?_
          refine g_isub cx dX2_perform_142 ?_
          obtain ⟨hc7, h⟩ := h
          obtain ⟨v8, hv9, h⟩ := h
          refine g_aald cx rfl (Nat.le_of_ble_eq_true rfl) (Nat.le_of_ble_eq_true rfl) hc7 hv9 dX2_perform_143 ?_
          refine g_wVv cx [.ref v8] [] (e_X2_takeTurn hP h) mt_X2_takeTurn ml_X2_109 rfl rfl rfl dX2_perform_144 rfl rfl (Nat.le_of_ble_eq_true rfl) (Nat.le_of_ble_eq_true rfl) (Nat.le_of_ble_eq_true rfl) (fun I10 P10 hP h => ?_)
          refine g_iinc cx (v := (y8 + 1)) dX2_perform_147 rfl rfl (Nat.le_of_ble_eq_true rfl) (Gx.L [.ref 114, .float 0, .float 0, .float 0, .float 0, .float 0, .float 0, .float 0, .int (y8 + 1)] rfl ?_)
          refine g_goto cx (tgt := 107) dX2_perform_150 rfl ?_
          exact ih _ _ _ hP h
def j_X2_perform_95 (K : zI → zP → Prop) (y7 : Nat) (s0 : Int32) (s1 : Int32) (s2 : Nat) (I : zI) (P : zP) : Prop := SHy[s2]? = some (0, 6) ∧ (w_X0_setLocal s2 s1 s0 I P (fun (I2 : zI) (P2 : zP) => (w_X2_noteEnter y7 I2 P2 (fun (I3 : zI) (P3 : zP) => (∃ n9, l_X2_perform_107 K n9 0 I3 P3)))))
theorem gj_X2_perform_95 {κ : zX} (cx : Cx yX2_perform cX2_perform 9 none 6 138 κ) {K : zI → zP → Prop} (hE : zEnd (zKv K) 0 0 κ) {y7 : Nat} {s0 : Int32} {s1 : Int32} {s2 : Nat} {I : zI} {P : zP} (hP : PSt P) (h : j_X2_perform_95 K y7 s0 s1 s2 I P) : Gx κ 95 [.ref 114, .float 0, .float 0, .float 0, .float 0, .float 0, .float 0, .ref y7, .float 0] [.int s0, .int s1, .ref s2] SHy I P 0 0 := by
  unfold j_X2_perform_95 at h
  obtain ⟨hs1, h⟩ := h
  refine g_wVv cx [.int s1, .int s0] [] (e_X0_setLocal hP h) mt_X0_setLocal ml_X2_97 hs1 rfl rfl dX2_perform_95 rfl rfl (Nat.le_of_ble_eq_true rfl) (Nat.le_of_ble_eq_true rfl) (Nat.le_of_ble_eq_true rfl) (fun I2 P2 hP h => ?_)
  refine g_aload_n cx dX2_perform_98 rfl ?_
  refine g_aload cx dX2_perform_99 rfl ?_
  refine g_wVv cx [.ref y7] [] (e_X2_noteEnter hP h) mt_X2_noteEnter ml_X2_101 rfl rfl rfl dX2_perform_101 rfl rfl (Nat.le_of_ble_eq_true rfl) (Nat.le_of_ble_eq_true rfl) (Nat.le_of_ble_eq_true rfl) (fun I3 P3 hP h => ?_)
  refine g_iconst cx dX2_perform_104 ic_0 ?_
  refine g_istore cx dX2_perform_105 (Nat.le_of_ble_eq_true rfl) (Gx.L [.ref 114, .float 0, .float 0, .float 0, .float 0, .float 0, .float 0, .ref y7, .int 0] rfl ?_)
  refine (Gx.unset 7 (Gx.L [.ref 114, .float 0, .float 0, .float 0, .float 0, .float 0, .float 0, .float 0, .int 0] rfl ?_))
  obtain ⟨n9, h⟩ := h
  exact gl_X2_perform_107 cx hE n9 _ _ _ hP h
def j_X2_perform_75 (K : zI → zP → Prop) (y3 : Nat) (y5 : Int32) (y7 : Nat) (s0 : Int32) (s1 : Int32) (s2 : Nat) (I : zI) (P : zP) : Prop := SHy[s2]? = some (0, 6) ∧ (w_X0_setLocal s2 s1 s0 I P (fun (I2 : zI) (P2 : zP) => (SHy[y3]? = some (3, 11) ∧ (if (I2 y3 7) ≤ 1 then (j_X2_perform_95 K y7 0 1 y7 I2 P2) else (j_X2_perform_95 K y7 y5 1 y7 I2 P2)))))
theorem gj_X2_perform_75 {κ : zX} (cx : Cx yX2_perform cX2_perform 9 none 6 138 κ) {K : zI → zP → Prop} (hE : zEnd (zKv K) 0 0 κ) {y3 : Nat} {y5 : Int32} {y7 : Nat} {s0 : Int32} {s1 : Int32} {s2 : Nat} {I : zI} {P : zP} (hP : PSt P) (h : j_X2_perform_75 K y3 y5 y7 s0 s1 s2 I P) : Gx κ 75 [.ref 114, .float 0, .float 0, .ref y3, .float 0, .int y5, .float 0, .ref y7, .float 0] [.int s0, .int s1, .ref s2] SHy I P 0 0 := by
  unfold j_X2_perform_75 at h
  obtain ⟨hs1, h⟩ := h
  refine g_wVv cx [.int s1, .int s0] [] (e_X0_setLocal hP h) mt_X0_setLocal ml_X2_97 hs1 rfl rfl dX2_perform_75 rfl rfl (Nat.le_of_ble_eq_true rfl) (Nat.le_of_ble_eq_true rfl) (Nat.le_of_ble_eq_true rfl) (fun I2 P2 hP h => ?_)
  refine g_aload cx dX2_perform_78 rfl ?_
  refine g_iconst cx dX2_perform_80 ic_1 ?_
  refine g_aload_n cx dX2_perform_81 rfl ?_
  obtain ⟨hs3, h⟩ := h
  refine g_getI cx lk_X2_92 hs3 (Nat.le_of_ble_eq_true rfl) rfl dX2_perform_82 (x := (I2 y3 7)) rfl ?_
  refine g_iconst cx dX2_perform_85 ic_1 ?_
  refine g_icmp_le cx (tgt := 94) dX2_perform_86 rfl (fun c4 => ?_) (fun c4 => ?_)
  · have h := zifp c4 h
    refine g_iconst cx dX2_perform_94 ic_0 ?_
    refine (Gx.unset 3 (Gx.unset 5 (Gx.L [.ref 114, .float 0, .float 0, .float 0, .float 0, .float 0, .float 0, .ref y7, .float 0] rfl ?_)))
    exact gj_X2_perform_95 cx hE hP h
  · have h := zifn c4 h
    refine g_iload cx dX2_perform_89 rfl ?_
    refine g_goto cx (tgt := 95) dX2_perform_91 rfl ?_
    refine (Gx.unset 3 (Gx.unset 5 (Gx.L [.ref 114, .float 0, .float 0, .float 0, .float 0, .float 0, .float 0, .ref y7, .float 0] rfl ?_)))
    exact gj_X2_perform_95 cx hE hP h
def w_X2_perform (x1 : Nat) (x2 : Int32) (x3 : Nat) (x4 : Int32) (x5 : Int32) (x6 : Int32) (I : zI) (P : zP) (K : zI → zP → Prop) : Prop := ∃ v1, (zu P 114 6 (some x1)) 114 6 = some v1 ∧ (SHy[v1]? = some (6, 13) ∧ (w_X6_startAnew v1 I (zu P 114 6 (some x1)) (fun (I4 : zI) (P4 : zP) => (w_J7_fill_fda19 116 0 8 0 (zu (zu (zu (zu I4 114 7 x2) 114 8 x6) 114 9 0) 114 10 0) P4 (fun (I5 : zI) (P5 : zP) => (w_J7_fill_53178 118 0 I5 P5 (fun (I6 : zI) (P6 : zP) => (w_X2_openFrame x3 I6 P6 (fun (v7 : Nat) (I7 : zI) (P7 : zP) => (SHy[x3]? = some (3, 11) ∧ (if (I7 x3 7) ≤ 0 then (j_X2_perform_75 K x3 x5 v7 0 0 v7 I7 P7) else (j_X2_perform_75 K x3 x5 v7 x4 0 v7 I7 P7))))))))))))
theorem e_X2_perform {x1 : Nat} {x2 : Int32} {x3 : Nat} {x4 : Int32} {x5 : Int32} {x6 : Int32} {I : zI} {P : zP} {K : zI → zP → Prop} (hP : PSt P) (h : w_X2_perform x1 x2 x3 x4 x5 x6 I P K) : Ev yX2_perform cX2_perform 9 none 6 138 0 0 [.ref 114, .ref x1, .int x2, .ref x3, .int x4, .int x5, .int x6] SHy I P (zKv K) := by
  refine Ev.start [.ref 114, .ref x1, .int x2, .ref x3, .int x4, .int x5, .int x6, .float 0, .float 0] pn_X2 rfl (Nat.le_of_ble_eq_true rfl) rfl (fun κ cx hE => ?_)
  unfold w_X2_perform at h
  refine g_aload_n cx dX2_perform_0 rfl ?_
  refine g_aload_n cx dX2_perform_1 rfl ?_
  refine g_pR cx lk_X2_67 rfl (Nat.le_of_ble_eq_true rfl) rfl dX2_perform_2 fi_2_6 (fun _ => rfl) (fun _ => rfl) ?_
  have hP := pst_put (v := some x1) (k := 6) hP (show SHy[114]? = some (2, 17) from rfl) (by decide +kernel)
  refine g_aload_n cx dX2_perform_5 rfl ?_
  obtain ⟨v1, hv2, h⟩ := h
  refine g_getR cx lk_X2_67 rfl (Nat.le_of_ble_eq_true rfl) rfl dX2_perform_6 hv2 ?_
  obtain ⟨hs3, h⟩ := h
  refine g_wVv cx [] [] (e_X6_startAnew hP h) mt_X6_startAnew ml_X2_74 hs3 rfl rfl dX2_perform_9 rfl rfl (Nat.le_of_ble_eq_true rfl) (Nat.le_of_ble_eq_true rfl) (Nat.le_of_ble_eq_true rfl) (fun I4 P4 hP h => ?_)
  refine g_aload_n cx dX2_perform_12 rfl ?_
  refine g_iload_n cx dX2_perform_13 rfl ?_
  refine g_pI cx lk_X2_27 rfl (Nat.le_of_ble_eq_true rfl) rfl dX2_perform_14 fi_2_7 rfl rfl ?_
  refine g_aload_n cx dX2_perform_17 rfl ?_
  refine g_iload cx dX2_perform_18 rfl ?_
  refine g_pI cx lk_X2_31 rfl (Nat.le_of_ble_eq_true rfl) rfl dX2_perform_20 fi_2_8 rfl rfl ?_
  refine g_aload_n cx dX2_perform_23 rfl ?_
  refine g_iconst cx dX2_perform_24 ic_0 ?_
  refine g_pI cx lk_X2_34 rfl (Nat.le_of_ble_eq_true rfl) rfl dX2_perform_25 fi_2_9 rfl rfl ?_
  refine g_aload_n cx dX2_perform_28 rfl ?_
  refine g_iconst cx dX2_perform_29 ic_0 ?_
  refine g_pI cx lk_X2_37 rfl (Nat.le_of_ble_eq_true rfl) rfl dX2_perform_30 fi_2_10 rfl rfl ?_
  refine g_aload_n cx dX2_perform_33 rfl ?_
  refine g_getR cx lk_X2_17 rfl (Nat.le_of_ble_eq_true rfl) rfl dX2_perform_34 (v := 116) (pst hP 113 rfl) ?_
  refine g_iconst cx dX2_perform_37 ic_0 ?_
  refine g_bipush cx dX2_perform_38 bp_8 ?_
  refine g_iconst cx dX2_perform_40 ic_0 ?_
  refine g_wSv cx [.ref 116, .int 0, .int 8, .int 0] [] (e_J7_fill_fda19 hP h) mt_J7_fill_fda19 ml_X2_79 dX2_perform_41 rfl rfl (Nat.le_of_ble_eq_true rfl) (Nat.le_of_ble_eq_true rfl) (Nat.le_of_ble_eq_true rfl) (fun I5 P5 hP h => ?_)
  refine Gx.N 44 rfl ?_
  refine g_aload_n cx dX2_perform_44 rfl ?_
  refine g_getR cx lk_X2_24 rfl (Nat.le_of_ble_eq_true rfl) rfl dX2_perform_45 (v := 118) (pst hP 115 rfl) ?_
  refine g_iconst cx dX2_perform_48 ic_0 ?_
  refine g_wSv cx [.ref 118, .int 0] [] (e_J7_fill_53178 hP h) mt_J7_fill_53178 ml_X2_85 dX2_perform_49 rfl rfl (Nat.le_of_ble_eq_true rfl) (Nat.le_of_ble_eq_true rfl) (Nat.le_of_ble_eq_true rfl) (fun I6 P6 hP h => ?_)
  refine g_aload_n cx dX2_perform_52 rfl ?_
  refine g_aload_n cx dX2_perform_53 rfl ?_
  refine g_wVr cx [.ref x3] [] (e_X2_openFrame hP h) mt_X2_openFrame ml_X2_88 rfl rfl rfl dX2_perform_54 rfl rfl (Nat.le_of_ble_eq_true rfl) (Nat.le_of_ble_eq_true rfl) (Nat.le_of_ble_eq_true rfl) (fun v7 I7 P7 hP h => ?_)
  refine g_astore cx dX2_perform_57 (Nat.le_of_ble_eq_true rfl) (Gx.L [.ref 114, .ref x1, .int x2, .ref x3, .int x4, .int x5, .int x6, .ref v7, .float 0] rfl ?_)
  refine g_aload cx dX2_perform_59 rfl ?_
  refine g_iconst cx dX2_perform_61 ic_0 ?_
  refine g_aload_n cx dX2_perform_62 rfl ?_
  obtain ⟨hs8, h⟩ := h
  refine g_getI cx lk_X2_92 hs8 (Nat.le_of_ble_eq_true rfl) rfl dX2_perform_63 (x := (I7 x3 7)) rfl ?_
  refine g_if_le cx (tgt := 74) dX2_perform_66 rfl (fun c9 => ?_) (fun c9 => ?_)
  · have h := zifp c9 h
    refine g_iconst cx dX2_perform_74 ic_0 ?_
    refine (Gx.unset 1 (Gx.unset 2 (Gx.unset 4 (Gx.unset 6 (Gx.L [.ref 114, .float 0, .float 0, .ref x3, .float 0, .int x5, .float 0, .ref v7, .float 0] rfl ?_)))))
    exact gj_X2_perform_75 cx hE hP h
  · have h := zifn c9 h
    refine g_iload cx dX2_perform_69 rfl ?_
    refine g_goto cx (tgt := 75) dX2_perform_71 rfl ?_
    refine (Gx.unset 1 (Gx.unset 2 (Gx.unset 4 (Gx.unset 6 (Gx.L [.ref 114, .float 0, .float 0, .ref x3, .float 0, .int x5, .float 0, .ref v7, .float 0] rfl ?_)))))
    exact gj_X2_perform_75 cx hE hP h
def w_X9_run (x1 : Int32) (x2 : Int32) (x3 : Int32) (x4 : Int32) (x5 : Int32) (I : zI) (P : zP) (K : Int32 → zI → zP → Prop) : Prop := w_X9_isManner x1 I P (fun (v1 : Int32) (I1 : zI) (P1 : zP) => (if v1 = 0 then (K (-2) I1 P1) else (w_X9_isMethod x2 I1 P1 (fun (v3 : Int32) (I3 : zI) (P3 : zP) => (if v3 = 0 then (K (-2) I3 P3) else (if x5 < 1 then (K (-2) I3 P3) else (if x5 ≤ 3000 then (vp_in x1 3 ∧ (∃ v8, P3 92 (x1).toNatClampNeg = some v8 ∧ (vp_in x2 6 ∧ (∃ v11, P3 19 (x2).toNatClampNeg = some v11 ∧ (w_X2_perform v8 x1 v11 x3 x4 x5 (zu I3 0 11 ((I3 0 11) + 1)) P3 (fun (I13 : zI) (P13 : zP) => (SHy[v8]? = some (6, 13) ∧ (K (I13 v8 4) I13 P13)))))))) else (K (-2) I3 P3))))))))
theorem e_X9_run {x1 : Int32} {x2 : Int32} {x3 : Int32} {x4 : Int32} {x5 : Int32} {I : zI} {P : zP} {K : Int32 → zI → zP → Prop} (hP : PSt P) (h : w_X9_run x1 x2 x3 x4 x5 I P K) : Ev yX9_run cX9_run 7 (some .int) 7 166 0 0 [.ref 0, .int x1, .int x2, .int x3, .int x4, .int x5] SHy I P (zKi K) := by
  refine Ev.start [.ref 0, .int x1, .int x2, .int x3, .int x4, .int x5, .float 0] pn_X9 rfl (Nat.le_of_ble_eq_true rfl) rfl (fun κ cx hE => ?_)
  unfold w_X9_run at h
  refine g_iload_n cx dX9_run_0 rfl ?_
  refine g_wSi cx [.int x1] [] (e_X9_isManner hP h) mt_X9_isManner ml_X9_158 dX9_run_1 rfl rfl (Nat.le_of_ble_eq_true rfl) (Nat.le_of_ble_eq_true rfl) (Nat.le_of_ble_eq_true rfl) (fun v1 I1 P1 hP h => ?_)
  refine g_if_eq cx (tgt := 29) dX9_run_4 rfl (fun c2 => ?_) (fun c2 => ?_)
  · have h := zifp c2 h
    refine g_bipush cx dX9_run_29 bp_m2 ?_
    exact g_wi cx hE dX9_run_31 rfl rfl hP h
  · have h := zifn c2 h
    refine g_aload_n cx dX9_run_7 rfl ?_
    refine g_iload_n cx dX9_run_8 rfl ?_
    refine g_wVi cx [.int x2] [] (e_X9_isMethod hP h) mt_X9_isMethod ml_X9_86 rfl rfl rfl dX9_run_9 rfl rfl (Nat.le_of_ble_eq_true rfl) (Nat.le_of_ble_eq_true rfl) (Nat.le_of_ble_eq_true rfl) (fun v3 I3 P3 hP h => ?_)
    refine g_if_eq cx (tgt := 29) dX9_run_12 rfl (fun c4 => ?_) (fun c4 => ?_)
    · have h := zifp c4 h
      refine g_bipush cx dX9_run_29 bp_m2 ?_
      exact g_wi cx hE dX9_run_31 rfl rfl hP h
    · have h := zifn c4 h
      refine g_iload cx dX9_run_15 rfl ?_
      refine g_iconst cx dX9_run_17 ic_1 ?_
      refine g_icmp_lt cx (tgt := 29) dX9_run_18 rfl (fun c5 => ?_) (fun c5 => ?_)
      · have h := zifp c5 h
        refine g_bipush cx dX9_run_29 bp_m2 ?_
        exact g_wi cx hE dX9_run_31 rfl rfl hP h
      · have h := zifn c5 h
        refine g_iload cx dX9_run_21 rfl ?_
        refine g_sipush cx dX9_run_23 sp_3000 ?_
        refine g_icmp_le cx (tgt := 32) dX9_run_26 rfl (fun c6 => ?_) (fun c6 => ?_)
        · have h := zifp c6 h
          refine g_aload_n cx dX9_run_32 rfl ?_
          refine g_dup cx dX9_run_33 rfl ?_
          refine g_getI cx lk_X9_44 rfl (Nat.le_of_ble_eq_true rfl) rfl dX9_run_34 (x := (I3 0 11)) rfl ?_
          refine g_iconst cx dX9_run_37 ic_1 ?_
          refine g_iadd cx dX9_run_38 ?_
          refine g_pI cx lk_X9_44 rfl (Nat.le_of_ble_eq_true rfl) rfl dX9_run_39 fi_9_11 rfl rfl ?_
          refine g_aload_n cx dX9_run_42 rfl ?_
          refine g_getR cx lk_X9_62 rfl (Nat.le_of_ble_eq_true rfl) rfl dX9_run_43 (v := 92) (pst hP 110 rfl) ?_
          refine g_iload_n cx dX9_run_46 rfl ?_
          obtain ⟨hc7, h⟩ := h
          obtain ⟨v8, hv9, h⟩ := h
          refine g_aald cx rfl (Nat.le_of_ble_eq_true rfl) (Nat.le_of_ble_eq_true rfl) hc7 hv9 dX9_run_47 ?_
          refine g_astore cx dX9_run_48 (Nat.le_of_ble_eq_true rfl) (Gx.L [.ref 0, .int x1, .int x2, .int x3, .int x4, .int x5, .ref v8] rfl ?_)
          refine g_aload_n cx dX9_run_50 rfl ?_
          refine g_getR cx lk_X9_75 rfl (Nat.le_of_ble_eq_true rfl) rfl dX9_run_51 (v := 114) (pst hP 154 rfl) ?_
          refine g_aload cx dX9_run_54 rfl ?_
          refine g_iload_n cx dX9_run_56 rfl ?_
          refine g_aload_n cx dX9_run_57 rfl ?_
          refine g_getR cx lk_X9_58 rfl (Nat.le_of_ble_eq_true rfl) rfl dX9_run_58 (v := 19) (pst hP 109 rfl) ?_
          refine g_iload_n cx dX9_run_61 rfl ?_
          obtain ⟨hc10, h⟩ := h
          obtain ⟨v11, hv12, h⟩ := h
          refine g_aald cx rfl (Nat.le_of_ble_eq_true rfl) (Nat.le_of_ble_eq_true rfl) hc10 hv12 dX9_run_62 ?_
          refine g_iload_n cx dX9_run_63 rfl ?_
          refine g_iload cx dX9_run_64 rfl ?_
          refine g_iload cx dX9_run_66 rfl ?_
          refine g_wVv cx [.ref v8, .int x1, .ref v11, .int x3, .int x4, .int x5] [] (e_X2_perform hP h) mt_X2_perform ml_X9_161 rfl rfl rfl dX9_run_68 rfl rfl (Nat.le_of_ble_eq_true rfl) (Nat.le_of_ble_eq_true rfl) (Nat.le_of_ble_eq_true rfl) (fun I13 P13 hP h => ?_)
          refine g_aload cx dX9_run_71 rfl ?_
          refine Gx.N 73 rfl ?_
          obtain ⟨hs14, h⟩ := h
          refine g_getI cx lk_X9_165 hs14 (Nat.le_of_ble_eq_true rfl) rfl dX9_run_73 (x := (I13 v8 4)) rfl ?_
          exact g_wi cx hE dX9_run_76 rfl rfl hP h
        · have h := zifn c6 h
          refine g_bipush cx dX9_run_29 bp_m2 ?_
          exact g_wi cx hE dX9_run_31 rfl rfl hP h
