def j_X10_old_79 (K : zI → zP → Prop) (y1 : Int32) (s0 : Int32) (I : zI) (P : zP) : Prop := if s0 = 0 then (vp_in y1 24 ∧ (K (zu I 205 ((y1).toNatClampNeg) 0) P)) else (w_X10_stored y1 I P (fun (v3 : Int32) (I3 : zI) (P3 : zP) => (vp_in y1 24 ∧ (K (zu I3 205 ((y1).toNatClampNeg) v3) P3))))
theorem gj_X10_old_79 {κ : zX} (cx : Cx yX10_old cX10_old 5 none 1 22 κ) {K : zI → zP → Prop} (hE : zEnd (zKv K) 0 0 κ) {y1 : Int32} {s0 : Int32} {I : zI} {P : zP} (hP : PSt P) (h : j_X10_old_79 K y1 s0 I P) : Gx κ 79 [.ref 155, .int y1, .float 0, .float 0, .float 0] [.int s0] SHy I P 0 0 := by
  unfold j_X10_old_79 at h
  refine g_istore cx dX10_old_79 (Nat.le_of_ble_eq_true rfl) (Gx.L [.ref 155, .int y1, .float 0, .float 0, .int s0] rfl ?_)
  refine g_aload_n cx dX10_old_81 rfl ?_
  refine g_getR cx lk_X10_162 rfl (Nat.le_of_ble_eq_true rfl) rfl dX10_old_82 (v := 205) (pst hP 204 rfl) ?_
  refine g_iload_n cx dX10_old_85 rfl ?_
  refine g_iload cx dX10_old_86 rfl ?_
  refine g_if_eq cx (tgt := 99) dX10_old_88 rfl (fun c1 => ?_) (fun c1 => ?_)
  · have h := zifp c1 h
    refine g_iconst cx dX10_old_99 ic_0 ?_
    obtain ⟨hc2, h⟩ := h
    refine g_iast cx dX10_old_100 rfl hc2 ?_
    exact g_wv cx hE dX10_old_101 rfl hP h
  · have h := zifn c1 h
    refine g_aload_n cx dX10_old_91 rfl ?_
    refine g_iload_n cx dX10_old_92 rfl ?_
    refine g_wVi cx [.int y1] [.int y1, .ref 205] (e_X10_stored hP h) mt_X10_stored ml_X10_480 rfl rfl rfl dX10_old_93 rfl rfl (Nat.le_of_ble_eq_true rfl) (Nat.le_of_ble_eq_true rfl) (Nat.le_of_ble_eq_true rfl) (fun v3 I3 P3 hP h => ?_)
    refine g_goto cx (tgt := 100) dX10_old_96 rfl ?_
    obtain ⟨hc4, h⟩ := h
    refine g_iast cx dX10_old_100 rfl hc4 ?_
    exact g_wv cx hE dX10_old_101 rfl hP h
def j_X10_old_41 (K : zI → zP → Prop) (y1 : Int32) (y2 : Int32) (s0 : Int32) (s1 : Int32) (I : zI) (P : zP) : Prop := vp_in s1 24 ∧ (if y2 = 35 then (j_X10_old_79 K y1 1 (zu I 207 ((s1).toNatClampNeg) s0) P) else (vp_in y1 24 ∧ (vp_in y1 24 ∧ (vp_in ((zu I 207 ((s1).toNatClampNeg) s0) 206 ((y1).toNatClampNeg)) 31 ∧ (w_X10_in ((zu I 207 ((s1).toNatClampNeg) s0) 207 ((y1).toNatClampNeg)) 0 (((zu I 207 ((s1).toNatClampNeg) s0) 201 ((((zu I 207 ((s1).toNatClampNeg) s0) 206 ((y1).toNatClampNeg))).toNatClampNeg)) - 1) (zu I 207 ((s1).toNatClampNeg) s0) P (fun (v6 : Int32) (I6 : zI) (P6 : zP) => (if v6 = 0 then (j_X10_old_79 K y1 0 I6 P6) else (j_X10_old_79 K y1 1 I6 P6))))))))
theorem gj_X10_old_41 {κ : zX} (cx : Cx yX10_old cX10_old 5 none 1 22 κ) {K : zI → zP → Prop} (hE : zEnd (zKv K) 0 0 κ) {y1 : Int32} {y2 : Int32} {s0 : Int32} {s1 : Int32} {I : zI} {P : zP} (hP : PSt P) (h : j_X10_old_41 K y1 y2 s0 s1 I P) : Gx κ 41 [.ref 155, .int y1, .int y2, .float 0, .float 0] [.int s0, .int s1, .ref 207] SHy I P 0 0 := by
  unfold j_X10_old_41 at h
  obtain ⟨hc1, h⟩ := h
  refine g_iast cx dX10_old_41 rfl hc1 ?_
  refine g_iload_n cx dX10_old_42 rfl ?_
  refine g_bipush cx dX10_old_43 bp_35 ?_
  refine g_icmp_eq cx (tgt := 74) dX10_old_45 rfl (fun c2 => ?_) (fun c2 => ?_)
  · have h := zifp c2 h
    refine g_iconst cx dX10_old_74 ic_1 ?_
    refine g_goto cx (tgt := 79) dX10_old_75 rfl ?_
    refine (Gx.unset 2 (Gx.L [.ref 155, .int y1, .float 0, .float 0, .float 0] rfl ?_))
    exact gj_X10_old_79 cx hE hP h
  · have h := zifn c2 h
    refine g_aload_n cx dX10_old_48 rfl ?_
    refine g_getR cx lk_X10_168 rfl (Nat.le_of_ble_eq_true rfl) rfl dX10_old_49 (v := 207) (pst hP 206 rfl) ?_
    refine g_iload_n cx dX10_old_52 rfl ?_
    obtain ⟨hc3, h⟩ := h
    refine g_iald cx dX10_old_53 rfl hc3 (x := ((zu I 207 ((s1).toNatClampNeg) s0) 207 ((y1).toNatClampNeg))) rfl ?_
    refine g_iconst cx dX10_old_54 ic_0 ?_
    refine g_aload_n cx dX10_old_55 rfl ?_
    refine g_getR cx lk_X10_150 rfl (Nat.le_of_ble_eq_true rfl) rfl dX10_old_56 (v := 201) (pst hP 200 rfl) ?_
    refine g_aload_n cx dX10_old_59 rfl ?_
    refine g_getR cx lk_X10_165 rfl (Nat.le_of_ble_eq_true rfl) rfl dX10_old_60 (v := 206) (pst hP 205 rfl) ?_
    refine g_iload_n cx dX10_old_63 rfl ?_
    obtain ⟨hc4, h⟩ := h
    refine g_iald cx dX10_old_64 rfl hc4 (x := ((zu I 207 ((s1).toNatClampNeg) s0) 206 ((y1).toNatClampNeg))) rfl ?_
    obtain ⟨hc5, h⟩ := h
    refine g_iald cx dX10_old_65 rfl hc5 (x := ((zu I 207 ((s1).toNatClampNeg) s0) 201 ((((zu I 207 ((s1).toNatClampNeg) s0) 206 ((y1).toNatClampNeg))).toNatClampNeg))) rfl ?_
    refine g_iconst cx dX10_old_66 ic_1 ?_
    refine g_isub cx dX10_old_67 ?_
    refine g_wSi cx [.int ((zu I 207 ((s1).toNatClampNeg) s0) 207 ((y1).toNatClampNeg)), .int 0, .int (((zu I 207 ((s1).toNatClampNeg) s0) 201 ((((zu I 207 ((s1).toNatClampNeg) s0) 206 ((y1).toNatClampNeg))).toNatClampNeg)) - 1)] [] (e_X10_in hP h) mt_X10_in ml_X10_217 dX10_old_68 rfl rfl (Nat.le_of_ble_eq_true rfl) (Nat.le_of_ble_eq_true rfl) (Nat.le_of_ble_eq_true rfl) (fun v6 I6 P6 hP h => ?_)
    refine g_if_eq cx (tgt := 78) dX10_old_71 rfl (fun c7 => ?_) (fun c7 => ?_)
    · have h := zifp c7 h
      refine g_iconst cx dX10_old_78 ic_0 ?_
      refine (Gx.unset 2 (Gx.L [.ref 155, .int y1, .float 0, .float 0, .float 0] rfl ?_))
      exact gj_X10_old_79 cx hE hP h
    · have h := zifn c7 h
      refine g_iconst cx dX10_old_74 ic_1 ?_
      refine g_goto cx (tgt := 79) dX10_old_75 rfl ?_
      refine (Gx.unset 2 (Gx.L [.ref 155, .int y1, .float 0, .float 0, .float 0] rfl ?_))
      exact gj_X10_old_79 cx hE hP h
def j_X10_old_20 (K : zI → zP → Prop) (y1 : Int32) (y2 : Int32) (y3 : Int32) (s0 : Int32) (s1 : Int32) (I : zI) (P : zP) : Prop := vp_in s1 24 ∧ (if y2 = 35 then (j_X10_old_41 K y1 y2 y3 y1 (zu I 206 ((s1).toNatClampNeg) s0) P) else (w_X10_top 1 (zu I 206 ((s1).toNatClampNeg) s0) P (fun (v3 : Int32) (I3 : zI) (P3 : zP) => (j_X10_old_41 K y1 y2 v3 y1 I3 P3))))
theorem gj_X10_old_20 {κ : zX} (cx : Cx yX10_old cX10_old 5 none 1 22 κ) {K : zI → zP → Prop} (hE : zEnd (zKv K) 0 0 κ) {y1 : Int32} {y2 : Int32} {y3 : Int32} {s0 : Int32} {s1 : Int32} {I : zI} {P : zP} (hP : PSt P) (h : j_X10_old_20 K y1 y2 y3 s0 s1 I P) : Gx κ 20 [.ref 155, .int y1, .int y2, .int y3, .float 0] [.int s0, .int s1, .ref 206] SHy I P 0 0 := by
  unfold j_X10_old_20 at h
  obtain ⟨hc1, h⟩ := h
  refine g_iast cx dX10_old_20 rfl hc1 ?_
  refine g_aload_n cx dX10_old_21 rfl ?_
  refine g_getR cx lk_X10_168 rfl (Nat.le_of_ble_eq_true rfl) rfl dX10_old_22 (v := 207) (pst hP 206 rfl) ?_
  refine g_iload_n cx dX10_old_25 rfl ?_
  refine g_iload_n cx dX10_old_26 rfl ?_
  refine g_bipush cx dX10_old_27 bp_35 ?_
  refine g_icmp_ne cx (tgt := 36) dX10_old_29 rfl (fun c2 => ?_) (fun c2 => ?_)
  · have h := zifn c2 h
    refine g_aload_n cx dX10_old_36 rfl ?_
    refine g_iconst cx dX10_old_37 ic_1 ?_
    refine g_wVi cx [.int 1] [.int y1, .ref 207] (e_X10_top hP h) mt_X10_top ml_X10_474 rfl rfl rfl dX10_old_38 rfl rfl (Nat.le_of_ble_eq_true rfl) (Nat.le_of_ble_eq_true rfl) (Nat.le_of_ble_eq_true rfl) (fun v3 I3 P3 hP h => ?_)
    refine (Gx.unset 3 (Gx.L [.ref 155, .int y1, .int y2, .float 0, .float 0] rfl ?_))
    exact gj_X10_old_41 cx hE hP h
  · have h := zifp c2 h
    refine g_iload_n cx dX10_old_32 rfl ?_
    refine g_goto cx (tgt := 41) dX10_old_33 rfl ?_
    refine (Gx.unset 3 (Gx.L [.ref 155, .int y1, .int y2, .float 0, .float 0] rfl ?_))
    exact gj_X10_old_41 cx hE hP h
def w_X10_old (x1 : Int32) (x2 : Int32) (x3 : Int32) (I : zI) (P : zP) (K : zI → zP → Prop) : Prop := if x2 = 35 then (j_X10_old_20 K x1 x2 x3 0 x1 I P) else (w_X10_top 2 I P (fun (v2 : Int32) (I2 : zI) (P2 : zP) => (j_X10_old_20 K x1 x2 x3 v2 x1 I2 P2)))
theorem e_X10_old {x1 : Int32} {x2 : Int32} {x3 : Int32} {I : zI} {P : zP} {K : zI → zP → Prop} (hP : PSt P) (h : w_X10_old x1 x2 x3 I P K) : Ev yX10_old cX10_old 5 none 1 22 0 0 [.ref 155, .int x1, .int x2, .int x3] SHy I P (zKv K) := by
  refine Ev.start [.ref 155, .int x1, .int x2, .int x3, .float 0] pn_X10 rfl (Nat.le_of_ble_eq_true rfl) rfl (fun κ cx hE => ?_)
  unfold w_X10_old at h
  refine g_aload_n cx dX10_old_0 rfl ?_
  refine g_getR cx lk_X10_165 rfl (Nat.le_of_ble_eq_true rfl) rfl dX10_old_1 (v := 206) (pst hP 205 rfl) ?_
  refine g_iload_n cx dX10_old_4 rfl ?_
  refine g_iload_n cx dX10_old_5 rfl ?_
  refine g_bipush cx dX10_old_6 bp_35 ?_
  refine g_icmp_ne cx (tgt := 15) dX10_old_8 rfl (fun c1 => ?_) (fun c1 => ?_)
  · have h := zifn c1 h
    refine g_aload_n cx dX10_old_15 rfl ?_
    refine g_iconst cx dX10_old_16 ic_2 ?_
    refine g_wVi cx [.int 2] [.int x1, .ref 206] (e_X10_top hP h) mt_X10_top ml_X10_474 rfl rfl rfl dX10_old_17 rfl rfl (Nat.le_of_ble_eq_true rfl) (Nat.le_of_ble_eq_true rfl) (Nat.le_of_ble_eq_true rfl) (fun v2 I2 P2 hP h => ?_)
    exact gj_X10_old_20 cx hE hP h
  · have h := zifp c1 h
    refine g_iconst cx dX10_old_11 ic_0 ?_
    refine g_goto cx (tgt := 20) dX10_old_12 rfl ?_
    exact gj_X10_old_20 cx hE hP h
def j_X10_ahead_136 (X98 : Int32 → Int32 → Int32 → Int32 → Int32 → zI → zP → Prop) (K : Int32 → zI → zP → Prop) (y1 : Int32) (y2 : Int32) (y3 : Int32) (y4 : Int32) (y5 : Int32) (I : zI) (P : zP) : Prop := w_X10_stands y5 4 y1 y2 y4 I P (fun (v1 : Int32) (I1 : zI) (P1 : zP) => (if v1 = 0 then (X98 y1 y2 y3 y4 (y5 + 1) I1 P1) else (vp_in (((400 * y1) + y2) + 1) 2400 ∧ (w_X10_old y5 y3 (I1 160 (((((400 * y1) + y2) + 1)).toNatClampNeg)) I1 P1 (fun (I4 : zI) (P4 : zP) => (X98 y1 y2 y3 y4 (y5 + 1) I4 P4))))))
theorem gj_X10_ahead_136 {κ : zX} (cx : Cx yX10_ahead cX10_ahead 6 (some .boolean) 4 96 κ) {K : Int32 → zI → zP → Prop} (hE : zEnd (zKi K) 0 0 κ) {X98 : Int32 → Int32 → Int32 → Int32 → Int32 → zI → zP → Prop} (hX98 : ∀ (y1 : Int32) (y2 : Int32) (y3 : Int32) (y4 : Int32) (y5 : Int32) (I : zI) (P : zP), PSt P → X98 y1 y2 y3 y4 y5 I P → Gx κ 98 [.ref 155, .int y1, .int y2, .int y3, .int y4, .int y5] [] SHy I P 0 0) {y1 : Int32} {y2 : Int32} {y3 : Int32} {y4 : Int32} {y5 : Int32} {I : zI} {P : zP} (hP : PSt P) (h : j_X10_ahead_136 X98 K y1 y2 y3 y4 y5 I P) : Gx κ 136 [.ref 155, .int y1, .int y2, .int y3, .int y4, .int y5] [] SHy I P 0 0 := by
  unfold j_X10_ahead_136 at h
  refine g_aload_n cx dX10_ahead_136 rfl ?_
  refine g_iload cx dX10_ahead_137 rfl ?_
  refine g_iconst cx dX10_ahead_139 ic_4 ?_
  refine g_iload_n cx dX10_ahead_140 rfl ?_
  refine g_iload_n cx dX10_ahead_141 rfl ?_
  refine g_iload cx dX10_ahead_142 rfl ?_
  refine g_wVi cx [.int y5, .int 4, .int y1, .int y2, .int y4] [] (e_X10_stands hP h) mt_X10_stands ml_X10_338 rfl rfl rfl dX10_ahead_144 rfl rfl (Nat.le_of_ble_eq_true rfl) (Nat.le_of_ble_eq_true rfl) (Nat.le_of_ble_eq_true rfl) (fun v1 I1 P1 hP h => ?_)
  refine g_if_eq cx (tgt := 171) dX10_ahead_147 rfl (fun c2 => ?_) (fun c2 => ?_)
  · have h := zifp c2 h
    refine g_iinc cx (v := (y5 + 1)) dX10_ahead_171 rfl rfl (Nat.le_of_ble_eq_true rfl) (Gx.L [.ref 155, .int y1, .int y2, .int y3, .int y4, .int (y5 + 1)] rfl ?_)
    refine g_goto cx (tgt := 98) dX10_ahead_174 rfl ?_
    exact hX98 _ _ _ _ _ _ _ hP h
  · have h := zifn c2 h
    refine g_aload_n cx dX10_ahead_150 rfl ?_
    refine g_iload cx dX10_ahead_151 rfl ?_
    refine g_iload_n cx dX10_ahead_153 rfl ?_
    refine g_aload_n cx dX10_ahead_154 rfl ?_
    refine g_getR cx lk_X10_26 rfl (Nat.le_of_ble_eq_true rfl) rfl dX10_ahead_155 (v := 160) (pst hP 159 rfl) ?_
    refine g_sipush cx dX10_ahead_158 sp_400 ?_
    refine g_iload_n cx dX10_ahead_161 rfl ?_
    refine g_imul cx dX10_ahead_162 ?_
    refine g_iload_n cx dX10_ahead_163 rfl ?_
    refine g_iadd cx dX10_ahead_164 ?_
    refine g_iconst cx dX10_ahead_165 ic_1 ?_
    refine g_iadd cx dX10_ahead_166 ?_
    obtain ⟨hc3, h⟩ := h
    refine g_iald cx dX10_ahead_167 rfl hc3 (x := (I1 160 (((((400 * y1) + y2) + 1)).toNatClampNeg))) rfl ?_
    refine g_wVv cx [.int y5, .int y3, .int (I1 160 (((((400 * y1) + y2) + 1)).toNatClampNeg))] [] (e_X10_old hP h) mt_X10_old ml_X10_477 rfl rfl rfl dX10_ahead_168 rfl rfl (Nat.le_of_ble_eq_true rfl) (Nat.le_of_ble_eq_true rfl) (Nat.le_of_ble_eq_true rfl) (fun I4 P4 hP h => ?_)
    refine g_iinc cx (v := (y5 + 1)) dX10_ahead_171 rfl rfl (Nat.le_of_ble_eq_true rfl) (Gx.L [.ref 155, .int y1, .int y2, .int y3, .int y4, .int (y5 + 1)] rfl ?_)
    refine g_goto cx (tgt := 98) dX10_ahead_174 rfl ?_
    exact hX98 _ _ _ _ _ _ _ hP h
def l_X10_ahead_98 (K : Int32 → zI → zP → Prop) : Nat → Int32 → Int32 → Int32 → Int32 → Int32 → zI → zP → Prop
  | 0, _, _, _, _, _, _, _ => False
  | n + 1, y1, y2, y3, y4, y5, I, P => if y4 ≤ y5 then (K 0 I P) else (if y3 = 42 then (w_X10_stands y5 3 y1 0 y4 I P (fun (v3 : Int32) (I3 : zI) (P3 : zP) => (if v3 = 0 then (j_X10_ahead_136 (l_X10_ahead_98 K n) K y1 y2 y3 y4 y5 I3 P3) else (w_X10_top 0 I3 P3 (fun (v5 : Int32) (I5 : zI) (P5 : zP) => (w_X10_tell y5 v5 I5 P5 (fun (I6 : zI) (P6 : zP) => (j_X10_ahead_136 (l_X10_ahead_98 K n) K y1 y2 y3 y4 y5 I6 P6)))))))) else (j_X10_ahead_136 (l_X10_ahead_98 K n) K y1 y2 y3 y4 y5 I P))
theorem gl_X10_ahead_98 {κ : zX} (cx : Cx yX10_ahead cX10_ahead 6 (some .boolean) 4 96 κ) {K : Int32 → zI → zP → Prop} (hE : zEnd (zKi K) 0 0 κ) : ∀ (n : Nat) (y1 : Int32) (y2 : Int32) (y3 : Int32) (y4 : Int32) (y5 : Int32) (I : zI) (P : zP), PSt P → l_X10_ahead_98 K n y1 y2 y3 y4 y5 I P → Gx κ 98 [.ref 155, .int y1, .int y2, .int y3, .int y4, .int y5] [] SHy I P 0 0 := by
  intro n
  induction n with
  | zero =>
    intro y1 y2 y3 y4 y5 I P hP h
    rw [l_X10_ahead_98] at h
    exact False.elim h
  | succ n ih =>
    intro y1 y2 y3 y4 y5 I P hP h
    rw [l_X10_ahead_98] at h
    refine g_iload cx dX10_ahead_98 rfl ?_
    refine g_iload cx dX10_ahead_100 rfl ?_
    refine g_icmp_ge cx (tgt := 177) dX10_ahead_102 rfl (fun c1 => ?_) (fun c1 => ?_)
    · have h := zifp c1 h
      refine g_iconst cx dX10_ahead_177 ic_0 ?_
      exact g_wi cx hE dX10_ahead_178 rfl rfl hP h
    · have h := zifn c1 h
      refine g_iload_n cx dX10_ahead_105 rfl ?_
      refine g_bipush cx dX10_ahead_106 bp_42 ?_
      refine g_icmp_ne cx (tgt := 136) dX10_ahead_108 rfl (fun c2 => ?_) (fun c2 => ?_)
      · have h := zifn c2 h
        exact gj_X10_ahead_136 cx hE ih hP h
      · have h := zifp c2 h
        refine g_aload_n cx dX10_ahead_111 rfl ?_
        refine g_iload cx dX10_ahead_112 rfl ?_
        refine g_iconst cx dX10_ahead_114 ic_3 ?_
        refine g_iload_n cx dX10_ahead_115 rfl ?_
        refine g_iconst cx dX10_ahead_116 ic_0 ?_
        refine g_iload cx dX10_ahead_117 rfl ?_
        refine g_wVi cx [.int y5, .int 3, .int y1, .int 0, .int y4] [] (e_X10_stands hP h) mt_X10_stands ml_X10_338 rfl rfl rfl dX10_ahead_119 rfl rfl (Nat.le_of_ble_eq_true rfl) (Nat.le_of_ble_eq_true rfl) (Nat.le_of_ble_eq_true rfl) (fun v3 I3 P3 hP h => ?_)
        refine g_if_eq cx (tgt := 136) dX10_ahead_122 rfl (fun c4 => ?_) (fun c4 => ?_)
        · have h := zifp c4 h
          exact gj_X10_ahead_136 cx hE ih hP h
        · have h := zifn c4 h
          refine g_aload_n cx dX10_ahead_125 rfl ?_
          refine g_iload cx dX10_ahead_126 rfl ?_
          refine g_aload_n cx dX10_ahead_128 rfl ?_
          refine g_iconst cx dX10_ahead_129 ic_0 ?_
          refine g_wVi cx [.int 0] [.int y5, .ref 155] (e_X10_top hP h) mt_X10_top ml_X10_474 rfl rfl rfl dX10_ahead_130 rfl rfl (Nat.le_of_ble_eq_true rfl) (Nat.le_of_ble_eq_true rfl) (Nat.le_of_ble_eq_true rfl) (fun v5 I5 P5 hP h => ?_)
          refine g_wVv cx [.int y5, .int v5] [] (e_X10_tell hP h) mt_X10_tell ml_X10_442 rfl rfl rfl dX10_ahead_133 rfl rfl (Nat.le_of_ble_eq_true rfl) (Nat.le_of_ble_eq_true rfl) (Nat.le_of_ble_eq_true rfl) (fun I6 P6 hP h => ?_)
          exact gj_X10_ahead_136 cx hE ih hP h
def j_X10_ahead_38 (X10 : Int32 → Int32 → Int32 → Int32 → Int32 → zI → zP → Prop) (K : Int32 → zI → zP → Prop) (y1 : Int32) (y2 : Int32) (y3 : Int32) (y4 : Int32) (y5 : Int32) (I : zI) (P : zP) : Prop := w_X10_stands y5 6 y1 y2 y4 I P (fun (v1 : Int32) (I1 : zI) (P1 : zP) => (if v1 = 0 then (X10 y1 y2 y3 y4 (y5 + 1) I1 P1) else (w_X10_faults y5 I1 P1 (fun (v3 : Int32) (I3 : zI) (P3 : zP) => (if v3 = 0 then (X10 y1 y2 y3 y4 (y5 + 1) I3 P3) else (vp_in y5 24 ∧ (w_X10_isThrown (zu (zu (zu I3 155 65 (I3 174 ((y5).toNatClampNeg))) 155 66 y1) 155 67 y2) P3 (fun (I6 : zI) (P6 : zP) => (K 1 I6 P6)))))))))
theorem gj_X10_ahead_38 {κ : zX} (cx : Cx yX10_ahead cX10_ahead 6 (some .boolean) 4 96 κ) {K : Int32 → zI → zP → Prop} (hE : zEnd (zKi K) 0 0 κ) {X10 : Int32 → Int32 → Int32 → Int32 → Int32 → zI → zP → Prop} (hX10 : ∀ (y1 : Int32) (y2 : Int32) (y3 : Int32) (y4 : Int32) (y5 : Int32) (I : zI) (P : zP), PSt P → X10 y1 y2 y3 y4 y5 I P → Gx κ 10 [.ref 155, .int y1, .int y2, .int y3, .int y4, .int y5] [] SHy I P 0 0) {y1 : Int32} {y2 : Int32} {y3 : Int32} {y4 : Int32} {y5 : Int32} {I : zI} {P : zP} (hP : PSt P) (h : j_X10_ahead_38 X10 K y1 y2 y3 y4 y5 I P) : Gx κ 38 [.ref 155, .int y1, .int y2, .int y3, .int y4, .int y5] [] SHy I P 0 0 := by
  unfold j_X10_ahead_38 at h
  refine g_aload_n cx dX10_ahead_38 rfl ?_
  refine g_iload cx dX10_ahead_39 rfl ?_
  refine g_bipush cx dX10_ahead_41 bp_6 ?_
  refine g_iload_n cx dX10_ahead_43 rfl ?_
  refine g_iload_n cx dX10_ahead_44 rfl ?_
  refine g_iload cx dX10_ahead_45 rfl ?_
  refine g_wVi cx [.int y5, .int 6, .int y1, .int y2, .int y4] [] (e_X10_stands hP h) mt_X10_stands ml_X10_338 rfl rfl rfl dX10_ahead_47 rfl rfl (Nat.le_of_ble_eq_true rfl) (Nat.le_of_ble_eq_true rfl) (Nat.le_of_ble_eq_true rfl) (fun v1 I1 P1 hP h => ?_)
  refine g_if_eq cx (tgt := 89) dX10_ahead_50 rfl (fun c2 => ?_) (fun c2 => ?_)
  · have h := zifp c2 h
    refine g_iinc cx (v := (y5 + 1)) dX10_ahead_89 rfl rfl (Nat.le_of_ble_eq_true rfl) (Gx.L [.ref 155, .int y1, .int y2, .int y3, .int y4, .int (y5 + 1)] rfl ?_)
    refine g_goto cx (tgt := 10) dX10_ahead_92 rfl ?_
    exact hX10 _ _ _ _ _ _ _ hP h
  · have h := zifn c2 h
    refine g_aload_n cx dX10_ahead_53 rfl ?_
    refine g_iload cx dX10_ahead_54 rfl ?_
    refine g_wVi cx [.int y5] [] (e_X10_faults hP h) mt_X10_faults ml_X10_471 rfl rfl rfl dX10_ahead_56 rfl rfl (Nat.le_of_ble_eq_true rfl) (Nat.le_of_ble_eq_true rfl) (Nat.le_of_ble_eq_true rfl) (fun v3 I3 P3 hP h => ?_)
    refine g_if_eq cx (tgt := 89) dX10_ahead_59 rfl (fun c4 => ?_) (fun c4 => ?_)
    · have h := zifp c4 h
      refine g_iinc cx (v := (y5 + 1)) dX10_ahead_89 rfl rfl (Nat.le_of_ble_eq_true rfl) (Gx.L [.ref 155, .int y1, .int y2, .int y3, .int y4, .int (y5 + 1)] rfl ?_)
      refine g_goto cx (tgt := 10) dX10_ahead_92 rfl ?_
      exact hX10 _ _ _ _ _ _ _ hP h
    · have h := zifn c4 h
      refine g_aload_n cx dX10_ahead_62 rfl ?_
      refine g_aload_n cx dX10_ahead_63 rfl ?_
      refine g_getR cx lk_X10_69 rfl (Nat.le_of_ble_eq_true rfl) rfl dX10_ahead_64 (v := 174) (pst hP 173 rfl) ?_
      refine g_iload cx dX10_ahead_67 rfl ?_
      obtain ⟨hc5, h⟩ := h
      refine g_iald cx dX10_ahead_69 rfl hc5 (x := (I3 174 ((y5).toNatClampNeg))) rfl ?_
      refine g_pI cx lk_X10_424 rfl (Nat.le_of_ble_eq_true rfl) rfl dX10_ahead_70 fi_10_65 rfl rfl ?_
      refine g_aload_n cx dX10_ahead_73 rfl ?_
      refine g_iload_n cx dX10_ahead_74 rfl ?_
      refine g_pI cx lk_X10_427 rfl (Nat.le_of_ble_eq_true rfl) rfl dX10_ahead_75 fi_10_66 rfl rfl ?_
      refine g_aload_n cx dX10_ahead_78 rfl ?_
      refine g_iload_n cx dX10_ahead_79 rfl ?_
      refine g_pI cx lk_X10_430 rfl (Nat.le_of_ble_eq_true rfl) rfl dX10_ahead_80 fi_10_67 rfl rfl ?_
      refine g_aload_n cx dX10_ahead_83 rfl ?_
      refine g_wVv cx [] [] (e_X10_isThrown hP h) mt_X10_isThrown ml_X10_464 rfl rfl rfl dX10_ahead_84 rfl rfl (Nat.le_of_ble_eq_true rfl) (Nat.le_of_ble_eq_true rfl) (Nat.le_of_ble_eq_true rfl) (fun I6 P6 hP h => ?_)
      refine g_iconst cx dX10_ahead_87 ic_1 ?_
      exact g_wi cx hE dX10_ahead_88 rfl rfl hP h
def l_X10_ahead_10 (K : Int32 → zI → zP → Prop) : Nat → Int32 → Int32 → Int32 → Int32 → Int32 → zI → zP → Prop
  | 0, _, _, _, _, _, _, _ => False
  | n + 1, y1, y2, y3, y4, y5, I, P => if y4 ≤ y5 then (∃ n9, l_X10_ahead_98 K n9 y1 y2 y3 y4 0 I P) else (w_X10_stands y5 0 y1 y2 y4 I P (fun (v2 : Int32) (I2 : zI) (P2 : zP) => (if v2 = 0 then (j_X10_ahead_38 (l_X10_ahead_10 K n) K y1 y2 y3 y4 y5 I2 P2) else (w_X10_tell y5 0 I2 P2 (fun (I4 : zI) (P4 : zP) => (j_X10_ahead_38 (l_X10_ahead_10 K n) K y1 y2 y3 y4 y5 I4 P4))))))
theorem gl_X10_ahead_10 {κ : zX} (cx : Cx yX10_ahead cX10_ahead 6 (some .boolean) 4 96 κ) {K : Int32 → zI → zP → Prop} (hE : zEnd (zKi K) 0 0 κ) : ∀ (n : Nat) (y1 : Int32) (y2 : Int32) (y3 : Int32) (y4 : Int32) (y5 : Int32) (I : zI) (P : zP), PSt P → l_X10_ahead_10 K n y1 y2 y3 y4 y5 I P → Gx κ 10 [.ref 155, .int y1, .int y2, .int y3, .int y4, .int y5] [] SHy I P 0 0 := by
  intro n
  induction n with
  | zero =>
    intro y1 y2 y3 y4 y5 I P hP h
    rw [l_X10_ahead_10] at h
    exact False.elim h
  | succ n ih =>
    intro y1 y2 y3 y4 y5 I P hP h
    rw [l_X10_ahead_10] at h
    refine g_iload cx dX10_ahead_10 rfl ?_
    refine g_iload cx dX10_ahead_12 rfl ?_
    refine g_icmp_ge cx (tgt := 95) dX10_ahead_14 rfl (fun c1 => ?_) (fun c1 => ?_)
    · have h := zifp c1 h
      refine g_iconst cx dX10_ahead_95 ic_0 ?_
      refine g_istore cx dX10_ahead_96 (Nat.le_of_ble_eq_true rfl) (Gx.L [.ref 155, .int y1, .int y2, .int y3, .int y4, .int 0] rfl ?_)
      obtain ⟨n9, h⟩ := h
      exact gl_X10_ahead_98 cx hE n9 _ _ _ _ _ _ _ hP h
    · have h := zifn c1 h
      refine g_aload_n cx dX10_ahead_17 rfl ?_
      refine g_iload cx dX10_ahead_18 rfl ?_
      refine g_iconst cx dX10_ahead_20 ic_0 ?_
      refine g_iload_n cx dX10_ahead_21 rfl ?_
      refine g_iload_n cx dX10_ahead_22 rfl ?_
      refine g_iload cx dX10_ahead_23 rfl ?_
      refine g_wVi cx [.int y5, .int 0, .int y1, .int y2, .int y4] [] (e_X10_stands hP h) mt_X10_stands ml_X10_338 rfl rfl rfl dX10_ahead_25 rfl rfl (Nat.le_of_ble_eq_true rfl) (Nat.le_of_ble_eq_true rfl) (Nat.le_of_ble_eq_true rfl) (fun v2 I2 P2 hP h => ?_)
      refine g_if_eq cx (tgt := 38) dX10_ahead_28 rfl (fun c3 => ?_) (fun c3 => ?_)
      · have h := zifp c3 h
        exact gj_X10_ahead_38 cx hE ih hP h
      · have h := zifn c3 h
        refine g_aload_n cx dX10_ahead_31 rfl ?_
        refine g_iload cx dX10_ahead_32 rfl ?_
        refine g_iconst cx dX10_ahead_34 ic_0 ?_
        refine g_wVv cx [.int y5, .int 0] [] (e_X10_tell hP h) mt_X10_tell ml_X10_442 rfl rfl rfl dX10_ahead_35 rfl rfl (Nat.le_of_ble_eq_true rfl) (Nat.le_of_ble_eq_true rfl) (Nat.le_of_ble_eq_true rfl) (fun I4 P4 hP h => ?_)
        exact gj_X10_ahead_38 cx hE ih hP h
def w_X10_ahead (x1 : Int32) (x2 : Int32) (x3 : Int32) (I : zI) (P : zP) (K : Int32 → zI → zP → Prop) : Prop := w_X10_watched x1 I P (fun (v1 : Int32) (I1 : zI) (P1 : zP) => (∃ n9, l_X10_ahead_10 K n9 x1 x2 x3 v1 0 I1 P1))
theorem e_X10_ahead {x1 : Int32} {x2 : Int32} {x3 : Int32} {I : zI} {P : zP} {K : Int32 → zI → zP → Prop} (hP : PSt P) (h : w_X10_ahead x1 x2 x3 I P K) : Ev yX10_ahead cX10_ahead 6 (some .boolean) 4 96 0 0 [.ref 155, .int x1, .int x2, .int x3] SHy I P (zKi K) := by
  refine Ev.start [.ref 155, .int x1, .int x2, .int x3, .float 0, .float 0] pn_X10 rfl (Nat.le_of_ble_eq_true rfl) rfl (fun κ cx hE => ?_)
  unfold w_X10_ahead at h
  refine g_aload_n cx dX10_ahead_0 rfl ?_
  refine g_iload_n cx dX10_ahead_1 rfl ?_
  refine g_wVi cx [.int x1] [] (e_X10_watched hP h) mt_X10_watched ml_X10_436 rfl rfl rfl dX10_ahead_2 rfl rfl (Nat.le_of_ble_eq_true rfl) (Nat.le_of_ble_eq_true rfl) (Nat.le_of_ble_eq_true rfl) (fun v1 I1 P1 hP h => ?_)
  refine g_istore cx dX10_ahead_5 (Nat.le_of_ble_eq_true rfl) (Gx.L [.ref 155, .int x1, .int x2, .int x3, .int v1, .float 0] rfl ?_)
  refine g_iconst cx dX10_ahead_7 ic_0 ?_
  refine g_istore cx dX10_ahead_8 (Nat.le_of_ble_eq_true rfl) (Gx.L [.ref 155, .int x1, .int x2, .int x3, .int v1, .int 0] rfl ?_)
  obtain ⟨n9, h⟩ := h
  exact gl_X10_ahead_10 cx hE n9 _ _ _ _ _ _ _ hP h
def l_X10_begin_88 (K : zI → zP → Prop) : Nat → Int32 → zI → zP → Prop
  | 0, _, _, _ => False
  | n + 1, y1, I, P => if 24 ≤ y1 then (K I P) else (vp_in y1 24 ∧ ((l_X10_begin_88 K n) (y1 + 1) (zu I 204 ((y1).toNatClampNeg) 0) P))
theorem gl_X10_begin_88 {κ : zX} (cx : Cx yX10_begin cX10_begin 2 none 0 0 κ) {K : zI → zP → Prop} (hE : zEnd (zKv K) 0 0 κ) : ∀ (n : Nat) (y1 : Int32) (I : zI) (P : zP), PSt P → l_X10_begin_88 K n y1 I P → Gx κ 88 [.ref 155, .int y1] [] SHy I P 0 0 := by
  intro n
  induction n with
  | zero =>
    intro y1 I P hP h
    rw [l_X10_begin_88] at h
    exact False.elim h
  | succ n ih =>
    intro y1 I P hP h
    rw [l_X10_begin_88] at h
    refine g_iload_n cx dX10_begin_88 rfl ?_
    refine g_bipush cx dX10_begin_89 bp_24 ?_
    refine g_icmp_ge cx (tgt := 107) dX10_begin_91 rfl (fun c1 => ?_) (fun c1 => ?_)
    · have h := zifp c1 h
      exact g_wv cx hE dX10_begin_107 rfl hP h
    · have h := zifn c1 h
      refine g_aload_n cx dX10_begin_94 rfl ?_
      refine g_getR cx lk_X10_159 rfl (Nat.le_of_ble_eq_true rfl) rfl dX10_begin_95 (v := 204) (pst hP 203 rfl) ?_
      refine g_iload_n cx dX10_begin_98 rfl ?_
      refine g_iconst cx dX10_begin_99 ic_0 ?_
      obtain ⟨hc2, h⟩ := h
      refine g_iast cx dX10_begin_100 rfl hc2 ?_
      refine g_iinc cx (v := (y1 + 1)) dX10_begin_101 rfl rfl (Nat.le_of_ble_eq_true rfl) (Gx.L [.ref 155, .int (y1 + 1)] rfl ?_)
      refine g_goto cx (tgt := 88) dX10_begin_104 rfl ?_
      exact ih _ _ _ hP h
def l_X10_begin_67 (K : zI → zP → Prop) : Nat → Int32 → zI → zP → Prop
  | 0, _, _, _ => False
  | n + 1, y1, I, P => if 8 ≤ y1 then (∃ n9, l_X10_begin_88 K n9 0 I P) else (vp_in y1 8 ∧ ((l_X10_begin_67 K n) (y1 + 1) (zu I 203 ((y1).toNatClampNeg) 0) P))
theorem gl_X10_begin_67 {κ : zX} (cx : Cx yX10_begin cX10_begin 2 none 0 0 κ) {K : zI → zP → Prop} (hE : zEnd (zKv K) 0 0 κ) : ∀ (n : Nat) (y1 : Int32) (I : zI) (P : zP), PSt P → l_X10_begin_67 K n y1 I P → Gx κ 67 [.ref 155, .int y1] [] SHy I P 0 0 := by
  intro n
  induction n with
  | zero =>
    intro y1 I P hP h
    rw [l_X10_begin_67] at h
    exact False.elim h
  | succ n ih =>
    intro y1 I P hP h
    rw [l_X10_begin_67] at h
    refine g_iload_n cx dX10_begin_67 rfl ?_
    refine g_bipush cx dX10_begin_68 bp_8 ?_
    refine g_icmp_ge cx (tgt := 86) dX10_begin_70 rfl (fun c1 => ?_) (fun c1 => ?_)
    · have h := zifp c1 h
      refine g_iconst cx dX10_begin_86 ic_0 ?_
      refine g_istore_n cx dX10_begin_87 (Nat.le_of_ble_eq_true rfl) (Gx.L [.ref 155, .int 0] rfl ?_)
      obtain ⟨n9, h⟩ := h
      exact gl_X10_begin_88 cx hE n9 _ _ _ hP h
    · have h := zifn c1 h
      refine g_aload_n cx dX10_begin_73 rfl ?_
      refine g_getR cx lk_X10_156 rfl (Nat.le_of_ble_eq_true rfl) rfl dX10_begin_74 (v := 203) (pst hP 202 rfl) ?_
      refine g_iload_n cx dX10_begin_77 rfl ?_
      refine g_iconst cx dX10_begin_78 ic_0 ?_
      obtain ⟨hc2, h⟩ := h
      refine g_iast cx dX10_begin_79 rfl hc2 ?_
      refine g_iinc cx (v := (y1 + 1)) dX10_begin_80 rfl rfl (Nat.le_of_ble_eq_true rfl) (Gx.L [.ref 155, .int (y1 + 1)] rfl ?_)
      refine g_goto cx (tgt := 67) dX10_begin_83 rfl ?_
      exact ih _ _ _ hP h
def w_X10_begin (I : zI) (P : zP) (K : zI → zP → Prop) : Prop := vp_in (I 155 50) 3 ∧ (vp_in ((zu (zu (zu (zu (zu (zu (zu (zu (zu (zu I 155 52 (-1)) 155 53 0) 155 54 0) 155 55 0) 155 63 0) 155 65 0) 155 66 (-1)) 155 67 (-1)) 155 68 0) 211 (((I 155 50)).toNatClampNeg) 0) 155 50) 3 ∧ (∃ n9, l_X10_begin_67 K n9 0 (zu (zu (zu (zu (zu (zu (zu (zu (zu (zu (zu I 155 52 (-1)) 155 53 0) 155 54 0) 155 55 0) 155 63 0) 155 65 0) 155 66 (-1)) 155 67 (-1)) 155 68 0) 211 (((I 155 50)).toNatClampNeg) 0) 212 ((((zu (zu (zu (zu (zu (zu (zu (zu (zu (zu I 155 52 (-1)) 155 53 0) 155 54 0) 155 55 0) 155 63 0) 155 65 0) 155 66 (-1)) 155 67 (-1)) 155 68 0) 211 (((I 155 50)).toNatClampNeg) 0) 155 50)).toNatClampNeg) 0) P))
theorem e_X10_begin {I : zI} {P : zP} {K : zI → zP → Prop} (hP : PSt P) (h : w_X10_begin I P K) : Ev yX10_begin cX10_begin 2 none 0 0 0 0 [.ref 155] SHy I P (zKv K) := by
  refine Ev.start [.ref 155, .float 0] pn_X10 rfl (Nat.le_of_ble_eq_true rfl) rfl (fun κ cx hE => ?_)
  unfold w_X10_begin at h
  refine g_aload_n cx dX10_begin_0 rfl ?_
  refine g_iconst cx dX10_begin_1 ic_m1 ?_
  refine g_pI cx lk_X10_403 rfl (Nat.le_of_ble_eq_true rfl) rfl dX10_begin_2 fi_10_52 rfl rfl ?_
  refine g_aload_n cx dX10_begin_5 rfl ?_
  refine g_iconst cx dX10_begin_6 ic_0 ?_
  refine g_pI cx lk_X10_412 rfl (Nat.le_of_ble_eq_true rfl) rfl dX10_begin_7 fi_10_53 rfl rfl ?_
  refine g_aload_n cx dX10_begin_10 rfl ?_
  refine g_iconst cx dX10_begin_11 ic_0 ?_
  refine g_pI cx lk_X10_415 rfl (Nat.le_of_ble_eq_true rfl) rfl dX10_begin_12 fi_10_54 rfl rfl ?_
  refine g_aload_n cx dX10_begin_15 rfl ?_
  refine g_iconst cx dX10_begin_16 ic_0 ?_
  refine g_pI cx lk_X10_418 rfl (Nat.le_of_ble_eq_true rfl) rfl dX10_begin_17 fi_10_55 rfl rfl ?_
  refine g_aload_n cx dX10_begin_20 rfl ?_
  refine g_iconst cx dX10_begin_21 ic_0 ?_
  refine g_pI cx lk_X10_421 rfl (Nat.le_of_ble_eq_true rfl) rfl dX10_begin_22 fi_10_63 rfl rfl ?_
  refine g_aload_n cx dX10_begin_25 rfl ?_
  refine g_iconst cx dX10_begin_26 ic_0 ?_
  refine g_pI cx lk_X10_424 rfl (Nat.le_of_ble_eq_true rfl) rfl dX10_begin_27 fi_10_65 rfl rfl ?_
  refine g_aload_n cx dX10_begin_30 rfl ?_
  refine g_iconst cx dX10_begin_31 ic_m1 ?_
  refine g_pI cx lk_X10_427 rfl (Nat.le_of_ble_eq_true rfl) rfl dX10_begin_32 fi_10_66 rfl rfl ?_
  refine g_aload_n cx dX10_begin_35 rfl ?_
  refine g_iconst cx dX10_begin_36 ic_m1 ?_
  refine g_pI cx lk_X10_430 rfl (Nat.le_of_ble_eq_true rfl) rfl dX10_begin_37 fi_10_67 rfl rfl ?_
  refine Gx.N 40 rfl ?_
  refine g_aload_n cx dX10_begin_40 rfl ?_
  refine g_iconst cx dX10_begin_41 ic_0 ?_
  refine g_pI cx lk_X10_433 rfl (Nat.le_of_ble_eq_true rfl) rfl dX10_begin_42 fi_10_68 rfl rfl ?_
  refine g_aload_n cx dX10_begin_45 rfl ?_
  refine g_getR cx lk_X10_180 rfl (Nat.le_of_ble_eq_true rfl) rfl dX10_begin_46 (v := 211) (pst hP 210 rfl) ?_
  refine g_aload_n cx dX10_begin_49 rfl ?_
  refine g_getI cx lk_X10_385 rfl (Nat.le_of_ble_eq_true rfl) rfl dX10_begin_50 (x := (I 155 50)) rfl ?_
  refine g_iconst cx dX10_begin_53 ic_0 ?_
  obtain ⟨hc1, h⟩ := h
  refine g_iast cx dX10_begin_54 rfl hc1 ?_
  refine g_aload_n cx dX10_begin_55 rfl ?_
  refine g_getR cx lk_X10_183 rfl (Nat.le_of_ble_eq_true rfl) rfl dX10_begin_56 (v := 212) (pst hP 211 rfl) ?_
  refine g_aload_n cx dX10_begin_59 rfl ?_
  refine g_getI cx lk_X10_385 rfl (Nat.le_of_ble_eq_true rfl) rfl dX10_begin_60 (x := ((zu (zu (zu (zu (zu (zu (zu (zu (zu (zu I 155 52 (-1)) 155 53 0) 155 54 0) 155 55 0) 155 63 0) 155 65 0) 155 66 (-1)) 155 67 (-1)) 155 68 0) 211 (((I 155 50)).toNatClampNeg) 0) 155 50)) rfl ?_
  refine g_iconst cx dX10_begin_63 ic_0 ?_
  obtain ⟨hc2, h⟩ := h
  refine g_iast cx dX10_begin_64 rfl hc2 ?_
  refine g_iconst cx dX10_begin_65 ic_0 ?_
  refine g_istore_n cx dX10_begin_66 (Nat.le_of_ble_eq_true rfl) (Gx.L [.ref 155, .int 0] rfl ?_)
  obtain ⟨n9, h⟩ := h
  exact gl_X10_begin_67 cx hE n9 _ _ _ hP h
def w_X10_setTop (x1 : Int32) (I : zI) (P : zP) (K : zI → zP → Prop) : Prop := vp_in ((I 155 54) - 1) 12 ∧ (vp_in (((12 * ((I 155 54) - 1)) + (I 198 ((((I 155 54) - 1)).toNatClampNeg))) - 1) 144 ∧ (K (zu I 200 (((((12 * ((I 155 54) - 1)) + (I 198 ((((I 155 54) - 1)).toNatClampNeg))) - 1)).toNatClampNeg) x1) P))
theorem e_X10_setTop {x1 : Int32} {I : zI} {P : zP} {K : zI → zP → Prop} (hP : PSt P) (h : w_X10_setTop x1 I P K) : Ev yX10_setTop cX10_setTop 2 none 0 0 0 0 [.ref 155, .int x1] SHy I P (zKv K) := by
  refine Ev.start [.ref 155, .int x1] pn_X10 rfl (Nat.le_of_ble_eq_true rfl) rfl (fun κ cx hE => ?_)
  unfold w_X10_setTop at h
  refine g_aload_n cx dX10_setTop_0 rfl ?_
  refine g_getR cx lk_X10_147 rfl (Nat.le_of_ble_eq_true rfl) rfl dX10_setTop_1 (v := 200) (pst hP 199 rfl) ?_
  refine g_bipush cx dX10_setTop_4 bp_12 ?_
  refine g_aload_n cx dX10_setTop_6 rfl ?_
  refine g_getI cx lk_X10_415 rfl (Nat.le_of_ble_eq_true rfl) rfl dX10_setTop_7 (x := (I 155 54)) rfl ?_
  refine g_iconst cx dX10_setTop_10 ic_1 ?_
  refine g_isub cx dX10_setTop_11 ?_
  refine g_imul cx dX10_setTop_12 ?_
  refine g_aload_n cx dX10_setTop_13 rfl ?_
  refine g_getR cx lk_X10_141 rfl (Nat.le_of_ble_eq_true rfl) rfl dX10_setTop_14 (v := 198) (pst hP 197 rfl) ?_
  refine g_aload_n cx dX10_setTop_17 rfl ?_
  refine g_getI cx lk_X10_415 rfl (Nat.le_of_ble_eq_true rfl) rfl dX10_setTop_18 (x := (I 155 54)) rfl ?_
  refine g_iconst cx dX10_setTop_21 ic_1 ?_
  refine g_isub cx dX10_setTop_22 ?_
  obtain ⟨hc1, h⟩ := h
  refine g_iald cx dX10_setTop_23 rfl hc1 (x := (I 198 ((((I 155 54) - 1)).toNatClampNeg))) rfl ?_
  refine g_iadd cx dX10_setTop_24 ?_
  refine g_iconst cx dX10_setTop_25 ic_1 ?_
  refine g_isub cx dX10_setTop_26 ?_
  refine g_iload_n cx dX10_setTop_27 rfl ?_
  obtain ⟨hc2, h⟩ := h
  refine g_iast cx dX10_setTop_28 rfl hc2 ?_
  exact g_wv cx hE dX10_setTop_29 rfl hP h
def w_X10_replace (x1 : Int32) (I : zI) (P : zP) (K : zI → zP → Prop) : Prop := w_X10_top 0 I P (fun (v1 : Int32) (I1 : zI) (P1 : zP) => (w_X10_tell x1 v1 I1 P1 (fun (I2 : zI) (P2 : zP) => (vp_in x1 24 ∧ (w_X10_setTop (I2 173 ((x1).toNatClampNeg)) I2 P2 (fun (I4 : zI) (P4 : zP) => (K I4 P4)))))))
theorem e_X10_replace {x1 : Int32} {I : zI} {P : zP} {K : zI → zP → Prop} (hP : PSt P) (h : w_X10_replace x1 I P K) : Ev yX10_replace cX10_replace 2 none 1 22 0 0 [.ref 155, .int x1] SHy I P (zKv K) := by
  refine Ev.start [.ref 155, .int x1] pn_X10 rfl (Nat.le_of_ble_eq_true rfl) rfl (fun κ cx hE => ?_)
  unfold w_X10_replace at h
  refine g_aload_n cx dX10_replace_0 rfl ?_
  refine g_iload_n cx dX10_replace_1 rfl ?_
  refine g_aload_n cx dX10_replace_2 rfl ?_
  refine g_iconst cx dX10_replace_3 ic_0 ?_
  refine g_wVi cx [.int 0] [.int x1, .ref 155] (e_X10_top hP h) mt_X10_top ml_X10_474 rfl rfl rfl dX10_replace_4 rfl rfl (Nat.le_of_ble_eq_true rfl) (Nat.le_of_ble_eq_true rfl) (Nat.le_of_ble_eq_true rfl) (fun v1 I1 P1 hP h => ?_)
  refine g_wVv cx [.int x1, .int v1] [] (e_X10_tell hP h) mt_X10_tell ml_X10_442 rfl rfl rfl dX10_replace_7 rfl rfl (Nat.le_of_ble_eq_true rfl) (Nat.le_of_ble_eq_true rfl) (Nat.le_of_ble_eq_true rfl) (fun I2 P2 hP h => ?_)
  refine g_aload_n cx dX10_replace_10 rfl ?_
  refine g_aload_n cx dX10_replace_11 rfl ?_
  refine g_getR cx lk_X10_66 rfl (Nat.le_of_ble_eq_true rfl) rfl dX10_replace_12 (v := 173) (pst hP 172 rfl) ?_
  refine g_iload_n cx dX10_replace_15 rfl ?_
  obtain ⟨hc3, h⟩ := h
  refine g_iald cx dX10_replace_16 rfl hc3 (x := (I2 173 ((x1).toNatClampNeg))) rfl ?_
  refine g_wVv cx [.int (I2 173 ((x1).toNatClampNeg))] [] (e_X10_setTop hP h) mt_X10_setTop ml_X10_483 rfl rfl rfl dX10_replace_17 rfl rfl (Nat.le_of_ble_eq_true rfl) (Nat.le_of_ble_eq_true rfl) (Nat.le_of_ble_eq_true rfl) (fun I4 P4 hP h => ?_)
  exact g_wv cx hE dX10_replace_20 rfl hP h
def w_X10_tellStore (x1 : Int32) (I : zI) (P : zP) (K : zI → zP → Prop) : Prop := vp_in x1 24 ∧ (w_X10_tell x1 (I 205 ((x1).toNatClampNeg)) I P (fun (I2 : zI) (P2 : zP) => (w_X10_stored x1 I2 P2 (fun (v3 : Int32) (I3 : zI) (P3 : zP) => (w_X10_tell x1 v3 I3 P3 (fun (I4 : zI) (P4 : zP) => (K I4 P4)))))))
theorem e_X10_tellStore {x1 : Int32} {I : zI} {P : zP} {K : zI → zP → Prop} (hP : PSt P) (h : w_X10_tellStore x1 I P K) : Ev yX10_tellStore cX10_tellStore 2 none 1 22 0 0 [.ref 155, .int x1] SHy I P (zKv K) := by
  refine Ev.start [.ref 155, .int x1] pn_X10 rfl (Nat.le_of_ble_eq_true rfl) rfl (fun κ cx hE => ?_)
  unfold w_X10_tellStore at h
  refine g_aload_n cx dX10_tellStore_0 rfl ?_
  refine g_iload_n cx dX10_tellStore_1 rfl ?_
  refine g_aload_n cx dX10_tellStore_2 rfl ?_
  refine g_getR cx lk_X10_162 rfl (Nat.le_of_ble_eq_true rfl) rfl dX10_tellStore_3 (v := 205) (pst hP 204 rfl) ?_
  refine g_iload_n cx dX10_tellStore_6 rfl ?_
  obtain ⟨hc1, h⟩ := h
  refine g_iald cx dX10_tellStore_7 rfl hc1 (x := (I 205 ((x1).toNatClampNeg))) rfl ?_
  refine g_wVv cx [.int x1, .int (I 205 ((x1).toNatClampNeg))] [] (e_X10_tell hP h) mt_X10_tell ml_X10_442 rfl rfl rfl dX10_tellStore_8 rfl rfl (Nat.le_of_ble_eq_true rfl) (Nat.le_of_ble_eq_true rfl) (Nat.le_of_ble_eq_true rfl) (fun I2 P2 hP h => ?_)
  refine g_aload_n cx dX10_tellStore_11 rfl ?_
  refine g_iload_n cx dX10_tellStore_12 rfl ?_
  refine g_aload_n cx dX10_tellStore_13 rfl ?_
  refine g_iload_n cx dX10_tellStore_14 rfl ?_
  refine g_wVi cx [.int x1] [.int x1, .ref 155] (e_X10_stored hP h) mt_X10_stored ml_X10_480 rfl rfl rfl dX10_tellStore_15 rfl rfl (Nat.le_of_ble_eq_true rfl) (Nat.le_of_ble_eq_true rfl) (Nat.le_of_ble_eq_true rfl) (fun v3 I3 P3 hP h => ?_)
  refine g_wVv cx [.int x1, .int v3] [] (e_X10_tell hP h) mt_X10_tell ml_X10_442 rfl rfl rfl dX10_tellStore_18 rfl rfl (Nat.le_of_ble_eq_true rfl) (Nat.le_of_ble_eq_true rfl) (Nat.le_of_ble_eq_true rfl) (fun I4 P4 hP h => ?_)
  exact g_wv cx hE dX10_tellStore_21 rfl hP h
def j_X10_behind_58 (X10 : Int32 → Int32 → Int32 → Int32 → Int32 → zI → zP → Prop) (K : zI → zP → Prop) (y1 : Int32) (y2 : Int32) (y4 : Int32) (y5 : Int32) (y6 : Int32) (I : zI) (P : zP) : Prop := w_X10_stands y6 1 y1 y2 y5 I P (fun (v1 : Int32) (I1 : zI) (P1 : zP) => (if v1 = 0 then (X10 y1 y2 y4 y5 (y6 + 1) I1 P1) else (if y4 = 0 then (w_X10_tell y6 0 I1 P1 (fun (I4 : zI) (P4 : zP) => (X10 y1 y2 y4 y5 (y6 + 1) I4 P4))) else (w_X10_tell y6 1 I1 P1 (fun (I5 : zI) (P5 : zP) => (X10 y1 y2 y4 y5 (y6 + 1) I5 P5))))))
theorem gj_X10_behind_58 {κ : zX} (cx : Cx yX10_behind cX10_behind 7 none 2 43 κ) {K : zI → zP → Prop} (hE : zEnd (zKv K) 0 0 κ) {X10 : Int32 → Int32 → Int32 → Int32 → Int32 → zI → zP → Prop} (hX10 : ∀ (y1 : Int32) (y2 : Int32) (y4 : Int32) (y5 : Int32) (y6 : Int32) (I : zI) (P : zP), PSt P → X10 y1 y2 y4 y5 y6 I P → Gx κ 10 [.ref 155, .int y1, .int y2, .float 0, .int y4, .int y5, .int y6] [] SHy I P 0 0) {y1 : Int32} {y2 : Int32} {y4 : Int32} {y5 : Int32} {y6 : Int32} {I : zI} {P : zP} (hP : PSt P) (h : j_X10_behind_58 X10 K y1 y2 y4 y5 y6 I P) : Gx κ 58 [.ref 155, .int y1, .int y2, .float 0, .int y4, .int y5, .int y6] [] SHy I P 0 0 := by
  unfold j_X10_behind_58 at h
  refine g_aload_n cx dX10_behind_58 rfl ?_
  refine g_iload cx dX10_behind_59 rfl ?_
  refine g_iconst cx dX10_behind_61 ic_1 ?_
  refine g_iload_n cx dX10_behind_62 rfl ?_
  refine g_iload_n cx dX10_behind_63 rfl ?_
  refine g_iload cx dX10_behind_64 rfl ?_
  refine g_wVi cx [.int y6, .int 1, .int y1, .int y2, .int y5] [] (e_X10_stands hP h) mt_X10_stands ml_X10_338 rfl rfl rfl dX10_behind_66 rfl rfl (Nat.le_of_ble_eq_true rfl) (Nat.le_of_ble_eq_true rfl) (Nat.le_of_ble_eq_true rfl) (fun v1 I1 P1 hP h => ?_)
  refine g_if_eq cx (tgt := 88) dX10_behind_69 rfl (fun c2 => ?_) (fun c2 => ?_)
  · have h := zifp c2 h
    refine g_iinc cx (v := (y6 + 1)) dX10_behind_88 rfl rfl (Nat.le_of_ble_eq_true rfl) (Gx.L [.ref 155, .int y1, .int y2, .float 0, .int y4, .int y5, .int (y6 + 1)] rfl ?_)
    refine g_goto cx (tgt := 10) dX10_behind_91 rfl ?_
    exact hX10 _ _ _ _ _ _ _ hP h
  · have h := zifn c2 h
    refine g_aload_n cx dX10_behind_72 rfl ?_
    refine g_iload cx dX10_behind_73 rfl ?_
    refine g_iload cx dX10_behind_75 rfl ?_
    refine g_if_eq cx (tgt := 84) dX10_behind_77 rfl (fun c3 => ?_) (fun c3 => ?_)
    · have h := zifp c3 h
      refine g_iconst cx dX10_behind_84 ic_0 ?_
      refine g_wVv cx [.int y6, .int 0] [] (e_X10_tell hP h) mt_X10_tell ml_X10_442 rfl rfl rfl dX10_behind_85 rfl rfl (Nat.le_of_ble_eq_true rfl) (Nat.le_of_ble_eq_true rfl) (Nat.le_of_ble_eq_true rfl) (fun I4 P4 hP h => ?_)
      refine g_iinc cx (v := (y6 + 1)) dX10_behind_88 rfl rfl (Nat.le_of_ble_eq_true rfl) (Gx.L [.ref 155, .int y1, .int y2, .float 0, .int y4, .int y5, .int (y6 + 1)] rfl ?_)
      refine g_goto cx (tgt := 10) dX10_behind_91 rfl ?_
      exact hX10 _ _ _ _ _ _ _ hP h
    · have h := zifn c3 h
      refine g_iconst cx dX10_behind_80 ic_1 ?_
      refine g_goto cx (tgt := 85) dX10_behind_81 rfl ?_
      refine g_wVv cx [.int y6, .int 1] [] (e_X10_tell hP h) mt_X10_tell ml_X10_442 rfl rfl rfl dX10_behind_85 rfl rfl (Nat.le_of_ble_eq_true rfl) (Nat.le_of_ble_eq_true rfl) (Nat.le_of_ble_eq_true rfl) (fun I5 P5 hP h => ?_)
      refine g_iinc cx (v := (y6 + 1)) dX10_behind_88 rfl rfl (Nat.le_of_ble_eq_true rfl) (Gx.L [.ref 155, .int y1, .int y2, .float 0, .int y4, .int y5, .int (y6 + 1)] rfl ?_)
      refine g_goto cx (tgt := 10) dX10_behind_91 rfl ?_
      exact hX10 _ _ _ _ _ _ _ hP h
def j_X10_behind_37 (X10 : Int32 → Int32 → Int32 → Int32 → Int32 → zI → zP → Prop) (K : zI → zP → Prop) (y1 : Int32) (y2 : Int32) (y4 : Int32) (y5 : Int32) (y6 : Int32) (I : zI) (P : zP) : Prop := w_X10_stands y6 7 y1 y2 y5 I P (fun (v1 : Int32) (I1 : zI) (P1 : zP) => (if v1 = 0 then (j_X10_behind_58 X10 K y1 y2 y4 y5 y6 I1 P1) else (w_X10_replace y6 I1 P1 (fun (I3 : zI) (P3 : zP) => (j_X10_behind_58 X10 K y1 y2 y4 y5 y6 I3 P3)))))
theorem gj_X10_behind_37 {κ : zX} (cx : Cx yX10_behind cX10_behind 7 none 2 43 κ) {K : zI → zP → Prop} (hE : zEnd (zKv K) 0 0 κ) {X10 : Int32 → Int32 → Int32 → Int32 → Int32 → zI → zP → Prop} (hX10 : ∀ (y1 : Int32) (y2 : Int32) (y4 : Int32) (y5 : Int32) (y6 : Int32) (I : zI) (P : zP), PSt P → X10 y1 y2 y4 y5 y6 I P → Gx κ 10 [.ref 155, .int y1, .int y2, .float 0, .int y4, .int y5, .int y6] [] SHy I P 0 0) {y1 : Int32} {y2 : Int32} {y4 : Int32} {y5 : Int32} {y6 : Int32} {I : zI} {P : zP} (hP : PSt P) (h : j_X10_behind_37 X10 K y1 y2 y4 y5 y6 I P) : Gx κ 37 [.ref 155, .int y1, .int y2, .float 0, .int y4, .int y5, .int y6] [] SHy I P 0 0 := by
  unfold j_X10_behind_37 at h
  refine g_aload_n cx dX10_behind_37 rfl ?_
  refine g_iload cx dX10_behind_38 rfl ?_
  refine g_bipush cx dX10_behind_40 bp_7 ?_
  refine g_iload_n cx dX10_behind_42 rfl ?_
  refine g_iload_n cx dX10_behind_43 rfl ?_
  refine g_iload cx dX10_behind_44 rfl ?_
  refine g_wVi cx [.int y6, .int 7, .int y1, .int y2, .int y5] [] (e_X10_stands hP h) mt_X10_stands ml_X10_338 rfl rfl rfl dX10_behind_46 rfl rfl (Nat.le_of_ble_eq_true rfl) (Nat.le_of_ble_eq_true rfl) (Nat.le_of_ble_eq_true rfl) (fun v1 I1 P1 hP h => ?_)
  refine g_if_eq cx (tgt := 58) dX10_behind_49 rfl (fun c2 => ?_) (fun c2 => ?_)
  · have h := zifp c2 h
    exact gj_X10_behind_58 cx hE hX10 hP h
  · have h := zifn c2 h
    refine g_aload_n cx dX10_behind_52 rfl ?_
    refine g_iload cx dX10_behind_53 rfl ?_
    refine g_wVv cx [.int y6] [] (e_X10_replace hP h) mt_X10_replace ml_X10_489 rfl rfl rfl dX10_behind_55 rfl rfl (Nat.le_of_ble_eq_true rfl) (Nat.le_of_ble_eq_true rfl) (Nat.le_of_ble_eq_true rfl) (fun I3 P3 hP h => ?_)
    exact gj_X10_behind_58 cx hE hX10 hP h
def l_X10_behind_10 (K : zI → zP → Prop) : Nat → Int32 → Int32 → Int32 → Int32 → Int32 → zI → zP → Prop
  | 0, _, _, _, _, _, _, _ => False
  | n + 1, y1, y2, y4, y5, y6, I, P => if y5 ≤ y6 then (K I P) else (w_X10_stands y6 4 y1 y2 y5 I P (fun (v2 : Int32) (I2 : zI) (P2 : zP) => (if v2 = 0 then (j_X10_behind_37 (l_X10_behind_10 K n) K y1 y2 y4 y5 y6 I2 P2) else (w_X10_tellStore y6 I2 P2 (fun (I4 : zI) (P4 : zP) => (j_X10_behind_37 (l_X10_behind_10 K n) K y1 y2 y4 y5 y6 I4 P4))))))
theorem gl_X10_behind_10 {κ : zX} (cx : Cx yX10_behind cX10_behind 7 none 2 43 κ) {K : zI → zP → Prop} (hE : zEnd (zKv K) 0 0 κ) : ∀ (n : Nat) (y1 : Int32) (y2 : Int32) (y4 : Int32) (y5 : Int32) (y6 : Int32) (I : zI) (P : zP), PSt P → l_X10_behind_10 K n y1 y2 y4 y5 y6 I P → Gx κ 10 [.ref 155, .int y1, .int y2, .float 0, .int y4, .int y5, .int y6] [] SHy I P 0 0 := by
  intro n
  induction n with
  | zero =>
    intro y1 y2 y4 y5 y6 I P hP h
    rw [l_X10_behind_10] at h
    exact False.elim h
  | succ n ih =>
    intro y1 y2 y4 y5 y6 I P hP h
    rw [l_X10_behind_10] at h
    refine g_iload cx dX10_behind_10 rfl ?_
    refine g_iload cx dX10_behind_12 rfl ?_
    refine g_icmp_ge cx (tgt := 94) dX10_behind_14 rfl (fun c1 => ?_) (fun c1 => ?_)
    · have h := zifp c1 h
      exact g_wv cx hE dX10_behind_94 rfl hP h
    · have h := zifn c1 h
      refine g_aload_n cx dX10_behind_17 rfl ?_
      refine g_iload cx dX10_behind_18 rfl ?_
      refine g_iconst cx dX10_behind_20 ic_4 ?_
      refine g_iload_n cx dX10_behind_21 rfl ?_
      refine g_iload_n cx dX10_behind_22 rfl ?_
      refine g_iload cx dX10_behind_23 rfl ?_
      refine g_wVi cx [.int y6, .int 4, .int y1, .int y2, .int y5] [] (e_X10_stands hP h) mt_X10_stands ml_X10_338 rfl rfl rfl dX10_behind_25 rfl rfl (Nat.le_of_ble_eq_true rfl) (Nat.le_of_ble_eq_true rfl) (Nat.le_of_ble_eq_true rfl) (fun v2 I2 P2 hP h => ?_)
      refine g_if_eq cx (tgt := 37) dX10_behind_28 rfl (fun c3 => ?_) (fun c3 => ?_)
      · have h := zifp c3 h
        exact gj_X10_behind_37 cx hE ih hP h
      · have h := zifn c3 h
        refine g_aload_n cx dX10_behind_31 rfl ?_
        refine g_iload cx dX10_behind_32 rfl ?_
        refine g_wVv cx [.int y6] [] (e_X10_tellStore hP h) mt_X10_tellStore ml_X10_486 rfl rfl rfl dX10_behind_34 rfl rfl (Nat.le_of_ble_eq_true rfl) (Nat.le_of_ble_eq_true rfl) (Nat.le_of_ble_eq_true rfl) (fun I4 P4 hP h => ?_)
        exact gj_X10_behind_37 cx hE ih hP h
def w_X10_behind (x1 : Int32) (x2 : Int32) (x3 : Int32) (x4 : Int32) (I : zI) (P : zP) (K : zI → zP → Prop) : Prop := w_X10_watched x1 I P (fun (v1 : Int32) (I1 : zI) (P1 : zP) => (∃ n9, l_X10_behind_10 K n9 x1 x2 x4 v1 0 I1 P1))
theorem e_X10_behind {x1 : Int32} {x2 : Int32} {x3 : Int32} {x4 : Int32} {I : zI} {P : zP} {K : zI → zP → Prop} (hP : PSt P) (h : w_X10_behind x1 x2 x3 x4 I P K) : Ev yX10_behind cX10_behind 7 none 2 43 0 0 [.ref 155, .int x1, .int x2, .int x3, .int x4] SHy I P (zKv K) := by
  refine Ev.start [.ref 155, .int x1, .int x2, .int x3, .int x4, .float 0, .float 0] pn_X10 rfl (Nat.le_of_ble_eq_true rfl) rfl (fun κ cx hE => ?_)
  unfold w_X10_behind at h
  refine g_aload_n cx dX10_behind_0 rfl ?_
  refine g_iload_n cx dX10_behind_1 rfl ?_
  refine g_wVi cx [.int x1] [] (e_X10_watched hP h) mt_X10_watched ml_X10_436 rfl rfl rfl dX10_behind_2 rfl rfl (Nat.le_of_ble_eq_true rfl) (Nat.le_of_ble_eq_true rfl) (Nat.le_of_ble_eq_true rfl) (fun v1 I1 P1 hP h => ?_)
  refine g_istore cx dX10_behind_5 (Nat.le_of_ble_eq_true rfl) (Gx.L [.ref 155, .int x1, .int x2, .int x3, .int x4, .int v1, .float 0] rfl ?_)
  refine g_iconst cx dX10_behind_7 ic_0 ?_
  refine g_istore cx dX10_behind_8 (Nat.le_of_ble_eq_true rfl) (Gx.L [.ref 155, .int x1, .int x2, .int x3, .int x4, .int v1, .int 0] rfl ?_)
  refine (Gx.unset 3 (Gx.L [.ref 155, .int x1, .int x2, .float 0, .int x4, .int v1, .int 0] rfl ?_))
  obtain ⟨n9, h⟩ := h
  exact gl_X10_behind_10 cx hE n9 _ _ _ _ _ _ _ hP h
def l_X10_tellArguments_2 (K : zI → zP → Prop) : Nat → Int32 → Int32 → Int32 → zI → zP → Prop
  | 0, _, _, _, _, _ => False
  | n + 1, y1, y2, y3, I, P => vp_in y2 6 ∧ (if (I 157 ((y2).toNatClampNeg)) ≤ y3 then (vp_in y2 6 ∧ (if (I 157 ((y2).toNatClampNeg)) = 0 then (w_X10_tell y1 0 I P (fun (I5 : zI) (P5 : zP) => (K I5 P5))) else (K I P))) else (vp_in ((12 * ((I 155 54) - 1)) + y3) 144 ∧ (w_X10_tell y1 (I 199 ((((12 * ((I 155 54) - 1)) + y3)).toNatClampNeg)) I P (fun (I7 : zI) (P7 : zP) => ((l_X10_tellArguments_2 K n) y1 y2 (y3 + 1) I7 P7)))))
theorem gl_X10_tellArguments_2 {κ : zX} (cx : Cx yX10_tellArguments cX10_tellArguments 4 none 1 22 κ) {K : zI → zP → Prop} (hE : zEnd (zKv K) 0 0 κ) : ∀ (n : Nat) (y1 : Int32) (y2 : Int32) (y3 : Int32) (I : zI) (P : zP), PSt P → l_X10_tellArguments_2 K n y1 y2 y3 I P → Gx κ 2 [.ref 155, .int y1, .int y2, .int y3] [] SHy I P 0 0 := by
  intro n
  induction n with
  | zero =>
    intro y1 y2 y3 I P hP h
    rw [l_X10_tellArguments_2] at h
    exact False.elim h
  | succ n ih =>
    intro y1 y2 y3 I P hP h
    rw [l_X10_tellArguments_2] at h
    refine g_iload_n cx dX10_tellArguments_2 rfl ?_
    refine g_aload_n cx dX10_tellArguments_3 rfl ?_
    refine g_getR cx lk_X10_17 rfl (Nat.le_of_ble_eq_true rfl) rfl dX10_tellArguments_4 (v := 157) (pst hP 156 rfl) ?_
    refine g_iload_n cx dX10_tellArguments_7 rfl ?_
    obtain ⟨hc1, h⟩ := h
    refine g_iald cx dX10_tellArguments_8 rfl hc1 (x := (I 157 ((y2).toNatClampNeg))) rfl ?_
    refine g_icmp_ge cx (tgt := 39) dX10_tellArguments_9 rfl (fun c2 => ?_) (fun c2 => ?_)
    · have h := zifp c2 h
      refine g_aload_n cx dX10_tellArguments_39 rfl ?_
      refine g_getR cx lk_X10_17 rfl (Nat.le_of_ble_eq_true rfl) rfl dX10_tellArguments_40 (v := 157) (pst hP 156 rfl) ?_
      refine g_iload_n cx dX10_tellArguments_43 rfl ?_
      obtain ⟨hc3, h⟩ := h
      refine g_iald cx dX10_tellArguments_44 rfl hc3 (x := (I 157 ((y2).toNatClampNeg))) rfl ?_
      refine g_if_ne cx (tgt := 54) dX10_tellArguments_45 rfl (fun c4 => ?_) (fun c4 => ?_)
      · have h := zifn c4 h
        exact g_wv cx hE dX10_tellArguments_54 rfl hP h
      · have h := zifp c4 h
        refine g_aload_n cx dX10_tellArguments_48 rfl ?_
        refine g_iload_n cx dX10_tellArguments_49 rfl ?_
        refine g_iconst cx dX10_tellArguments_50 ic_0 ?_
        refine g_wVv cx [.int y1, .int 0] [] (e_X10_tell hP h) mt_X10_tell ml_X10_442 rfl rfl rfl dX10_tellArguments_51 rfl rfl (Nat.le_of_ble_eq_true rfl) (Nat.le_of_ble_eq_true rfl) (Nat.le_of_ble_eq_true rfl) (fun I5 P5 hP h => ?_)
        exact g_wv cx hE dX10_tellArguments_54 rfl hP h
    · have h := zifn c2 h
      refine g_aload_n cx dX10_tellArguments_12 rfl ?_
      refine g_iload_n cx dX10_tellArguments_13 rfl ?_
      refine g_aload_n cx dX10_tellArguments_14 rfl ?_
      refine g_getR cx lk_X10_144 rfl (Nat.le_of_ble_eq_true rfl) rfl dX10_tellArguments_15 (v := 199) (pst hP 198 rfl) ?_
      refine g_bipush cx dX10_tellArguments_18 bp_12 ?_
      refine g_aload_n cx dX10_tellArguments_20 rfl ?_
      refine g_getI cx lk_X10_415 rfl (Nat.le_of_ble_eq_true rfl) rfl dX10_tellArguments_21 (x := (I 155 54)) rfl ?_
      refine g_iconst cx dX10_tellArguments_24 ic_1 ?_
      refine g_isub cx dX10_tellArguments_25 ?_
      refine g_imul cx dX10_tellArguments_26 ?_
      refine g_iload_n cx dX10_tellArguments_27 rfl ?_
      refine g_iadd cx dX10_tellArguments_28 ?_
      obtain ⟨hc6, h⟩ := h
      refine g_iald cx dX10_tellArguments_29 rfl hc6 (x := (I 199 ((((12 * ((I 155 54) - 1)) + y3)).toNatClampNeg))) rfl ?_
      refine g_wVv cx [.int y1, .int (I 199 ((((12 * ((I 155 54) - 1)) + y3)).toNatClampNeg))] [] (e_X10_tell hP h) mt_X10_tell ml_X10_442 rfl rfl rfl dX10_tellArguments_30 rfl rfl (Nat.le_of_ble_eq_true rfl) (Nat.le_of_ble_eq_true rfl) (Nat.le_of_ble_eq_true rfl) (fun I7 P7 hP h => ?_)
      refine g_iinc cx (v := (y3 + 1)) dX10_tellArguments_33 rfl rfl (Nat.le_of_ble_eq_true rfl) (Gx.L [.ref 155, .int y1, .int y2, .int (y3 + 1)] rfl ?_)
      refine g_goto cx (tgt := 2) dX10_tellArguments_36 rfl ?_
      exact ih _ _ _ _ _ hP h
def w_X10_tellArguments (x1 : Int32) (x2 : Int32) (I : zI) (P : zP) (K : zI → zP → Prop) : Prop := ∃ n9, l_X10_tellArguments_2 K n9 x1 x2 0 I P
theorem e_X10_tellArguments {x1 : Int32} {x2 : Int32} {I : zI} {P : zP} {K : zI → zP → Prop} (hP : PSt P) (h : w_X10_tellArguments x1 x2 I P K) : Ev yX10_tellArguments cX10_tellArguments 4 none 1 22 0 0 [.ref 155, .int x1, .int x2] SHy I P (zKv K) := by
  refine Ev.start [.ref 155, .int x1, .int x2, .float 0] pn_X10 rfl (Nat.le_of_ble_eq_true rfl) rfl (fun κ cx hE => ?_)
  unfold w_X10_tellArguments at h
  refine g_iconst cx dX10_tellArguments_0 ic_0 ?_
  refine g_istore_n cx dX10_tellArguments_1 (Nat.le_of_ble_eq_true rfl) (Gx.L [.ref 155, .int x1, .int x2, .int 0] rfl ?_)
  obtain ⟨n9, h⟩ := h
  exact gl_X10_tellArguments_2 cx hE n9 _ _ _ _ _ hP h
def l_X10_enters_2 (K : zI → zP → Prop) : Nat → Int32 → Int32 → zI → zP → Prop
  | 0, _, _, _, _ => False
  | n + 1, y1, y2, I, P => w_X10_watched y1 I P (fun (v1 : Int32) (I1 : zI) (P1 : zP) => (if v1 ≤ y2 then (K I1 P1) else (w_X10_stands y2 2 y1 0 (I1 155 17) I1 P1 (fun (v3 : Int32) (I3 : zI) (P3 : zP) => (if v3 = 0 then ((l_X10_enters_2 K n) y1 (y2 + 1) I3 P3) else (w_X10_tellArguments y2 y1 I3 P3 (fun (I5 : zI) (P5 : zP) => ((l_X10_enters_2 K n) y1 (y2 + 1) I5 P5))))))))
theorem gl_X10_enters_2 {κ : zX} (cx : Cx yX10_enters cX10_enters 3 none 2 45 κ) {K : zI → zP → Prop} (hE : zEnd (zKv K) 0 0 κ) : ∀ (n : Nat) (y1 : Int32) (y2 : Int32) (I : zI) (P : zP), PSt P → l_X10_enters_2 K n y1 y2 I P → Gx κ 2 [.ref 155, .int y1, .int y2] [] SHy I P 0 0 := by
  intro n
  induction n with
  | zero =>
    intro y1 y2 I P hP h
    rw [l_X10_enters_2] at h
    exact False.elim h
  | succ n ih =>
    intro y1 y2 I P hP h
    rw [l_X10_enters_2] at h
    refine g_iload_n cx dX10_enters_2 rfl ?_
    refine g_aload_n cx dX10_enters_3 rfl ?_
    refine g_iload_n cx dX10_enters_4 rfl ?_
    refine g_wVi cx [.int y1] [.int y2] (e_X10_watched hP h) mt_X10_watched ml_X10_436 rfl rfl rfl dX10_enters_5 rfl rfl (Nat.le_of_ble_eq_true rfl) (Nat.le_of_ble_eq_true rfl) (Nat.le_of_ble_eq_true rfl) (fun v1 I1 P1 hP h => ?_)
    refine g_icmp_ge cx (tgt := 38) dX10_enters_8 rfl (fun c2 => ?_) (fun c2 => ?_)
    · have h := zifp c2 h
      exact g_wv cx hE dX10_enters_38 rfl hP h
    · have h := zifn c2 h
      refine g_aload_n cx dX10_enters_11 rfl ?_
      refine g_iload_n cx dX10_enters_12 rfl ?_
      refine g_iconst cx dX10_enters_13 ic_2 ?_
      refine g_iload_n cx dX10_enters_14 rfl ?_
      refine g_iconst cx dX10_enters_15 ic_0 ?_
      refine g_aload_n cx dX10_enters_16 rfl ?_
      refine g_getI cx lk_X10_335 rfl (Nat.le_of_ble_eq_true rfl) rfl dX10_enters_17 (x := (I1 155 17)) rfl ?_
      refine g_wVi cx [.int y2, .int 2, .int y1, .int 0, .int (I1 155 17)] [] (e_X10_stands hP h) mt_X10_stands ml_X10_338 rfl rfl rfl dX10_enters_20 rfl rfl (Nat.le_of_ble_eq_true rfl) (Nat.le_of_ble_eq_true rfl) (Nat.le_of_ble_eq_true rfl) (fun v3 I3 P3 hP h => ?_)
      refine g_if_eq cx (tgt := 32) dX10_enters_23 rfl (fun c4 => ?_) (fun c4 => ?_)
      · have h := zifp c4 h
        refine g_iinc cx (v := (y2 + 1)) dX10_enters_32 rfl rfl (Nat.le_of_ble_eq_true rfl) (Gx.L [.ref 155, .int y1, .int (y2 + 1)] rfl ?_)
        refine g_goto cx (tgt := 2) dX10_enters_35 rfl ?_
        exact ih _ _ _ _ hP h
      · have h := zifn c4 h
        refine g_aload_n cx dX10_enters_26 rfl ?_
        refine g_iload_n cx dX10_enters_27 rfl ?_
        refine g_iload_n cx dX10_enters_28 rfl ?_
        refine g_wVv cx [.int y2, .int y1] [] (e_X10_tellArguments hP h) mt_X10_tellArguments ml_X10_439 rfl rfl rfl dX10_enters_29 rfl rfl (Nat.le_of_ble_eq_true rfl) (Nat.le_of_ble_eq_true rfl) (Nat.le_of_ble_eq_true rfl) (fun I5 P5 hP h => ?_)
        refine g_iinc cx (v := (y2 + 1)) dX10_enters_32 rfl rfl (Nat.le_of_ble_eq_true rfl) (Gx.L [.ref 155, .int y1, .int (y2 + 1)] rfl ?_)
        refine g_goto cx (tgt := 2) dX10_enters_35 rfl ?_
        exact ih _ _ _ _ hP h
def w_X10_enters (x1 : Int32) (I : zI) (P : zP) (K : zI → zP → Prop) : Prop := ∃ n9, l_X10_enters_2 K n9 x1 0 I P
theorem e_X10_enters {x1 : Int32} {I : zI} {P : zP} {K : zI → zP → Prop} (hP : PSt P) (h : w_X10_enters x1 I P K) : Ev yX10_enters cX10_enters 3 none 2 45 0 0 [.ref 155, .int x1] SHy I P (zKv K) := by
  refine Ev.start [.ref 155, .int x1, .float 0] pn_X10 rfl (Nat.le_of_ble_eq_true rfl) rfl (fun κ cx hE => ?_)
  unfold w_X10_enters at h
  refine g_iconst cx dX10_enters_0 ic_0 ?_
  refine g_istore_n cx dX10_enters_1 (Nat.le_of_ble_eq_true rfl) (Gx.L [.ref 155, .int x1, .int 0] rfl ?_)
  obtain ⟨n9, h⟩ := h
  exact gl_X10_enters_2 cx hE n9 _ _ _ _ hP h
def l_X10_frame_32 (K : zI → zP → Prop) : Nat → Int32 → zI → zP → Prop
  | 0, _, _, _ => False
  | n + 1, y2, I, P => if 12 ≤ y2 then (if ((I 155 54) + 1) ≤ (I 155 55) then (K (zu (zu I 155 54 ((I 155 54) + 1)) 155 55 (I 155 55)) P) else (K (zu (zu I 155 54 ((I 155 54) + 1)) 155 55 ((I 155 54) + 1)) P)) else (vp_in ((12 * (I 155 54)) + y2) 144 ∧ ((l_X10_frame_32 K n) (y2 + 1) (zu I 199 ((((12 * (I 155 54)) + y2)).toNatClampNeg) 0) P))
theorem gl_X10_frame_32 {κ : zX} (cx : Cx yX10_frame cX10_frame 3 none 0 0 κ) {K : zI → zP → Prop} (hE : zEnd (zKv K) 0 0 κ) : ∀ (n : Nat) (y2 : Int32) (I : zI) (P : zP), PSt P → l_X10_frame_32 K n y2 I P → Gx κ 32 [.ref 155, .float 0, .int y2] [] SHy I P 0 0 := by
  intro n
  induction n with
  | zero =>
    intro y2 I P hP h
    rw [l_X10_frame_32] at h
    exact False.elim h
  | succ n ih =>
    intro y2 I P hP h
    rw [l_X10_frame_32] at h
    refine g_iload_n cx dX10_frame_32 rfl ?_
    refine g_bipush cx dX10_frame_33 bp_12 ?_
    refine g_icmp_ge cx (tgt := 59) dX10_frame_35 rfl (fun c1 => ?_) (fun c1 => ?_)
    · have h := zifp c1 h
      refine g_aload_n cx dX10_frame_59 rfl ?_
      refine g_dup cx dX10_frame_60 rfl ?_
      refine g_getI cx lk_X10_415 rfl (Nat.le_of_ble_eq_true rfl) rfl dX10_frame_61 (x := (I 155 54)) rfl ?_
      refine g_iconst cx dX10_frame_64 ic_1 ?_
      refine g_iadd cx dX10_frame_65 ?_
      refine g_pI cx lk_X10_415 rfl (Nat.le_of_ble_eq_true rfl) rfl dX10_frame_66 fi_10_54 rfl rfl ?_
      refine g_aload_n cx dX10_frame_69 rfl ?_
      refine g_aload_n cx dX10_frame_70 rfl ?_
      refine g_getI cx lk_X10_415 rfl (Nat.le_of_ble_eq_true rfl) rfl dX10_frame_71 (x := ((I 155 54) + 1)) rfl ?_
      refine g_aload_n cx dX10_frame_74 rfl ?_
      refine g_getI cx lk_X10_418 rfl (Nat.le_of_ble_eq_true rfl) rfl dX10_frame_75 (x := (I 155 55)) rfl ?_
      refine g_icmp_le cx (tgt := 88) dX10_frame_78 rfl (fun c2 => ?_) (fun c2 => ?_)
      · have h := zifp c2 h
        refine g_aload_n cx dX10_frame_88 rfl ?_
        refine g_getI cx lk_X10_418 rfl (Nat.le_of_ble_eq_true rfl) rfl dX10_frame_89 (x := (I 155 55)) rfl ?_
        refine g_pI cx lk_X10_418 rfl (Nat.le_of_ble_eq_true rfl) rfl dX10_frame_92 fi_10_55 rfl rfl ?_
        exact g_wv cx hE dX10_frame_95 rfl hP h
      · have h := zifn c2 h
        refine g_aload_n cx dX10_frame_81 rfl ?_
        refine g_getI cx lk_X10_415 rfl (Nat.le_of_ble_eq_true rfl) rfl dX10_frame_82 (x := ((I 155 54) + 1)) rfl ?_
        refine g_goto cx (tgt := 92) dX10_frame_85 rfl ?_
        refine g_pI cx lk_X10_418 rfl (Nat.le_of_ble_eq_true rfl) rfl dX10_frame_92 fi_10_55 rfl rfl ?_
        exact g_wv cx hE dX10_frame_95 rfl hP h
    · have h := zifn c1 h
      refine g_aload_n cx dX10_frame_38 rfl ?_
      refine g_getR cx lk_X10_144 rfl (Nat.le_of_ble_eq_true rfl) rfl dX10_frame_39 (v := 199) (pst hP 198 rfl) ?_
      refine g_bipush cx dX10_frame_42 bp_12 ?_
      refine g_aload_n cx dX10_frame_44 rfl ?_
      refine g_getI cx lk_X10_415 rfl (Nat.le_of_ble_eq_true rfl) rfl dX10_frame_45 (x := (I 155 54)) rfl ?_
      refine g_imul cx dX10_frame_48 ?_
      refine g_iload_n cx dX10_frame_49 rfl ?_
      refine g_iadd cx dX10_frame_50 ?_
      refine g_iconst cx dX10_frame_51 ic_0 ?_
      obtain ⟨hc3, h⟩ := h
      refine g_iast cx dX10_frame_52 rfl hc3 ?_
      refine g_iinc cx (v := (y2 + 1)) dX10_frame_53 rfl rfl (Nat.le_of_ble_eq_true rfl) (Gx.L [.ref 155, .float 0, .int (y2 + 1)] rfl ?_)
      refine g_goto cx (tgt := 32) dX10_frame_56 rfl ?_
      exact ih _ _ _ hP h
def w_X10_frame (x1 : Int32) (I : zI) (P : zP) (K : zI → zP → Prop) : Prop := vp_in (I 155 54) 12 ∧ (vp_in ((zu I 196 (((I 155 54)).toNatClampNeg) x1) 155 54) 12 ∧ (vp_in ((zu (zu I 196 (((I 155 54)).toNatClampNeg) x1) 197 ((((zu I 196 (((I 155 54)).toNatClampNeg) x1) 155 54)).toNatClampNeg) 0) 155 54) 12 ∧ (∃ n9, l_X10_frame_32 K n9 0 (zu (zu (zu I 196 (((I 155 54)).toNatClampNeg) x1) 197 ((((zu I 196 (((I 155 54)).toNatClampNeg) x1) 155 54)).toNatClampNeg) 0) 198 ((((zu (zu I 196 (((I 155 54)).toNatClampNeg) x1) 197 ((((zu I 196 (((I 155 54)).toNatClampNeg) x1) 155 54)).toNatClampNeg) 0) 155 54)).toNatClampNeg) 0) P)))
theorem e_X10_frame {x1 : Int32} {I : zI} {P : zP} {K : zI → zP → Prop} (hP : PSt P) (h : w_X10_frame x1 I P K) : Ev yX10_frame cX10_frame 3 none 0 0 0 0 [.ref 155, .int x1] SHy I P (zKv K) := by
  refine Ev.start [.ref 155, .int x1, .float 0] pn_X10 rfl (Nat.le_of_ble_eq_true rfl) rfl (fun κ cx hE => ?_)
  unfold w_X10_frame at h
  refine g_aload_n cx dX10_frame_0 rfl ?_
  refine g_getR cx lk_X10_135 rfl (Nat.le_of_ble_eq_true rfl) rfl dX10_frame_1 (v := 196) (pst hP 195 rfl) ?_
  refine g_aload_n cx dX10_frame_4 rfl ?_
  refine g_getI cx lk_X10_415 rfl (Nat.le_of_ble_eq_true rfl) rfl dX10_frame_5 (x := (I 155 54)) rfl ?_
  refine g_iload_n cx dX10_frame_8 rfl ?_
  obtain ⟨hc1, h⟩ := h
  refine g_iast cx dX10_frame_9 rfl hc1 ?_
  refine g_aload_n cx dX10_frame_10 rfl ?_
  refine g_getR cx lk_X10_138 rfl (Nat.le_of_ble_eq_true rfl) rfl dX10_frame_11 (v := 197) (pst hP 196 rfl) ?_
  refine g_aload_n cx dX10_frame_14 rfl ?_
  refine g_getI cx lk_X10_415 rfl (Nat.le_of_ble_eq_true rfl) rfl dX10_frame_15 (x := ((zu I 196 (((I 155 54)).toNatClampNeg) x1) 155 54)) rfl ?_
  refine g_iconst cx dX10_frame_18 ic_0 ?_
  obtain ⟨hc2, h⟩ := h
  refine g_iast cx dX10_frame_19 rfl hc2 ?_
  refine g_aload_n cx dX10_frame_20 rfl ?_
  refine g_getR cx lk_X10_141 rfl (Nat.le_of_ble_eq_true rfl) rfl dX10_frame_21 (v := 198) (pst hP 197 rfl) ?_
  refine g_aload_n cx dX10_frame_24 rfl ?_
  refine g_getI cx lk_X10_415 rfl (Nat.le_of_ble_eq_true rfl) rfl dX10_frame_25 (x := ((zu (zu I 196 (((I 155 54)).toNatClampNeg) x1) 197 ((((zu I 196 (((I 155 54)).toNatClampNeg) x1) 155 54)).toNatClampNeg) 0) 155 54)) rfl ?_
  refine g_iconst cx dX10_frame_28 ic_0 ?_
  obtain ⟨hc3, h⟩ := h
  refine g_iast cx dX10_frame_29 rfl hc3 ?_
  refine g_iconst cx dX10_frame_30 ic_0 ?_
  refine g_istore_n cx dX10_frame_31 (Nat.le_of_ble_eq_true rfl) (Gx.L [.ref 155, .int x1, .int 0] rfl ?_)
  refine (Gx.unset 1 (Gx.L [.ref 155, .float 0, .int 0] rfl ?_))
  obtain ⟨n9, h⟩ := h
  exact gl_X10_frame_32 cx hE n9 _ _ _ hP h
def l_X10_call_48 (K : zI → zP → Prop) : Nat → Int32 → Int32 → Int32 → Int32 → zI → zP → Prop
  | 0, _, _, _, _, _, _ => False
  | n + 1, y1, y2, y3, y4, I, P => if y2 ≤ y4 then (w_X10_enters y1 I P (fun (I2 : zI) (P2 : zP) => (K I2 P2))) else (vp_in y3 12 ∧ (vp_in (((12 * y3) + (I 198 ((y3).toNatClampNeg))) + y4) 144 ∧ (vp_in ((12 * (y3 + 1)) + y4) 144 ∧ ((l_X10_call_48 K n) y1 y2 y3 (y4 + 1) (zu I 199 ((((12 * (y3 + 1)) + y4)).toNatClampNeg) (I 200 (((((12 * y3) + (I 198 ((y3).toNatClampNeg))) + y4)).toNatClampNeg))) P))))
theorem gl_X10_call_48 {κ : zX} (cx : Cx yX10_call cX10_call 5 none 3 67 κ) {K : zI → zP → Prop} (hE : zEnd (zKv K) 0 0 κ) : ∀ (n : Nat) (y1 : Int32) (y2 : Int32) (y3 : Int32) (y4 : Int32) (I : zI) (P : zP), PSt P → l_X10_call_48 K n y1 y2 y3 y4 I P → Gx κ 48 [.ref 155, .int y1, .int y2, .int y3, .int y4] [] SHy I P 0 0 := by
  intro n
  induction n with
  | zero =>
    intro y1 y2 y3 y4 I P hP h
    rw [l_X10_call_48] at h
    exact False.elim h
  | succ n ih =>
    intro y1 y2 y3 y4 I P hP h
    rw [l_X10_call_48] at h
    refine g_iload cx dX10_call_48 rfl ?_
    refine g_iload_n cx dX10_call_50 rfl ?_
    refine g_icmp_ge cx (tgt := 93) dX10_call_51 rfl (fun c1 => ?_) (fun c1 => ?_)
    · have h := zifp c1 h
      refine g_aload_n cx dX10_call_93 rfl ?_
      refine g_iload_n cx dX10_call_94 rfl ?_
      refine g_wVv cx [.int y1] [] (e_X10_enters hP h) mt_X10_enters ml_X10_400 rfl rfl rfl dX10_call_95 rfl rfl (Nat.le_of_ble_eq_true rfl) (Nat.le_of_ble_eq_true rfl) (Nat.le_of_ble_eq_true rfl) (fun I2 P2 hP h => ?_)
      exact g_wv cx hE dX10_call_98 rfl hP h
    · have h := zifn c1 h
      refine g_aload_n cx dX10_call_54 rfl ?_
      refine g_getR cx lk_X10_144 rfl (Nat.le_of_ble_eq_true rfl) rfl dX10_call_55 (v := 199) (pst hP 198 rfl) ?_
      refine g_bipush cx dX10_call_58 bp_12 ?_
      refine g_iload_n cx dX10_call_60 rfl ?_
      refine g_iconst cx dX10_call_61 ic_1 ?_
      refine g_iadd cx dX10_call_62 ?_
      refine g_imul cx dX10_call_63 ?_
      refine g_iload cx dX10_call_64 rfl ?_
      refine g_iadd cx dX10_call_66 ?_
      refine g_aload_n cx dX10_call_67 rfl ?_
      refine g_getR cx lk_X10_147 rfl (Nat.le_of_ble_eq_true rfl) rfl dX10_call_68 (v := 200) (pst hP 199 rfl) ?_
      refine g_bipush cx dX10_call_71 bp_12 ?_
      refine g_iload_n cx dX10_call_73 rfl ?_
      refine g_imul cx dX10_call_74 ?_
      refine g_aload_n cx dX10_call_75 rfl ?_
      refine g_getR cx lk_X10_141 rfl (Nat.le_of_ble_eq_true rfl) rfl dX10_call_76 (v := 198) (pst hP 197 rfl) ?_
      refine g_iload_n cx dX10_call_79 rfl ?_
      obtain ⟨hc3, h⟩ := h
      refine g_iald cx dX10_call_80 rfl hc3 (x := (I 198 ((y3).toNatClampNeg))) rfl ?_
      refine g_iadd cx dX10_call_81 ?_
      refine g_iload cx dX10_call_82 rfl ?_
      refine g_iadd cx dX10_call_84 ?_
      obtain ⟨hc4, h⟩ := h
      refine g_iald cx dX10_call_85 rfl hc4 (x := (I 200 (((((12 * y3) + (I 198 ((y3).toNatClampNeg))) + y4)).toNatClampNeg))) rfl ?_
      obtain ⟨hc5, h⟩ := h
      refine g_iast cx dX10_call_86 rfl hc5 ?_
      refine g_iinc cx (v := (y4 + 1)) dX10_call_87 rfl rfl (Nat.le_of_ble_eq_true rfl) (Gx.L [.ref 155, .int y1, .int y2, .int y3, .int (y4 + 1)] rfl ?_)
      refine Gx.N 90 rfl ?_
      refine g_goto cx (tgt := 48) dX10_call_90 rfl ?_
      exact ih _ _ _ _ _ _ hP h
def w_X10_call (x1 : Int32) (I : zI) (P : zP) (K : zI → zP → Prop) : Prop := if (I 155 54) = 12 then (K (zu I 155 65 105) P) else (vp_in x1 6 ∧ (vp_in ((I 155 54) - 1) 12 ∧ (vp_in ((I 155 54) - 1) 12 ∧ (w_X10_frame x1 (zu I 198 ((((I 155 54) - 1)).toNatClampNeg) ((I 198 ((((I 155 54) - 1)).toNatClampNeg)) - (I 157 ((x1).toNatClampNeg)))) P (fun (I5 : zI) (P5 : zP) => (∃ n9, l_X10_call_48 K n9 x1 (I 157 ((x1).toNatClampNeg)) ((I 155 54) - 1) 0 I5 P5))))))
theorem e_X10_call {x1 : Int32} {I : zI} {P : zP} {K : zI → zP → Prop} (hP : PSt P) (h : w_X10_call x1 I P K) : Ev yX10_call cX10_call 5 none 3 67 0 0 [.ref 155, .int x1] SHy I P (zKv K) := by
  refine Ev.start [.ref 155, .int x1, .float 0, .float 0, .float 0] pn_X10 rfl (Nat.le_of_ble_eq_true rfl) rfl (fun κ cx hE => ?_)
  unfold w_X10_call at h
  refine g_aload_n cx dX10_call_0 rfl ?_
  refine g_getI cx lk_X10_415 rfl (Nat.le_of_ble_eq_true rfl) rfl dX10_call_1 (x := (I 155 54)) rfl ?_
  refine g_bipush cx dX10_call_4 bp_12 ?_
  refine g_icmp_ne cx (tgt := 16) dX10_call_6 rfl (fun c1 => ?_) (fun c1 => ?_)
  · have h := zifn c1 h
    refine g_aload_n cx dX10_call_16 rfl ?_
    refine g_getR cx lk_X10_17 rfl (Nat.le_of_ble_eq_true rfl) rfl dX10_call_17 (v := 157) (pst hP 156 rfl) ?_
    refine g_iload_n cx dX10_call_20 rfl ?_
    obtain ⟨hc2, h⟩ := h
    refine g_iald cx dX10_call_21 rfl hc2 (x := (I 157 ((x1).toNatClampNeg))) rfl ?_
    refine g_istore_n cx dX10_call_22 (Nat.le_of_ble_eq_true rfl) (Gx.L [.ref 155, .int x1, .int (I 157 ((x1).toNatClampNeg)), .float 0, .float 0] rfl ?_)
    refine g_aload_n cx dX10_call_23 rfl ?_
    refine g_getI cx lk_X10_415 rfl (Nat.le_of_ble_eq_true rfl) rfl dX10_call_24 (x := (I 155 54)) rfl ?_
    refine g_iconst cx dX10_call_27 ic_1 ?_
    refine g_isub cx dX10_call_28 ?_
    refine g_istore_n cx dX10_call_29 (Nat.le_of_ble_eq_true rfl) (Gx.L [.ref 155, .int x1, .int (I 157 ((x1).toNatClampNeg)), .int ((I 155 54) - 1), .float 0] rfl ?_)
    refine g_aload_n cx dX10_call_30 rfl ?_
    refine g_getR cx lk_X10_141 rfl (Nat.le_of_ble_eq_true rfl) rfl dX10_call_31 (v := 198) (pst hP 197 rfl) ?_
    refine g_iload_n cx dX10_call_34 rfl ?_
    refine g_dup2 cx dX10_call_35 rfl rfl ?_
    obtain ⟨hc3, h⟩ := h
    refine g_iald cx dX10_call_36 rfl hc3 (x := (I 198 ((((I 155 54) - 1)).toNatClampNeg))) rfl ?_
    refine g_iload_n cx dX10_call_37 rfl ?_
    refine g_isub cx dX10_call_38 ?_
    obtain ⟨hc4, h⟩ := h
    refine g_iast cx dX10_call_39 rfl hc4 ?_
    refine g_aload_n cx dX10_call_40 rfl ?_
    refine g_iload_n cx dX10_call_41 rfl ?_
    refine g_wVv cx [.int x1] [] (e_X10_frame hP h) mt_X10_frame ml_X10_397 rfl rfl rfl dX10_call_42 rfl rfl (Nat.le_of_ble_eq_true rfl) (Nat.le_of_ble_eq_true rfl) (Nat.le_of_ble_eq_true rfl) (fun I5 P5 hP h => ?_)
    refine g_iconst cx dX10_call_45 ic_0 ?_
    refine g_istore cx dX10_call_46 (Nat.le_of_ble_eq_true rfl) (Gx.L [.ref 155, .int x1, .int (I 157 ((x1).toNatClampNeg)), .int ((I 155 54) - 1), .int 0] rfl ?_)
    obtain ⟨n9, h⟩ := h
    exact gl_X10_call_48 cx hE n9 _ _ _ _ _ _ hP h
  · have h := zifp c1 h
    refine g_aload_n cx dX10_call_9 rfl ?_
    refine g_bipush cx dX10_call_10 bp_105 ?_
    refine g_pI cx lk_X10_424 rfl (Nat.le_of_ble_eq_true rfl) rfl dX10_call_12 fi_10_65 rfl rfl ?_
    exact g_wv cx hE dX10_call_15 rfl hP h
def l_X10_clear_12 (K : Int32 → zI → zP → Prop) : Nat → Int32 → Int32 → zI → zP → Prop
  | 0, _, _, _, _ => False
  | n + 1, y1, y2, I, P => if 6 ≤ y2 then (K y1 I P) else (vp_in y2 6 ∧ ((l_X10_clear_12 K n) y1 (y2 + 1) (zu I 175 ((y2).toNatClampNeg) (-1)) P))
theorem gl_X10_clear_12 {κ : zX} (cx : Cx yX10_clear cX10_clear 3 (some .int) 0 0 κ) {K : Int32 → zI → zP → Prop} (hE : zEnd (zKi K) 0 0 κ) : ∀ (n : Nat) (y1 : Int32) (y2 : Int32) (I : zI) (P : zP), PSt P → l_X10_clear_12 K n y1 y2 I P → Gx κ 12 [.ref 155, .int y1, .int y2] [] SHy I P 0 0 := by
  intro n
  induction n with
  | zero =>
    intro y1 y2 I P hP h
    rw [l_X10_clear_12] at h
    exact False.elim h
  | succ n ih =>
    intro y1 y2 I P hP h
    rw [l_X10_clear_12] at h
    refine g_iload_n cx dX10_clear_12 rfl ?_
    refine g_bipush cx dX10_clear_13 bp_6 ?_
    refine g_icmp_ge cx (tgt := 31) dX10_clear_15 rfl (fun c1 => ?_) (fun c1 => ?_)
    · have h := zifp c1 h
      refine g_iload_n cx dX10_clear_31 rfl ?_
      exact g_wi cx hE dX10_clear_32 rfl rfl hP h
    · have h := zifn c1 h
      refine g_aload_n cx dX10_clear_18 rfl ?_
      refine g_getR cx lk_X10_72 rfl (Nat.le_of_ble_eq_true rfl) rfl dX10_clear_19 (v := 175) (pst hP 174 rfl) ?_
      refine g_iload_n cx dX10_clear_22 rfl ?_
      refine g_iconst cx dX10_clear_23 ic_m1 ?_
      obtain ⟨hc2, h⟩ := h
      refine g_iast cx dX10_clear_24 rfl hc2 ?_
      refine g_iinc cx (v := (y2 + 1)) dX10_clear_25 rfl rfl (Nat.le_of_ble_eq_true rfl) (Gx.L [.ref 155, .int y1, .int (y2 + 1)] rfl ?_)
      refine g_goto cx (tgt := 12) dX10_clear_28 rfl ?_
      exact ih _ _ _ _ hP h
def w_X10_clear (I : zI) (P : zP) (K : Int32 → zI → zP → Prop) : Prop := ∃ n9, l_X10_clear_12 K n9 (I 155 17) 0 (zu I 155 17 0) P
theorem e_X10_clear {I : zI} {P : zP} {K : Int32 → zI → zP → Prop} (hP : PSt P) (h : w_X10_clear I P K) : Ev yX10_clear cX10_clear 3 (some .int) 0 0 0 0 [.ref 155] SHy I P (zKi K) := by
  refine Ev.start [.ref 155, .float 0, .float 0] pn_X10 rfl (Nat.le_of_ble_eq_true rfl) rfl (fun κ cx hE => ?_)
  unfold w_X10_clear at h
  refine g_aload_n cx dX10_clear_0 rfl ?_
  refine g_getI cx lk_X10_335 rfl (Nat.le_of_ble_eq_true rfl) rfl dX10_clear_1 (x := (I 155 17)) rfl ?_
  refine g_istore_n cx dX10_clear_4 (Nat.le_of_ble_eq_true rfl) (Gx.L [.ref 155, .int (I 155 17), .float 0] rfl ?_)
  refine g_aload_n cx dX10_clear_5 rfl ?_
  refine g_iconst cx dX10_clear_6 ic_0 ?_
  refine g_pI cx lk_X10_335 rfl (Nat.le_of_ble_eq_true rfl) rfl dX10_clear_7 fi_10_17 rfl rfl ?_
  refine g_iconst cx dX10_clear_10 ic_0 ?_
  refine g_istore_n cx dX10_clear_11 (Nat.le_of_ble_eq_true rfl) (Gx.L [.ref 155, .int (I 155 17), .int 0] rfl ?_)
  obtain ⟨n9, h⟩ := h
  exact gl_X10_clear_12 cx hE n9 _ _ _ _ hP h
def l_X10_comes_210 (K : zI → zP → Prop) : Nat → Int32 → Int32 → zI → zP → Prop
  | 0, _, _, _, _ => False
  | n + 1, y3, y4, I, P => if 12 ≤ y4 then (K I P) else (vp_in ((12 * y3) + y4) 28800 ∧ (vp_in y4 12 ∧ (if (I 168 ((((12 * y3) + y4)).toNatClampNeg)) = (I 187 ((y4).toNatClampNeg)) then ((l_X10_comes_210 K n) y3 (y4 + 1) I P) else (vp_in ((12 * y3) + y4) 28800 ∧ (if (I 168 ((((12 * y3) + y4)).toNatClampNeg)) = 0 then ((l_X10_comes_210 K n) y3 (y4 + 1) I P) else (vp_in ((12 * y3) + y4) 28800 ∧ ((l_X10_comes_210 K n) y3 (y4 + 1) (zu (zu I 168 ((((12 * y3) + y4)).toNatClampNeg) 0) 155 39 1) P)))))))
theorem gl_X10_comes_210 {κ : zX} (cx : Cx yX10_comes cX10_comes 5 none 0 0 κ) {K : zI → zP → Prop} (hE : zEnd (zKv K) 0 0 κ) : ∀ (n : Nat) (y3 : Int32) (y4 : Int32) (I : zI) (P : zP), PSt P → l_X10_comes_210 K n y3 y4 I P → Gx κ 210 [.ref 155, .float 0, .float 0, .int y3, .int y4] [] SHy I P 0 0 := by
  intro n
  induction n with
  | zero =>
    intro y3 y4 I P hP h
    rw [l_X10_comes_210] at h
    exact False.elim h
  | succ n ih =>
    intro y3 y4 I P hP h
    rw [l_X10_comes_210] at h
    refine g_iload cx dX10_comes_210 rfl ?_
    refine g_bipush cx dX10_comes_212 bp_12 ?_
    refine g_icmp_ge cx (tgt := 278) dX10_comes_214 rfl (fun c1 => ?_) (fun c1 => ?_)
    · have h := zifp c1 h
      exact g_wv cx hE dX10_comes_278 rfl hP h
    · have h := zifn c1 h
      refine g_aload_n cx dX10_comes_217 rfl ?_
      refine g_getR cx lk_X10_51 rfl (Nat.le_of_ble_eq_true rfl) rfl dX10_comes_218 (v := 168) (pst hP 167 rfl) ?_
      refine g_bipush cx dX10_comes_221 bp_12 ?_
      refine g_iload_n cx dX10_comes_223 rfl ?_
      refine g_imul cx dX10_comes_224 ?_
      refine g_iload cx dX10_comes_225 rfl ?_
      refine g_iadd cx dX10_comes_227 ?_
      obtain ⟨hc2, h⟩ := h
      refine g_iald cx dX10_comes_228 rfl hc2 (x := (I 168 ((((12 * y3) + y4)).toNatClampNeg))) rfl ?_
      refine g_aload_n cx dX10_comes_229 rfl ?_
      refine g_getR cx lk_X10_108 rfl (Nat.le_of_ble_eq_true rfl) rfl dX10_comes_230 (v := 187) (pst hP 186 rfl) ?_
      refine g_iload cx dX10_comes_233 rfl ?_
      obtain ⟨hc3, h⟩ := h
      refine g_iald cx dX10_comes_235 rfl hc3 (x := (I 187 ((y4).toNatClampNeg))) rfl ?_
      refine g_icmp_eq cx (tgt := 272) dX10_comes_236 rfl (fun c4 => ?_) (fun c4 => ?_)
      · have h := zifp c4 h
        refine g_iinc cx (v := (y4 + 1)) dX10_comes_272 rfl rfl (Nat.le_of_ble_eq_true rfl) (Gx.L [.ref 155, .float 0, .float 0, .int y3, .int (y4 + 1)] rfl ?_)
        refine g_goto cx (tgt := 210) dX10_comes_275 rfl ?_
        exact ih _ _ _ _ hP h
      · have h := zifn c4 h
        refine g_aload_n cx dX10_comes_239 rfl ?_
        refine g_getR cx lk_X10_51 rfl (Nat.le_of_ble_eq_true rfl) rfl dX10_comes_240 (v := 168) (pst hP 167 rfl) ?_
        refine g_bipush cx dX10_comes_243 bp_12 ?_
        refine g_iload_n cx dX10_comes_245 rfl ?_
        refine g_imul cx dX10_comes_246 ?_
        refine g_iload cx dX10_comes_247 rfl ?_
        refine g_iadd cx dX10_comes_249 ?_
        obtain ⟨hc5, h⟩ := h
        refine g_iald cx dX10_comes_250 rfl hc5 (x := (I 168 ((((12 * y3) + y4)).toNatClampNeg))) rfl ?_
        refine g_if_eq cx (tgt := 272) dX10_comes_251 rfl (fun c6 => ?_) (fun c6 => ?_)
        · have h := zifp c6 h
          refine g_iinc cx (v := (y4 + 1)) dX10_comes_272 rfl rfl (Nat.le_of_ble_eq_true rfl) (Gx.L [.ref 155, .float 0, .float 0, .int y3, .int (y4 + 1)] rfl ?_)
          refine g_goto cx (tgt := 210) dX10_comes_275 rfl ?_
          exact ih _ _ _ _ hP h
        · have h := zifn c6 h
          refine g_aload_n cx dX10_comes_254 rfl ?_
          refine g_getR cx lk_X10_51 rfl (Nat.le_of_ble_eq_true rfl) rfl dX10_comes_255 (v := 168) (pst hP 167 rfl) ?_
          refine g_bipush cx dX10_comes_258 bp_12 ?_
          refine g_iload_n cx dX10_comes_260 rfl ?_
          refine g_imul cx dX10_comes_261 ?_
          refine g_iload cx dX10_comes_262 rfl ?_
          refine g_iadd cx dX10_comes_264 ?_
          refine g_iconst cx dX10_comes_265 ic_0 ?_
          obtain ⟨hc7, h⟩ := h
          refine g_iast cx dX10_comes_266 rfl hc7 ?_
          refine g_aload_n cx dX10_comes_267 rfl ?_
          refine g_iconst cx dX10_comes_268 ic_1 ?_
          refine g_pI cx lk_X10_289 rfl (Nat.le_of_ble_eq_true rfl) rfl dX10_comes_269 fi_10_39 rfl rfl ?_
          refine g_iinc cx (v := (y4 + 1)) dX10_comes_272 rfl rfl (Nat.le_of_ble_eq_true rfl) (Gx.L [.ref 155, .float 0, .float 0, .int y3, .int (y4 + 1)] rfl ?_)
          refine g_goto cx (tgt := 210) dX10_comes_275 rfl ?_
          exact ih _ _ _ _ hP h
def l_X10_comes_154 (K : zI → zP → Prop) : Nat → Int32 → Int32 → zI → zP → Prop
  | 0, _, _, _, _ => False
  | n + 1, y3, y4, I, P => if (I 155 37) ≤ y4 then (∃ n9, l_X10_comes_210 K n9 y3 0 I P) else (if (I 155 38) = 0 then (∃ n9, l_X10_comes_210 K n9 y3 0 I P) else (vp_in ((10 * y3) + y4) 24000 ∧ (vp_in y4 16 ∧ (if (I 169 ((((10 * y3) + y4)).toNatClampNeg)) = (I 188 ((y4).toNatClampNeg)) then ((l_X10_comes_154 K n) y3 (y4 + 1) (zu I 155 38 1) P) else ((l_X10_comes_154 K n) y3 (y4 + 1) (zu I 155 38 0) P)))))
theorem gl_X10_comes_154 {κ : zX} (cx : Cx yX10_comes cX10_comes 5 none 0 0 κ) {K : zI → zP → Prop} (hE : zEnd (zKv K) 0 0 κ) : ∀ (n : Nat) (y3 : Int32) (y4 : Int32) (I : zI) (P : zP), PSt P → l_X10_comes_154 K n y3 y4 I P → Gx κ 154 [.ref 155, .float 0, .float 0, .int y3, .int y4] [] SHy I P 0 0 := by
  intro n
  induction n with
  | zero =>
    intro y3 y4 I P hP h
    rw [l_X10_comes_154] at h
    exact False.elim h
  | succ n ih =>
    intro y3 y4 I P hP h
    rw [l_X10_comes_154] at h
    refine g_iload cx dX10_comes_154 rfl ?_
    refine g_aload_n cx dX10_comes_156 rfl ?_
    refine g_getI cx lk_X10_282 rfl (Nat.le_of_ble_eq_true rfl) rfl dX10_comes_157 (x := (I 155 37)) rfl ?_
    refine g_icmp_ge cx (tgt := 207) dX10_comes_160 rfl (fun c1 => ?_) (fun c1 => ?_)
    · have h := zifp c1 h
      refine g_iconst cx dX10_comes_207 ic_0 ?_
      refine g_istore cx dX10_comes_208 (Nat.le_of_ble_eq_true rfl) (Gx.L [.ref 155, .float 0, .float 0, .int y3, .int 0] rfl ?_)
      obtain ⟨n9, h⟩ := h
      exact gl_X10_comes_210 cx hE n9 _ _ _ _ hP h
    · have h := zifn c1 h
      refine g_aload_n cx dX10_comes_163 rfl ?_
      refine g_getI cx lk_X10_278 rfl (Nat.le_of_ble_eq_true rfl) rfl dX10_comes_164 (x := (I 155 38)) rfl ?_
      refine g_if_eq cx (tgt := 207) dX10_comes_167 rfl (fun c2 => ?_) (fun c2 => ?_)
      · have h := zifp c2 h
        refine g_iconst cx dX10_comes_207 ic_0 ?_
        refine g_istore cx dX10_comes_208 (Nat.le_of_ble_eq_true rfl) (Gx.L [.ref 155, .float 0, .float 0, .int y3, .int 0] rfl ?_)
        obtain ⟨n9, h⟩ := h
        exact gl_X10_comes_210 cx hE n9 _ _ _ _ hP h
      · have h := zifn c2 h
        refine g_aload_n cx dX10_comes_170 rfl ?_
        refine g_aload_n cx dX10_comes_171 rfl ?_
        refine g_getR cx lk_X10_54 rfl (Nat.le_of_ble_eq_true rfl) rfl dX10_comes_172 (v := 169) (pst hP 168 rfl) ?_
        refine g_bipush cx dX10_comes_175 bp_10 ?_
        refine g_iload_n cx dX10_comes_177 rfl ?_
        refine g_imul cx dX10_comes_178 ?_
        refine g_iload cx dX10_comes_179 rfl ?_
        refine g_iadd cx dX10_comes_181 ?_
        obtain ⟨hc3, h⟩ := h
        refine g_iald cx dX10_comes_182 rfl hc3 (x := (I 169 ((((10 * y3) + y4)).toNatClampNeg))) rfl ?_
        refine g_aload_n cx dX10_comes_183 rfl ?_
        refine g_getR cx lk_X10_111 rfl (Nat.le_of_ble_eq_true rfl) rfl dX10_comes_184 (v := 188) (pst hP 187 rfl) ?_
        refine g_iload cx dX10_comes_187 rfl ?_
        obtain ⟨hc4, h⟩ := h
        refine g_iald cx dX10_comes_189 rfl hc4 (x := (I 188 ((y4).toNatClampNeg))) rfl ?_
        refine g_icmp_ne cx (tgt := 197) dX10_comes_190 rfl (fun c5 => ?_) (fun c5 => ?_)
        · have h := zifn c5 h
          refine g_iconst cx dX10_comes_197 ic_0 ?_
          refine g_pI cx lk_X10_278 rfl (Nat.le_of_ble_eq_true rfl) rfl dX10_comes_198 fi_10_38 rfl rfl ?_
          refine g_iinc cx (v := (y4 + 1)) dX10_comes_201 rfl rfl (Nat.le_of_ble_eq_true rfl) (Gx.L [.ref 155, .float 0, .float 0, .int y3, .int (y4 + 1)] rfl ?_)
          refine g_goto cx (tgt := 154) dX10_comes_204 rfl ?_
          exact ih _ _ _ _ hP h
        · have h := zifp c5 h
          refine g_iconst cx dX10_comes_193 ic_1 ?_
          refine g_goto cx (tgt := 198) dX10_comes_194 rfl ?_
          refine g_pI cx lk_X10_278 rfl (Nat.le_of_ble_eq_true rfl) rfl dX10_comes_198 fi_10_38 rfl rfl ?_
          refine g_iinc cx (v := (y4 + 1)) dX10_comes_201 rfl rfl (Nat.le_of_ble_eq_true rfl) (Gx.L [.ref 155, .float 0, .float 0, .int y3, .int (y4 + 1)] rfl ?_)
          refine g_goto cx (tgt := 154) dX10_comes_204 rfl ?_
          exact ih _ _ _ _ hP h
def j_X10_comes_147 (K : zI → zP → Prop) (y3 : Int32) (I : zI) (P : zP) : Prop := ∃ n9, l_X10_comes_154 K n9 y3 0 (zu I 155 38 0) P
theorem gj_X10_comes_147 {κ : zX} (cx : Cx yX10_comes cX10_comes 5 none 0 0 κ) {K : zI → zP → Prop} (hE : zEnd (zKv K) 0 0 κ) {y3 : Int32} {I : zI} {P : zP} (hP : PSt P) (h : j_X10_comes_147 K y3 I P) : Gx κ 147 [.ref 155, .float 0, .float 0, .int y3, .float 0] [.ref 155] SHy I P 0 0 := by
  unfold j_X10_comes_147 at h
  refine g_iconst cx dX10_comes_147 ic_0 ?_
  refine g_pI cx lk_X10_278 rfl (Nat.le_of_ble_eq_true rfl) rfl dX10_comes_148 fi_10_38 rfl rfl ?_
  refine g_iconst cx dX10_comes_151 ic_0 ?_
  refine g_istore cx dX10_comes_152 (Nat.le_of_ble_eq_true rfl) (Gx.L [.ref 155, .float 0, .float 0, .int y3, .int 0] rfl ?_)
  obtain ⟨n9, h⟩ := h
  exact gl_X10_comes_154 cx hE n9 _ _ _ _ hP h
def l_X10_comes_82 (K : zI → zP → Prop) : Nat → Int32 → Int32 → zI → zP → Prop
  | 0, _, _, _, _ => False
  | n + 1, y3, y4, I, P => if (I 155 37) ≤ y4 then (K (zu I 155 39 1) P) else (vp_in y4 16 ∧ (vp_in ((10 * y3) + y4) 24000 ∧ ((l_X10_comes_82 K n) y3 (y4 + 1) (zu I 169 ((((10 * y3) + y4)).toNatClampNeg) (I 188 ((y4).toNatClampNeg))) P)))
theorem gl_X10_comes_82 {κ : zX} (cx : Cx yX10_comes cX10_comes 5 none 0 0 κ) {K : zI → zP → Prop} (hE : zEnd (zKv K) 0 0 κ) : ∀ (n : Nat) (y3 : Int32) (y4 : Int32) (I : zI) (P : zP), PSt P → l_X10_comes_82 K n y3 y4 I P → Gx κ 82 [.ref 155, .float 0, .float 0, .int y3, .int y4] [] SHy I P 0 0 := by
  intro n
  induction n with
  | zero =>
    intro y3 y4 I P hP h
    rw [l_X10_comes_82] at h
    exact False.elim h
  | succ n ih =>
    intro y3 y4 I P hP h
    rw [l_X10_comes_82] at h
    refine g_iload cx dX10_comes_82 rfl ?_
    refine g_aload_n cx dX10_comes_84 rfl ?_
    refine g_getI cx lk_X10_282 rfl (Nat.le_of_ble_eq_true rfl) rfl dX10_comes_85 (x := (I 155 37)) rfl ?_
    refine g_icmp_ge cx (tgt := 116) dX10_comes_88 rfl (fun c1 => ?_) (fun c1 => ?_)
    · have h := zifp c1 h
      refine g_aload_n cx dX10_comes_116 rfl ?_
      refine g_iconst cx dX10_comes_117 ic_1 ?_
      refine g_pI cx lk_X10_289 rfl (Nat.le_of_ble_eq_true rfl) rfl dX10_comes_118 fi_10_39 rfl rfl ?_
      exact g_wv cx hE dX10_comes_121 rfl hP h
    · have h := zifn c1 h
      refine g_aload_n cx dX10_comes_91 rfl ?_
      refine g_getR cx lk_X10_54 rfl (Nat.le_of_ble_eq_true rfl) rfl dX10_comes_92 (v := 169) (pst hP 168 rfl) ?_
      refine g_bipush cx dX10_comes_95 bp_10 ?_
      refine g_iload_n cx dX10_comes_97 rfl ?_
      refine g_imul cx dX10_comes_98 ?_
      refine g_iload cx dX10_comes_99 rfl ?_
      refine g_iadd cx dX10_comes_101 ?_
      refine g_aload_n cx dX10_comes_102 rfl ?_
      refine g_getR cx lk_X10_111 rfl (Nat.le_of_ble_eq_true rfl) rfl dX10_comes_103 (v := 188) (pst hP 187 rfl) ?_
      refine g_iload cx dX10_comes_106 rfl ?_
      obtain ⟨hc2, h⟩ := h
      refine g_iald cx dX10_comes_108 rfl hc2 (x := (I 188 ((y4).toNatClampNeg))) rfl ?_
      obtain ⟨hc3, h⟩ := h
      refine g_iast cx dX10_comes_109 rfl hc3 ?_
      refine g_iinc cx (v := (y4 + 1)) dX10_comes_110 rfl rfl (Nat.le_of_ble_eq_true rfl) (Gx.L [.ref 155, .float 0, .float 0, .int y3, .int (y4 + 1)] rfl ?_)
      refine g_goto cx (tgt := 82) dX10_comes_113 rfl ?_
      exact ih _ _ _ _ hP h
def l_X10_comes_47 (K : zI → zP → Prop) : Nat → Int32 → Int32 → zI → zP → Prop
  | 0, _, _, _, _ => False
  | n + 1, y3, y4, I, P => if 12 ≤ y4 then (∃ n9, l_X10_comes_82 K n9 y3 0 I P) else (vp_in y4 12 ∧ (vp_in ((12 * y3) + y4) 28800 ∧ ((l_X10_comes_47 K n) y3 (y4 + 1) (zu I 168 ((((12 * y3) + y4)).toNatClampNeg) (I 187 ((y4).toNatClampNeg))) P)))
theorem gl_X10_comes_47 {κ : zX} (cx : Cx yX10_comes cX10_comes 5 none 0 0 κ) {K : zI → zP → Prop} (hE : zEnd (zKv K) 0 0 κ) : ∀ (n : Nat) (y3 : Int32) (y4 : Int32) (I : zI) (P : zP), PSt P → l_X10_comes_47 K n y3 y4 I P → Gx κ 47 [.ref 155, .float 0, .float 0, .int y3, .int y4] [] SHy I P 0 0 := by
  intro n
  induction n with
  | zero =>
    intro y3 y4 I P hP h
    rw [l_X10_comes_47] at h
    exact False.elim h
  | succ n ih =>
    intro y3 y4 I P hP h
    rw [l_X10_comes_47] at h
    refine g_iload cx dX10_comes_47 rfl ?_
    refine g_bipush cx dX10_comes_49 bp_12 ?_
    refine g_icmp_ge cx (tgt := 79) dX10_comes_51 rfl (fun c1 => ?_) (fun c1 => ?_)
    · have h := zifp c1 h
      refine g_iconst cx dX10_comes_79 ic_0 ?_
      refine g_istore cx dX10_comes_80 (Nat.le_of_ble_eq_true rfl) (Gx.L [.ref 155, .float 0, .float 0, .int y3, .int 0] rfl ?_)
      obtain ⟨n9, h⟩ := h
      exact gl_X10_comes_82 cx hE n9 _ _ _ _ hP h
    · have h := zifn c1 h
      refine g_aload_n cx dX10_comes_54 rfl ?_
      refine g_getR cx lk_X10_51 rfl (Nat.le_of_ble_eq_true rfl) rfl dX10_comes_55 (v := 168) (pst hP 167 rfl) ?_
      refine g_bipush cx dX10_comes_58 bp_12 ?_
      refine g_iload_n cx dX10_comes_60 rfl ?_
      refine g_imul cx dX10_comes_61 ?_
      refine g_iload cx dX10_comes_62 rfl ?_
      refine g_iadd cx dX10_comes_64 ?_
      refine g_aload_n cx dX10_comes_65 rfl ?_
      refine g_getR cx lk_X10_108 rfl (Nat.le_of_ble_eq_true rfl) rfl dX10_comes_66 (v := 187) (pst hP 186 rfl) ?_
      refine g_iload cx dX10_comes_69 rfl ?_
      obtain ⟨hc2, h⟩ := h
      refine g_iald cx dX10_comes_71 rfl hc2 (x := (I 187 ((y4).toNatClampNeg))) rfl ?_
      obtain ⟨hc3, h⟩ := h
      refine g_iast cx dX10_comes_72 rfl hc3 ?_
      refine g_iinc cx (v := (y4 + 1)) dX10_comes_73 rfl rfl (Nat.le_of_ble_eq_true rfl) (Gx.L [.ref 155, .float 0, .float 0, .int y3, .int (y4 + 1)] rfl ?_)
      refine g_goto cx (tgt := 47) dX10_comes_76 rfl ?_
      exact ih _ _ _ _ hP h
def w_X10_comes (x1 : Int32) (x2 : Int32) (I : zI) (P : zP) (K : zI → zP → Prop) : Prop := vp_in x1 6 ∧ (if x2 < (I 159 ((x1).toNatClampNeg)) then (vp_in ((400 * x1) + x2) 2400 ∧ (if (I 167 ((((400 * x1) + x2)).toNatClampNeg)) = (-1) then (vp_in ((400 * x1) + x2) 2400 ∧ (∃ n9, l_X10_comes_47 K n9 ((400 * x1) + x2) 0 (zu I 167 ((((400 * x1) + x2)).toNatClampNeg) (I 155 37)) P)) else (if (I 155 38) = 0 then (j_X10_comes_147 K ((400 * x1) + x2) I P) else (vp_in ((400 * x1) + x2) 2400 ∧ (if (I 167 ((((400 * x1) + x2)).toNatClampNeg)) = (I 155 37) then (∃ n9, l_X10_comes_154 K n9 ((400 * x1) + x2) 0 (zu I 155 38 1) P) else (j_X10_comes_147 K ((400 * x1) + x2) I P)))))) else (K (zu I 155 38 0) P))
theorem e_X10_comes {x1 : Int32} {x2 : Int32} {I : zI} {P : zP} {K : zI → zP → Prop} (hP : PSt P) (h : w_X10_comes x1 x2 I P K) : Ev yX10_comes cX10_comes 5 none 0 0 0 0 [.ref 155, .int x1, .int x2] SHy I P (zKv K) := by
  refine Ev.start [.ref 155, .int x1, .int x2, .float 0, .float 0] pn_X10 rfl (Nat.le_of_ble_eq_true rfl) rfl (fun κ cx hE => ?_)
  unfold w_X10_comes at h
  refine g_iload_n cx dX10_comes_0 rfl ?_
  refine g_aload_n cx dX10_comes_1 rfl ?_
  refine g_getR cx lk_X10_23 rfl (Nat.le_of_ble_eq_true rfl) rfl dX10_comes_2 (v := 159) (pst hP 158 rfl) ?_
  refine g_iload_n cx dX10_comes_5 rfl ?_
  obtain ⟨hc1, h⟩ := h
  refine g_iald cx dX10_comes_6 rfl hc1 (x := (I 159 ((x1).toNatClampNeg))) rfl ?_
  refine g_icmp_lt cx (tgt := 16) dX10_comes_7 rfl (fun c2 => ?_) (fun c2 => ?_)
  · have h := zifp c2 h
    refine g_sipush cx dX10_comes_16 sp_400 ?_
    refine g_iload_n cx dX10_comes_19 rfl ?_
    refine g_imul cx dX10_comes_20 ?_
    refine g_iload_n cx dX10_comes_21 rfl ?_
    refine g_iadd cx dX10_comes_22 ?_
    refine g_istore_n cx dX10_comes_23 (Nat.le_of_ble_eq_true rfl) (Gx.L [.ref 155, .int x1, .int x2, .int ((400 * x1) + x2), .float 0] rfl ?_)
    refine g_aload_n cx dX10_comes_24 rfl ?_
    refine g_getR cx lk_X10_48 rfl (Nat.le_of_ble_eq_true rfl) rfl dX10_comes_25 (v := 167) (pst hP 166 rfl) ?_
    refine g_iload_n cx dX10_comes_28 rfl ?_
    obtain ⟨hc3, h⟩ := h
    refine g_iald cx dX10_comes_29 rfl hc3 (x := (I 167 ((((400 * x1) + x2)).toNatClampNeg))) rfl ?_
    refine g_iconst cx dX10_comes_30 ic_m1 ?_
    refine g_icmp_ne cx (tgt := 122) dX10_comes_31 rfl (fun c4 => ?_) (fun c4 => ?_)
    · have h := zifn c4 h
      refine g_aload_n cx dX10_comes_122 rfl ?_
      refine g_aload_n cx dX10_comes_123 rfl ?_
      refine g_getI cx lk_X10_278 rfl (Nat.le_of_ble_eq_true rfl) rfl dX10_comes_124 (x := (I 155 38)) rfl ?_
      refine g_if_eq cx (tgt := 147) dX10_comes_127 rfl (fun c5 => ?_) (fun c5 => ?_)
      · have h := zifp c5 h
        refine (Gx.unset 1 (Gx.unset 2 (Gx.L [.ref 155, .float 0, .float 0, .int ((400 * x1) + x2), .float 0] rfl ?_)))
        exact gj_X10_comes_147 cx hE hP h
      · have h := zifn c5 h
        refine g_aload_n cx dX10_comes_130 rfl ?_
        refine g_getR cx lk_X10_48 rfl (Nat.le_of_ble_eq_true rfl) rfl dX10_comes_131 (v := 167) (pst hP 166 rfl) ?_
        refine g_iload_n cx dX10_comes_134 rfl ?_
        obtain ⟨hc6, h⟩ := h
        refine g_iald cx dX10_comes_135 rfl hc6 (x := (I 167 ((((400 * x1) + x2)).toNatClampNeg))) rfl ?_
        refine g_aload_n cx dX10_comes_136 rfl ?_
        refine g_getI cx lk_X10_282 rfl (Nat.le_of_ble_eq_true rfl) rfl dX10_comes_137 (x := (I 155 37)) rfl ?_
        refine g_icmp_ne cx (tgt := 147) dX10_comes_140 rfl (fun c7 => ?_) (fun c7 => ?_)
        · have h := zifn c7 h
          refine (Gx.unset 1 (Gx.unset 2 (Gx.L [.ref 155, .float 0, .float 0, .int ((400 * x1) + x2), .float 0] rfl ?_)))
          exact gj_X10_comes_147 cx hE hP h
        · have h := zifp c7 h
          refine g_iconst cx dX10_comes_143 ic_1 ?_
          refine g_goto cx (tgt := 148) dX10_comes_144 rfl ?_
          refine g_pI cx lk_X10_278 rfl (Nat.le_of_ble_eq_true rfl) rfl dX10_comes_148 fi_10_38 rfl rfl ?_
          refine g_iconst cx dX10_comes_151 ic_0 ?_
          refine g_istore cx dX10_comes_152 (Nat.le_of_ble_eq_true rfl) (Gx.L [.ref 155, .int x1, .int x2, .int ((400 * x1) + x2), .int 0] rfl ?_)
          refine (Gx.unset 1 (Gx.unset 2 (Gx.L [.ref 155, .float 0, .float 0, .int ((400 * x1) + x2), .int 0] rfl ?_)))
          obtain ⟨n9, h⟩ := h
          exact gl_X10_comes_154 cx hE n9 _ _ _ _ hP h
    · have h := zifp c4 h
      refine g_aload_n cx dX10_comes_34 rfl ?_
      refine g_getR cx lk_X10_48 rfl (Nat.le_of_ble_eq_true rfl) rfl dX10_comes_35 (v := 167) (pst hP 166 rfl) ?_
      refine g_iload_n cx dX10_comes_38 rfl ?_
      refine g_aload_n cx dX10_comes_39 rfl ?_
      refine g_getI cx lk_X10_282 rfl (Nat.le_of_ble_eq_true rfl) rfl dX10_comes_40 (x := (I 155 37)) rfl ?_
      obtain ⟨hc8, h⟩ := h
      refine g_iast cx dX10_comes_43 rfl hc8 ?_
      refine g_iconst cx dX10_comes_44 ic_0 ?_
      refine g_istore cx dX10_comes_45 (Nat.le_of_ble_eq_true rfl) (Gx.L [.ref 155, .int x1, .int x2, .int ((400 * x1) + x2), .int 0] rfl ?_)
      refine (Gx.unset 1 (Gx.unset 2 (Gx.L [.ref 155, .float 0, .float 0, .int ((400 * x1) + x2), .int 0] rfl ?_)))
      obtain ⟨n9, h⟩ := h
      exact gl_X10_comes_47 cx hE n9 _ _ _ _ hP h
  · have h := zifn c2 h
    refine g_aload_n cx dX10_comes_10 rfl ?_
    refine g_iconst cx dX10_comes_11 ic_0 ?_
    refine g_pI cx lk_X10_278 rfl (Nat.le_of_ble_eq_true rfl) rfl dX10_comes_12 fi_10_38 rfl rfl ?_
    exact g_wv cx hE dX10_comes_15 rfl hP h
def w_X10_count (x1 : Int32) (I : zI) (P : zP) (K : Int32 → zI → zP → Prop) : Prop := if x1 = 0 then (K (I 155 3) I P) else (if x1 = 1 then (K (I 155 17) I P) else (if x1 = 2 then (K (I 155 1) I P) else (if x1 = 3 then (K (I 155 73) I P) else (K (-2) I P))))
theorem e_X10_count {x1 : Int32} {I : zI} {P : zP} {K : Int32 → zI → zP → Prop} (hP : PSt P) (h : w_X10_count x1 I P K) : Ev yX10_count cX10_count 2 (some .int) 0 0 0 0 [.ref 155, .int x1] SHy I P (zKi K) := by
  refine Ev.start [.ref 155, .int x1] pn_X10 rfl (Nat.le_of_ble_eq_true rfl) rfl (fun κ cx hE => ?_)
  unfold w_X10_count at h
  refine g_iload_n cx dX10_count_0 rfl ?_
  refine g_if_ne cx (tgt := 11) dX10_count_1 rfl (fun c1 => ?_) (fun c1 => ?_)
  · have h := zifn c1 h
    refine g_iload_n cx dX10_count_11 rfl ?_
    refine g_iconst cx dX10_count_12 ic_1 ?_
    refine g_icmp_ne cx (tgt := 23) dX10_count_13 rfl (fun c2 => ?_) (fun c2 => ?_)
    · have h := zifn c2 h
      refine g_iload_n cx dX10_count_23 rfl ?_
      refine g_iconst cx dX10_count_24 ic_2 ?_
      refine g_icmp_ne cx (tgt := 35) dX10_count_25 rfl (fun c3 => ?_) (fun c3 => ?_)
      · have h := zifn c3 h
        refine g_iload_n cx dX10_count_35 rfl ?_
        refine g_iconst cx dX10_count_36 ic_3 ?_
        refine g_icmp_ne cx (tgt := 47) dX10_count_37 rfl (fun c4 => ?_) (fun c4 => ?_)
        · have h := zifn c4 h
          refine g_bipush cx dX10_count_47 bp_m2 ?_
          exact g_wi cx hE dX10_count_49 rfl rfl hP h
        · have h := zifp c4 h
          refine g_aload_n cx dX10_count_40 rfl ?_
          refine g_getI cx lk_X10_391 rfl (Nat.le_of_ble_eq_true rfl) rfl dX10_count_41 (x := (I 155 73)) rfl ?_
          refine g_goto cx (tgt := 49) dX10_count_44 rfl ?_
          exact g_wi cx hE dX10_count_49 rfl rfl hP h
      · have h := zifp c3 h
        refine g_aload_n cx dX10_count_28 rfl ?_
        refine g_getI cx lk_X10_210 rfl (Nat.le_of_ble_eq_true rfl) rfl dX10_count_29 (x := (I 155 1)) rfl ?_
        refine g_goto cx (tgt := 49) dX10_count_32 rfl ?_
        exact g_wi cx hE dX10_count_49 rfl rfl hP h
    · have h := zifp c2 h
      refine g_aload_n cx dX10_count_16 rfl ?_
      refine g_getI cx lk_X10_335 rfl (Nat.le_of_ble_eq_true rfl) rfl dX10_count_17 (x := (I 155 17)) rfl ?_
      refine g_goto cx (tgt := 49) dX10_count_20 rfl ?_
      exact g_wi cx hE dX10_count_49 rfl rfl hP h
  · have h := zifp c1 h
    refine g_aload_n cx dX10_count_4 rfl ?_
    refine g_getI cx lk_X10_237 rfl (Nat.le_of_ble_eq_true rfl) rfl dX10_count_5 (x := (I 155 3)) rfl ?_
    refine g_goto cx (tgt := 49) dX10_count_8 rfl ?_
    exact g_wi cx hE dX10_count_49 rfl rfl hP h
def w_X10_cut (x1 : Int32) (I : zI) (P : zP) (K : Int32 → zI → zP → Prop) : Prop := w_X10_in x1 0 (I 155 1) I P (fun (v1 : Int32) (I1 : zI) (P1 : zP) => (if v1 = 0 then (K (-2) I1 P1) else (K ((I1 155 1) - x1) (zu I1 155 1 ((I1 155 1) - x1)) P1)))
theorem e_X10_cut {x1 : Int32} {I : zI} {P : zP} {K : Int32 → zI → zP → Prop} (hP : PSt P) (h : w_X10_cut x1 I P K) : Ev yX10_cut cX10_cut 2 (some .int) 1 22 0 0 [.ref 155, .int x1] SHy I P (zKi K) := by
  refine Ev.start [.ref 155, .int x1] pn_X10 rfl (Nat.le_of_ble_eq_true rfl) rfl (fun κ cx hE => ?_)
  unfold w_X10_cut at h
  refine g_iload_n cx dX10_cut_0 rfl ?_
  refine g_iconst cx dX10_cut_1 ic_0 ?_
  refine g_aload_n cx dX10_cut_2 rfl ?_
  refine g_getI cx lk_X10_210 rfl (Nat.le_of_ble_eq_true rfl) rfl dX10_cut_3 (x := (I 155 1)) rfl ?_
  refine g_wSi cx [.int x1, .int 0, .int (I 155 1)] [] (e_X10_in hP h) mt_X10_in ml_X10_217 dX10_cut_6 rfl rfl (Nat.le_of_ble_eq_true rfl) (Nat.le_of_ble_eq_true rfl) (Nat.le_of_ble_eq_true rfl) (fun v1 I1 P1 hP h => ?_)
  refine g_if_ne cx (tgt := 15) dX10_cut_9 rfl (fun c2 => ?_) (fun c2 => ?_)
  · have h := zifn c2 h
    refine g_aload_n cx dX10_cut_15 rfl ?_
    refine g_dup cx dX10_cut_16 rfl ?_
    refine g_getI cx lk_X10_210 rfl (Nat.le_of_ble_eq_true rfl) rfl dX10_cut_17 (x := (I1 155 1)) rfl ?_
    refine g_iload_n cx dX10_cut_20 rfl ?_
    refine g_isub cx dX10_cut_21 ?_
    refine g_pI cx lk_X10_210 rfl (Nat.le_of_ble_eq_true rfl) rfl dX10_cut_22 fi_10_1 rfl rfl ?_
    refine g_aload_n cx dX10_cut_25 rfl ?_
    refine g_getI cx lk_X10_210 rfl (Nat.le_of_ble_eq_true rfl) rfl dX10_cut_26 (x := ((I1 155 1) - x1)) rfl ?_
    exact g_wi cx hE dX10_cut_29 rfl rfl hP h
  · have h := zifp c2 h
    refine g_bipush cx dX10_cut_12 bp_m2 ?_
    exact g_wi cx hE dX10_cut_14 rfl rfl hP h
def w_X10_isRun (x1 : Int32) (I : zI) (P : zP) (K : Int32 → zI → zP → Prop) : Prop := w_X10_in x1 0 2 I P (fun (v1 : Int32) (I1 : zI) (P1 : zP) => (if v1 = 0 then (K 0 I1 P1) else (vp_in x1 3 ∧ (if (I1 208 ((x1).toNatClampNeg)) = (-1) then (K 0 I1 P1) else (K 1 I1 P1)))))
theorem e_X10_isRun {x1 : Int32} {I : zI} {P : zP} {K : Int32 → zI → zP → Prop} (hP : PSt P) (h : w_X10_isRun x1 I P K) : Ev yX10_isRun cX10_isRun 2 (some .boolean) 1 22 0 0 [.ref 155, .int x1] SHy I P (zKi K) := by
  refine Ev.start [.ref 155, .int x1] pn_X10 rfl (Nat.le_of_ble_eq_true rfl) rfl (fun κ cx hE => ?_)
  unfold w_X10_isRun at h
  refine g_iload_n cx dX10_isRun_0 rfl ?_
  refine g_iconst cx dX10_isRun_1 ic_0 ?_
  refine g_iconst cx dX10_isRun_2 ic_2 ?_
  refine g_wSi cx [.int x1, .int 0, .int 2] [] (e_X10_in hP h) mt_X10_in ml_X10_217 dX10_isRun_3 rfl rfl (Nat.le_of_ble_eq_true rfl) (Nat.le_of_ble_eq_true rfl) (Nat.le_of_ble_eq_true rfl) (fun v1 I1 P1 hP h => ?_)
  refine g_if_eq cx (tgt := 23) dX10_isRun_6 rfl (fun c2 => ?_) (fun c2 => ?_)
  · have h := zifp c2 h
    refine g_iconst cx dX10_isRun_23 ic_0 ?_
    exact g_wi cx hE dX10_isRun_24 rfl rfl hP h
  · have h := zifn c2 h
    refine g_aload_n cx dX10_isRun_9 rfl ?_
    refine g_getR cx lk_X10_171 rfl (Nat.le_of_ble_eq_true rfl) rfl dX10_isRun_10 (v := 208) (pst hP 207 rfl) ?_
    refine g_iload_n cx dX10_isRun_13 rfl ?_
    obtain ⟨hc3, h⟩ := h
    refine g_iald cx dX10_isRun_14 rfl hc3 (x := (I1 208 ((x1).toNatClampNeg))) rfl ?_
    refine g_iconst cx dX10_isRun_15 ic_m1 ?_
    refine g_icmp_eq cx (tgt := 23) dX10_isRun_16 rfl (fun c4 => ?_) (fun c4 => ?_)
    · have h := zifp c4 h
      refine g_iconst cx dX10_isRun_23 ic_0 ?_
      exact g_wi cx hE dX10_isRun_24 rfl rfl hP h
    · have h := zifn c4 h
      refine g_iconst cx dX10_isRun_19 ic_1 ?_
      refine g_goto cx (tgt := 24) dX10_isRun_20 rfl ?_
      exact g_wi cx hE dX10_isRun_24 rfl rfl hP h
def w_X10_kept (x1 : Int32) (I : zI) (P : zP) (K : Int32 → zI → zP → Prop) : Prop := w_X10_isRun x1 I P (fun (v1 : Int32) (I1 : zI) (P1 : zP) => (if v1 = 0 then (K 0 I1 P1) else (vp_in x1 3 ∧ (if 400 ≤ (I1 212 ((x1).toNatClampNeg)) then (K 400 I1 P1) else (vp_in x1 3 ∧ (K (I1 212 ((x1).toNatClampNeg)) I1 P1))))))
theorem e_X10_kept {x1 : Int32} {I : zI} {P : zP} {K : Int32 → zI → zP → Prop} (hP : PSt P) (h : w_X10_kept x1 I P K) : Ev yX10_kept cX10_kept 2 (some .int) 2 43 0 0 [.ref 155, .int x1] SHy I P (zKi K) := by
  refine Ev.start [.ref 155, .int x1] pn_X10 rfl (Nat.le_of_ble_eq_true rfl) rfl (fun κ cx hE => ?_)
  unfold w_X10_kept at h
  refine g_aload_n cx dX10_kept_0 rfl ?_
  refine g_iload_n cx dX10_kept_1 rfl ?_
  refine g_wVi cx [.int x1] [] (e_X10_isRun hP h) mt_X10_isRun ml_X10_542 rfl rfl rfl dX10_kept_2 rfl rfl (Nat.le_of_ble_eq_true rfl) (Nat.le_of_ble_eq_true rfl) (Nat.le_of_ble_eq_true rfl) (fun v1 I1 P1 hP h => ?_)
  refine g_if_eq cx (tgt := 35) dX10_kept_5 rfl (fun c2 => ?_) (fun c2 => ?_)
  · have h := zifp c2 h
    refine g_iconst cx dX10_kept_35 ic_0 ?_
    exact g_wi cx hE dX10_kept_36 rfl rfl hP h
  · have h := zifn c2 h
    refine g_aload_n cx dX10_kept_8 rfl ?_
    refine g_getR cx lk_X10_183 rfl (Nat.le_of_ble_eq_true rfl) rfl dX10_kept_9 (v := 212) (pst hP 211 rfl) ?_
    refine g_iload_n cx dX10_kept_12 rfl ?_
    obtain ⟨hc3, h⟩ := h
    refine g_iald cx dX10_kept_13 rfl hc3 (x := (I1 212 ((x1).toNatClampNeg))) rfl ?_
    refine g_sipush cx dX10_kept_14 sp_400 ?_
    refine g_icmp_ge cx (tgt := 29) dX10_kept_17 rfl (fun c4 => ?_) (fun c4 => ?_)
    · have h := zifp c4 h
      refine g_sipush cx dX10_kept_29 sp_400 ?_
      refine g_goto cx (tgt := 36) dX10_kept_32 rfl ?_
      exact g_wi cx hE dX10_kept_36 rfl rfl hP h
    · have h := zifn c4 h
      refine g_aload_n cx dX10_kept_20 rfl ?_
      refine g_getR cx lk_X10_183 rfl (Nat.le_of_ble_eq_true rfl) rfl dX10_kept_21 (v := 212) (pst hP 211 rfl) ?_
      refine g_iload_n cx dX10_kept_24 rfl ?_
      obtain ⟨hc5, h⟩ := h
      refine g_iald cx dX10_kept_25 rfl hc5 (x := (I1 212 ((x1).toNatClampNeg))) rfl ?_
      refine g_goto cx (tgt := 36) dX10_kept_26 rfl ?_
      exact g_wi cx hE dX10_kept_36 rfl rfl hP h
def j_X10_differ_78 (K : Int32 → zI → zP → Prop) (y1 : Int32) (y2 : Int32) (I : zI) (P : zP) : Prop := if y1 = y2 then (K (-1) I P) else (if y2 ≤ y1 then (K y2 I P) else (K y1 I P))
theorem gj_X10_differ_78 {κ : zX} (cx : Cx yX10_differ cX10_differ 4 (some .int) 3 64 κ) {K : Int32 → zI → zP → Prop} (hE : zEnd (zKi K) 0 0 κ) {y1 : Int32} {y2 : Int32} {I : zI} {P : zP} (hP : PSt P) (h : j_X10_differ_78 K y1 y2 I P) : Gx κ 78 [.float 0, .int y1, .int y2, .float 0] [] SHy I P 0 0 := by
  unfold j_X10_differ_78 at h
  refine g_iload_n cx dX10_differ_78 rfl ?_
  refine g_iload_n cx dX10_differ_79 rfl ?_
  refine g_icmp_ne cx (tgt := 87) dX10_differ_80 rfl (fun c1 => ?_) (fun c1 => ?_)
  · have h := zifn c1 h
    refine g_iload_n cx dX10_differ_87 rfl ?_
    refine g_iload_n cx dX10_differ_88 rfl ?_
    refine g_icmp_ge cx (tgt := 96) dX10_differ_89 rfl (fun c2 => ?_) (fun c2 => ?_)
    · have h := zifp c2 h
      refine g_iload_n cx dX10_differ_96 rfl ?_
      exact g_wi cx hE dX10_differ_97 rfl rfl hP h
    · have h := zifn c2 h
      refine g_iload_n cx dX10_differ_92 rfl ?_
      refine g_goto cx (tgt := 97) dX10_differ_93 rfl ?_
      exact g_wi cx hE dX10_differ_97 rfl rfl hP h
  · have h := zifp c1 h
    refine g_iconst cx dX10_differ_83 ic_m1 ?_
    refine g_goto cx (tgt := 97) dX10_differ_84 rfl ?_
    exact g_wi cx hE dX10_differ_97 rfl rfl hP h
def l_X10_differ_14 (K : Int32 → zI → zP → Prop) : Nat → Int32 → Int32 → Int32 → zI → zP → Prop
  | 0, _, _, _, _, _ => False
  | n + 1, y1, y2, y3, I, P => if y1 ≤ y3 then (j_X10_differ_78 K y1 y2 I P) else (if y2 ≤ y3 then (j_X10_differ_78 K y1 y2 I P) else (vp_in (400 + y3) 1200 ∧ (vp_in (800 + y3) 1200 ∧ (if (I 219 (((400 + y3)).toNatClampNeg)) = (I 219 (((800 + y3)).toNatClampNeg)) then (vp_in (400 + y3) 1200 ∧ (vp_in (800 + y3) 1200 ∧ (if (I 220 (((400 + y3)).toNatClampNeg)) = (I 220 (((800 + y3)).toNatClampNeg)) then ((l_X10_differ_14 K n) y1 y2 (y3 + 1) I P) else (K y3 I P)))) else (K y3 I P)))))
theorem gl_X10_differ_14 {κ : zX} (cx : Cx yX10_differ cX10_differ 4 (some .int) 3 64 κ) {K : Int32 → zI → zP → Prop} (hE : zEnd (zKi K) 0 0 κ) : ∀ (n : Nat) (y1 : Int32) (y2 : Int32) (y3 : Int32) (I : zI) (P : zP), PSt P → l_X10_differ_14 K n y1 y2 y3 I P → Gx κ 14 [.ref 155, .int y1, .int y2, .int y3] [] SHy I P 0 0 := by
  intro n
  induction n with
  | zero =>
    intro y1 y2 y3 I P hP h
    rw [l_X10_differ_14] at h
    exact False.elim h
  | succ n ih =>
    intro y1 y2 y3 I P hP h
    rw [l_X10_differ_14] at h
    refine g_iload_n cx dX10_differ_14 rfl ?_
    refine g_iload_n cx dX10_differ_15 rfl ?_
    refine g_icmp_ge cx (tgt := 78) dX10_differ_16 rfl (fun c1 => ?_) (fun c1 => ?_)
    · have h := zifp c1 h
      refine (Gx.unset 0 (Gx.unset 3 (Gx.L [.float 0, .int y1, .int y2, .float 0] rfl ?_)))
      exact gj_X10_differ_78 cx hE hP h
    · have h := zifn c1 h
      refine g_iload_n cx dX10_differ_19 rfl ?_
      refine g_iload_n cx dX10_differ_20 rfl ?_
      refine g_icmp_ge cx (tgt := 78) dX10_differ_21 rfl (fun c2 => ?_) (fun c2 => ?_)
      · have h := zifp c2 h
        refine (Gx.unset 0 (Gx.unset 3 (Gx.L [.float 0, .int y1, .int y2, .float 0] rfl ?_)))
        exact gj_X10_differ_78 cx hE hP h
      · have h := zifn c2 h
        refine g_aload_n cx dX10_differ_24 rfl ?_
        refine g_getR cx lk_X10_204 rfl (Nat.le_of_ble_eq_true rfl) rfl dX10_differ_25 (v := 219) (pst hP 218 rfl) ?_
        refine g_sipush cx dX10_differ_28 sp_400 ?_
        refine g_iload_n cx dX10_differ_31 rfl ?_
        refine g_iadd cx dX10_differ_32 ?_
        obtain ⟨hc3, h⟩ := h
        refine g_iald cx dX10_differ_33 rfl hc3 (x := (I 219 (((400 + y3)).toNatClampNeg))) rfl ?_
        refine g_aload_n cx dX10_differ_34 rfl ?_
        refine g_getR cx lk_X10_204 rfl (Nat.le_of_ble_eq_true rfl) rfl dX10_differ_35 (v := 219) (pst hP 218 rfl) ?_
        refine g_sipush cx dX10_differ_38 sp_800 ?_
        refine g_iload_n cx dX10_differ_41 rfl ?_
        refine g_iadd cx dX10_differ_42 ?_
        obtain ⟨hc4, h⟩ := h
        refine g_iald cx dX10_differ_43 rfl hc4 (x := (I 219 (((800 + y3)).toNatClampNeg))) rfl ?_
        refine g_icmp_ne cx (tgt := 70) dX10_differ_44 rfl (fun c5 => ?_) (fun c5 => ?_)
        · have h := zifn c5 h
          refine g_iload_n cx dX10_differ_70 rfl ?_
          exact g_wi cx hE dX10_differ_71 rfl rfl hP h
        · have h := zifp c5 h
          refine g_aload_n cx dX10_differ_47 rfl ?_
          refine g_getR cx lk_X10_207 rfl (Nat.le_of_ble_eq_true rfl) rfl dX10_differ_48 (v := 220) (pst hP 219 rfl) ?_
          refine g_sipush cx dX10_differ_51 sp_400 ?_
          refine g_iload_n cx dX10_differ_54 rfl ?_
          refine g_iadd cx dX10_differ_55 ?_
          obtain ⟨hc6, h⟩ := h
          refine g_iald cx dX10_differ_56 rfl hc6 (x := (I 220 (((400 + y3)).toNatClampNeg))) rfl ?_
          refine g_aload_n cx dX10_differ_57 rfl ?_
          refine g_getR cx lk_X10_207 rfl (Nat.le_of_ble_eq_true rfl) rfl dX10_differ_58 (v := 220) (pst hP 219 rfl) ?_
          refine g_sipush cx dX10_differ_61 sp_800 ?_
          refine g_iload_n cx dX10_differ_64 rfl ?_
          refine g_iadd cx dX10_differ_65 ?_
          obtain ⟨hc7, h⟩ := h
          refine g_iald cx dX10_differ_66 rfl hc7 (x := (I 220 (((800 + y3)).toNatClampNeg))) rfl ?_
          refine g_icmp_eq cx (tgt := 72) dX10_differ_67 rfl (fun c8 => ?_) (fun c8 => ?_)
          · have h := zifp c8 h
            refine g_iinc cx (v := (y3 + 1)) dX10_differ_72 rfl rfl (Nat.le_of_ble_eq_true rfl) (Gx.L [.ref 155, .int y1, .int y2, .int (y3 + 1)] rfl ?_)
            refine g_goto cx (tgt := 14) dX10_differ_75 rfl ?_
            exact ih _ _ _ _ _ hP h
          · have h := zifn c8 h
            refine g_iload_n cx dX10_differ_70 rfl ?_
            exact g_wi cx hE dX10_differ_71 rfl rfl hP h
def w_X10_differ (I : zI) (P : zP) (K : Int32 → zI → zP → Prop) : Prop := w_X10_kept 1 I P (fun (v1 : Int32) (I1 : zI) (P1 : zP) => (w_X10_kept 2 I1 P1 (fun (v2 : Int32) (I2 : zI) (P2 : zP) => (∃ n9, l_X10_differ_14 K n9 v1 v2 0 I2 P2))))
theorem e_X10_differ {I : zI} {P : zP} {K : Int32 → zI → zP → Prop} (hP : PSt P) (h : w_X10_differ I P K) : Ev yX10_differ cX10_differ 4 (some .int) 3 64 0 0 [.ref 155] SHy I P (zKi K) := by
  refine Ev.start [.ref 155, .float 0, .float 0, .float 0] pn_X10 rfl (Nat.le_of_ble_eq_true rfl) rfl (fun κ cx hE => ?_)
  unfold w_X10_differ at h
  refine g_aload_n cx dX10_differ_0 rfl ?_
  refine g_iconst cx dX10_differ_1 ic_1 ?_
  refine g_wVi cx [.int 1] [] (e_X10_kept hP h) mt_X10_kept ml_X10_545 rfl rfl rfl dX10_differ_2 rfl rfl (Nat.le_of_ble_eq_true rfl) (Nat.le_of_ble_eq_true rfl) (Nat.le_of_ble_eq_true rfl) (fun v1 I1 P1 hP h => ?_)
  refine g_istore_n cx dX10_differ_5 (Nat.le_of_ble_eq_true rfl) (Gx.L [.ref 155, .int v1, .float 0, .float 0] rfl ?_)
  refine g_aload_n cx dX10_differ_6 rfl ?_
  refine g_iconst cx dX10_differ_7 ic_2 ?_
  refine g_wVi cx [.int 2] [] (e_X10_kept hP h) mt_X10_kept ml_X10_545 rfl rfl rfl dX10_differ_8 rfl rfl (Nat.le_of_ble_eq_true rfl) (Nat.le_of_ble_eq_true rfl) (Nat.le_of_ble_eq_true rfl) (fun v2 I2 P2 hP h => ?_)
  refine g_istore_n cx dX10_differ_11 (Nat.le_of_ble_eq_true rfl) (Gx.L [.ref 155, .int v1, .int v2, .float 0] rfl ?_)
  refine g_iconst cx dX10_differ_12 ic_0 ?_
  refine g_istore_n cx dX10_differ_13 (Nat.le_of_ble_eq_true rfl) (Gx.L [.ref 155, .int v1, .int v2, .int 0] rfl ?_)
  obtain ⟨n9, h⟩ := h
  exact gl_X10_differ_14 cx hE n9 _ _ _ _ _ hP h
