def j_X10_handler_80 (K : Int32 → zI → zP → Prop) (y2 : Int32) (y4 : Int32) (s0 : Int32) (I : zI) (P : zP) : Prop := if y2 = 0 then (if y4 = 0 then (vp_in s0 48 ∧ (K (I 162 ((s0).toNatClampNeg)) I P)) else (if y4 = 1 then (vp_in s0 48 ∧ (K (I 163 ((s0).toNatClampNeg)) I P)) else (if y4 = 2 then (vp_in s0 48 ∧ (K (I 164 ((s0).toNatClampNeg)) I P)) else (vp_in s0 48 ∧ (K (I 165 ((s0).toNatClampNeg)) I P))))) else (if y4 = 0 then (vp_in s0 54 ∧ (K (I 180 ((s0).toNatClampNeg)) I P)) else (if y4 = 1 then (vp_in s0 54 ∧ (K (I 181 ((s0).toNatClampNeg)) I P)) else (if y4 = 2 then (vp_in s0 54 ∧ (K (I 182 ((s0).toNatClampNeg)) I P)) else (vp_in s0 54 ∧ (K (I 183 ((s0).toNatClampNeg)) I P)))))
theorem gj_X10_handler_80 {κ : zX} (cx : Cx yX10_handler cX10_handler 6 (some .int) 2 43 κ) {K : Int32 → zI → zP → Prop} (hE : zEnd (zKi K) 0 0 κ) {y2 : Int32} {y4 : Int32} {s0 : Int32} {I : zI} {P : zP} (hP : PSt P) (h : j_X10_handler_80 K y2 y4 s0 I P) : Gx κ 80 [.ref 155, .float 0, .int y2, .float 0, .int y4, .float 0] [.int s0] SHy I P 0 0 := by
  unfold j_X10_handler_80 at h
  refine g_istore cx dX10_handler_80 (Nat.le_of_ble_eq_true rfl) (Gx.L [.ref 155, .float 0, .int y2, .float 0, .int y4, .int s0] rfl ?_)
  refine g_iload_n cx dX10_handler_82 rfl ?_
  refine g_if_eq cx (tgt := 141) dX10_handler_83 rfl (fun c1 => ?_) (fun c1 => ?_)
  · have h := zifp c1 h
    refine g_iload cx dX10_handler_141 rfl ?_
    refine g_if_ne cx (tgt := 156) dX10_handler_143 rfl (fun c2 => ?_) (fun c2 => ?_)
    · have h := zifn c2 h
      refine g_iload cx dX10_handler_156 rfl ?_
      refine g_iconst cx dX10_handler_158 ic_1 ?_
      refine g_icmp_ne cx (tgt := 172) dX10_handler_159 rfl (fun c3 => ?_) (fun c3 => ?_)
      · have h := zifn c3 h
        refine g_iload cx dX10_handler_172 rfl ?_
        refine g_iconst cx dX10_handler_174 ic_2 ?_
        refine g_icmp_ne cx (tgt := 188) dX10_handler_175 rfl (fun c4 => ?_) (fun c4 => ?_)
        · have h := zifn c4 h
          refine g_aload_n cx dX10_handler_188 rfl ?_
          refine g_getR cx lk_X10_41 rfl (Nat.le_of_ble_eq_true rfl) rfl dX10_handler_189 (v := 165) (pst hP 164 rfl) ?_
          refine g_iload cx dX10_handler_192 rfl ?_
          obtain ⟨hc5, h⟩ := h
          refine g_iald cx dX10_handler_194 rfl hc5 (x := (I 165 ((s0).toNatClampNeg))) rfl ?_
          exact g_wi cx hE dX10_handler_195 rfl rfl hP h
        · have h := zifp c4 h
          refine g_aload_n cx dX10_handler_178 rfl ?_
          refine g_getR cx lk_X10_38 rfl (Nat.le_of_ble_eq_true rfl) rfl dX10_handler_179 (v := 164) (pst hP 163 rfl) ?_
          refine g_iload cx dX10_handler_182 rfl ?_
          obtain ⟨hc6, h⟩ := h
          refine g_iald cx dX10_handler_184 rfl hc6 (x := (I 164 ((s0).toNatClampNeg))) rfl ?_
          refine g_goto cx (tgt := 195) dX10_handler_185 rfl ?_
          exact g_wi cx hE dX10_handler_195 rfl rfl hP h
      · have h := zifp c3 h
        refine g_aload_n cx dX10_handler_162 rfl ?_
        refine g_getR cx lk_X10_35 rfl (Nat.le_of_ble_eq_true rfl) rfl dX10_handler_163 (v := 163) (pst hP 162 rfl) ?_
        refine g_iload cx dX10_handler_166 rfl ?_
        obtain ⟨hc7, h⟩ := h
        refine g_iald cx dX10_handler_168 rfl hc7 (x := (I 163 ((s0).toNatClampNeg))) rfl ?_
        refine g_goto cx (tgt := 195) dX10_handler_169 rfl ?_
        exact g_wi cx hE dX10_handler_195 rfl rfl hP h
    · have h := zifp c2 h
      refine g_aload_n cx dX10_handler_146 rfl ?_
      refine g_getR cx lk_X10_32 rfl (Nat.le_of_ble_eq_true rfl) rfl dX10_handler_147 (v := 162) (pst hP 161 rfl) ?_
      refine g_iload cx dX10_handler_150 rfl ?_
      obtain ⟨hc8, h⟩ := h
      refine g_iald cx dX10_handler_152 rfl hc8 (x := (I 162 ((s0).toNatClampNeg))) rfl ?_
      refine g_goto cx (tgt := 195) dX10_handler_153 rfl ?_
      exact g_wi cx hE dX10_handler_195 rfl rfl hP h
  · have h := zifn c1 h
    refine g_iload cx dX10_handler_86 rfl ?_
    refine g_if_ne cx (tgt := 101) dX10_handler_88 rfl (fun c9 => ?_) (fun c9 => ?_)
    · have h := zifn c9 h
      refine g_iload cx dX10_handler_101 rfl ?_
      refine g_iconst cx dX10_handler_103 ic_1 ?_
      refine g_icmp_ne cx (tgt := 117) dX10_handler_104 rfl (fun c10 => ?_) (fun c10 => ?_)
      · have h := zifn c10 h
        refine g_iload cx dX10_handler_117 rfl ?_
        refine g_iconst cx dX10_handler_119 ic_2 ?_
        refine g_icmp_ne cx (tgt := 133) dX10_handler_120 rfl (fun c11 => ?_) (fun c11 => ?_)
        · have h := zifn c11 h
          refine g_aload_n cx dX10_handler_133 rfl ?_
          refine g_getR cx lk_X10_96 rfl (Nat.le_of_ble_eq_true rfl) rfl dX10_handler_134 (v := 183) (pst hP 182 rfl) ?_
          refine g_iload cx dX10_handler_137 rfl ?_
          obtain ⟨hc12, h⟩ := h
          refine g_iald cx dX10_handler_139 rfl hc12 (x := (I 183 ((s0).toNatClampNeg))) rfl ?_
          exact g_wi cx hE dX10_handler_140 rfl rfl hP h
        · have h := zifp c11 h
          refine g_aload_n cx dX10_handler_123 rfl ?_
          refine g_getR cx lk_X10_93 rfl (Nat.le_of_ble_eq_true rfl) rfl dX10_handler_124 (v := 182) (pst hP 181 rfl) ?_
          refine g_iload cx dX10_handler_127 rfl ?_
          obtain ⟨hc13, h⟩ := h
          refine g_iald cx dX10_handler_129 rfl hc13 (x := (I 182 ((s0).toNatClampNeg))) rfl ?_
          refine g_goto cx (tgt := 140) dX10_handler_130 rfl ?_
          exact g_wi cx hE dX10_handler_140 rfl rfl hP h
      · have h := zifp c10 h
        refine g_aload_n cx dX10_handler_107 rfl ?_
        refine g_getR cx lk_X10_90 rfl (Nat.le_of_ble_eq_true rfl) rfl dX10_handler_108 (v := 181) (pst hP 180 rfl) ?_
        refine g_iload cx dX10_handler_111 rfl ?_
        obtain ⟨hc14, h⟩ := h
        refine g_iald cx dX10_handler_113 rfl hc14 (x := (I 181 ((s0).toNatClampNeg))) rfl ?_
        refine g_goto cx (tgt := 140) dX10_handler_114 rfl ?_
        exact g_wi cx hE dX10_handler_140 rfl rfl hP h
    · have h := zifp c9 h
      refine g_aload_n cx dX10_handler_91 rfl ?_
      refine g_getR cx lk_X10_87 rfl (Nat.le_of_ble_eq_true rfl) rfl dX10_handler_92 (v := 180) (pst hP 179 rfl) ?_
      refine g_iload cx dX10_handler_95 rfl ?_
      obtain ⟨hc15, h⟩ := h
      refine g_iald cx dX10_handler_97 rfl hc15 (x := (I 180 ((s0).toNatClampNeg))) rfl ?_
      refine g_goto cx (tgt := 140) dX10_handler_98 rfl ?_
      exact g_wi cx hE dX10_handler_140 rfl rfl hP h
def j_X10_handler_51 (K : Int32 → zI → zP → Prop) (y1 : Int32) (y2 : Int32) (y3 : Int32) (y4 : Int32) (s0 : Int32) (s1 : Int32) (s2 : Int32) (I : zI) (P : zP) : Prop := w_X10_in s2 s1 (s0 - 1) I P (fun (v1 : Int32) (I1 : zI) (P1 : zP) => (if v1 = 0 then (K (-1) I1 P1) else (if y2 = 0 then (j_X10_handler_80 K y2 y4 ((8 * y1) + y3) I1 P1) else (j_X10_handler_80 K y2 y4 ((9 * y1) + y3) I1 P1))))
theorem gj_X10_handler_51 {κ : zX} (cx : Cx yX10_handler cX10_handler 6 (some .int) 2 43 κ) {K : Int32 → zI → zP → Prop} (hE : zEnd (zKi K) 0 0 κ) {y1 : Int32} {y2 : Int32} {y3 : Int32} {y4 : Int32} {s0 : Int32} {s1 : Int32} {s2 : Int32} {I : zI} {P : zP} (hP : PSt P) (h : j_X10_handler_51 K y1 y2 y3 y4 s0 s1 s2 I P) : Gx κ 51 [.ref 155, .int y1, .int y2, .int y3, .int y4, .float 0] [.int s0, .int s1, .int s2] SHy I P 0 0 := by
  unfold j_X10_handler_51 at h
  refine g_iconst cx dX10_handler_51 ic_1 ?_
  refine g_isub cx dX10_handler_52 ?_
  refine g_wSi cx [.int s2, .int s1, .int (s0 - 1)] [] (e_X10_in hP h) mt_X10_in ml_X10_217 dX10_handler_53 rfl rfl (Nat.le_of_ble_eq_true rfl) (Nat.le_of_ble_eq_true rfl) (Nat.le_of_ble_eq_true rfl) (fun v1 I1 P1 hP h => ?_)
  refine g_if_ne cx (tgt := 61) dX10_handler_56 rfl (fun c2 => ?_) (fun c2 => ?_)
  · have h := zifn c2 h
    refine g_iload_n cx dX10_handler_61 rfl ?_
    refine g_if_eq cx (tgt := 74) dX10_handler_62 rfl (fun c3 => ?_) (fun c3 => ?_)
    · have h := zifp c3 h
      refine g_bipush cx dX10_handler_74 bp_8 ?_
      refine g_iload_n cx dX10_handler_76 rfl ?_
      refine g_imul cx dX10_handler_77 ?_
      refine g_iload_n cx dX10_handler_78 rfl ?_
      refine g_iadd cx dX10_handler_79 ?_
      refine (Gx.unset 1 (Gx.unset 3 (Gx.L [.ref 155, .float 0, .int y2, .float 0, .int y4, .float 0] rfl ?_)))
      exact gj_X10_handler_80 cx hE hP h
    · have h := zifn c3 h
      refine g_bipush cx dX10_handler_65 bp_9 ?_
      refine g_iload_n cx dX10_handler_67 rfl ?_
      refine g_imul cx dX10_handler_68 ?_
      refine g_iload_n cx dX10_handler_69 rfl ?_
      refine g_iadd cx dX10_handler_70 ?_
      refine g_goto cx (tgt := 80) dX10_handler_71 rfl ?_
      refine (Gx.unset 1 (Gx.unset 3 (Gx.L [.ref 155, .float 0, .int y2, .float 0, .int y4, .float 0] rfl ?_)))
      exact gj_X10_handler_80 cx hE hP h
  · have h := zifp c2 h
    refine g_iconst cx dX10_handler_59 ic_m1 ?_
    exact g_wi cx hE dX10_handler_60 rfl rfl hP h
def j_X10_handler_30 (K : Int32 → zI → zP → Prop) (y1 : Int32) (y2 : Int32) (y3 : Int32) (y4 : Int32) (I : zI) (P : zP) : Prop := if y2 = 0 then (vp_in y1 6 ∧ (j_X10_handler_51 K y1 y2 y3 y4 (I 161 ((y1).toNatClampNeg)) 0 y3 I P)) else (vp_in y1 6 ∧ (j_X10_handler_51 K y1 y2 y3 y4 (I 179 ((y1).toNatClampNeg)) 0 y3 I P))
theorem gj_X10_handler_30 {κ : zX} (cx : Cx yX10_handler cX10_handler 6 (some .int) 2 43 κ) {K : Int32 → zI → zP → Prop} (hE : zEnd (zKi K) 0 0 κ) {y1 : Int32} {y2 : Int32} {y3 : Int32} {y4 : Int32} {I : zI} {P : zP} (hP : PSt P) (h : j_X10_handler_30 K y1 y2 y3 y4 I P) : Gx κ 30 [.ref 155, .int y1, .int y2, .int y3, .int y4, .float 0] [] SHy I P 0 0 := by
  unfold j_X10_handler_30 at h
  refine g_iload_n cx dX10_handler_30 rfl ?_
  refine g_iconst cx dX10_handler_31 ic_0 ?_
  refine g_iload_n cx dX10_handler_32 rfl ?_
  refine g_if_eq cx (tgt := 45) dX10_handler_33 rfl (fun c1 => ?_) (fun c1 => ?_)
  · have h := zifp c1 h
    refine g_aload_n cx dX10_handler_45 rfl ?_
    refine g_getR cx lk_X10_29 rfl (Nat.le_of_ble_eq_true rfl) rfl dX10_handler_46 (v := 161) (pst hP 160 rfl) ?_
    refine g_iload_n cx dX10_handler_49 rfl ?_
    obtain ⟨hc2, h⟩ := h
    refine g_iald cx dX10_handler_50 rfl hc2 (x := (I 161 ((y1).toNatClampNeg))) rfl ?_
    exact gj_X10_handler_51 cx hE hP h
  · have h := zifn c1 h
    refine g_aload_n cx dX10_handler_36 rfl ?_
    refine g_getR cx lk_X10_84 rfl (Nat.le_of_ble_eq_true rfl) rfl dX10_handler_37 (v := 179) (pst hP 178 rfl) ?_
    refine g_iload_n cx dX10_handler_40 rfl ?_
    obtain ⟨hc3, h⟩ := h
    refine g_iald cx dX10_handler_41 rfl hc3 (x := (I 179 ((y1).toNatClampNeg))) rfl ?_
    refine g_goto cx (tgt := 51) dX10_handler_42 rfl ?_
    exact gj_X10_handler_51 cx hE hP h
def w_X10_handler (x1 : Int32) (x2 : Int32) (x3 : Int32) (x4 : Int32) (I : zI) (P : zP) (K : Int32 → zI → zP → Prop) : Prop := w_X10_isMethod x1 I P (fun (v1 : Int32) (I1 : zI) (P1 : zP) => (if v1 = 0 then (K (-1) I1 P1) else (w_X10_in x4 0 3 I1 P1 (fun (v3 : Int32) (I3 : zI) (P3 : zP) => (if v3 = 0 then (K (-1) I3 P3) else (if x2 = 0 then (j_X10_handler_30 K x1 x2 x3 x4 I3 P3) else (w_X10_isWoven x1 I3 P3 (fun (v6 : Int32) (I6 : zI) (P6 : zP) => (if v6 = 0 then (K (-1) I6 P6) else (j_X10_handler_30 K x1 x2 x3 x4 I6 P6))))))))))
theorem e_X10_handler {x1 : Int32} {x2 : Int32} {x3 : Int32} {x4 : Int32} {I : zI} {P : zP} {K : Int32 → zI → zP → Prop} (hP : PSt P) (h : w_X10_handler x1 x2 x3 x4 I P K) : Ev yX10_handler cX10_handler 6 (some .int) 2 43 0 0 [.ref 155, .int x1, .int x2, .int x3, .int x4] SHy I P (zKi K) := by
  refine Ev.start [.ref 155, .int x1, .int x2, .int x3, .int x4, .float 0] pn_X10 rfl (Nat.le_of_ble_eq_true rfl) rfl (fun κ cx hE => ?_)
  unfold w_X10_handler at h
  refine g_aload_n cx dX10_handler_0 rfl ?_
  refine g_iload_n cx dX10_handler_1 rfl ?_
  refine g_wVi cx [.int x1] [] (e_X10_isMethod hP h) mt_X10_isMethod ml_X10_318 rfl rfl rfl dX10_handler_2 rfl rfl (Nat.le_of_ble_eq_true rfl) (Nat.le_of_ble_eq_true rfl) (Nat.le_of_ble_eq_true rfl) (fun v1 I1 P1 hP h => ?_)
  refine g_if_eq cx (tgt := 59) dX10_handler_5 rfl (fun c2 => ?_) (fun c2 => ?_)
  · have h := zifp c2 h
    refine g_iconst cx dX10_handler_59 ic_m1 ?_
    exact g_wi cx hE dX10_handler_60 rfl rfl hP h
  · have h := zifn c2 h
    refine g_iload cx dX10_handler_8 rfl ?_
    refine g_iconst cx dX10_handler_10 ic_0 ?_
    refine g_iconst cx dX10_handler_11 ic_3 ?_
    refine g_wSi cx [.int x4, .int 0, .int 3] [] (e_X10_in hP h) mt_X10_in ml_X10_217 dX10_handler_12 rfl rfl (Nat.le_of_ble_eq_true rfl) (Nat.le_of_ble_eq_true rfl) (Nat.le_of_ble_eq_true rfl) (fun v3 I3 P3 hP h => ?_)
    refine g_if_eq cx (tgt := 59) dX10_handler_15 rfl (fun c4 => ?_) (fun c4 => ?_)
    · have h := zifp c4 h
      refine g_iconst cx dX10_handler_59 ic_m1 ?_
      exact g_wi cx hE dX10_handler_60 rfl rfl hP h
    · have h := zifn c4 h
      refine g_iload_n cx dX10_handler_18 rfl ?_
      refine g_if_eq cx (tgt := 30) dX10_handler_19 rfl (fun c5 => ?_) (fun c5 => ?_)
      · have h := zifp c5 h
        exact gj_X10_handler_30 cx hE hP h
      · have h := zifn c5 h
        refine g_aload_n cx dX10_handler_22 rfl ?_
        refine g_iload_n cx dX10_handler_23 rfl ?_
        refine g_wVi cx [.int x1] [] (e_X10_isWoven hP h) mt_X10_isWoven ml_X10_325 rfl rfl rfl dX10_handler_24 rfl rfl (Nat.le_of_ble_eq_true rfl) (Nat.le_of_ble_eq_true rfl) (Nat.le_of_ble_eq_true rfl) (fun v6 I6 P6 hP h => ?_)
        refine g_if_eq cx (tgt := 59) dX10_handler_27 rfl (fun c7 => ?_) (fun c7 => ?_)
        · have h := zifp c7 h
          refine g_iconst cx dX10_handler_59 ic_m1 ?_
          exact g_wi cx hE dX10_handler_60 rfl rfl hP h
        · have h := zifn c7 h
          exact gj_X10_handler_30 cx hE hP h
def j_X10_instructions_93 (X8 : Int32 → Int32 → Int32 → Int32 → Int32 → zI → zP → Prop) (K : Int32 → zI → zP → Prop) (y1 : Int32) (y2 : Int32) (y3 : Int32) (y4 : Int32) (y5 : Int32) (I : zI) (P : zP) : Prop := X8 y1 y2 y3 y4 (y5 + 1) I P
theorem gj_X10_instructions_93 {κ : zX} (cx : Cx yX10_instructions cX10_instructions 6 (some .int) 0 0 κ) {K : Int32 → zI → zP → Prop} (hE : zEnd (zKi K) 0 0 κ) {X8 : Int32 → Int32 → Int32 → Int32 → Int32 → zI → zP → Prop} (hX8 : ∀ (y1 : Int32) (y2 : Int32) (y3 : Int32) (y4 : Int32) (y5 : Int32) (I : zI) (P : zP), PSt P → X8 y1 y2 y3 y4 y5 I P → Gx κ 8 [.ref 155, .int y1, .int y2, .int y3, .int y4, .int y5] [] SHy I P 0 0) {y1 : Int32} {y2 : Int32} {y3 : Int32} {y4 : Int32} {y5 : Int32} {I : zI} {P : zP} (hP : PSt P) (h : j_X10_instructions_93 X8 K y1 y2 y3 y4 y5 I P) : Gx κ 93 [.ref 155, .int y1, .int y2, .int y3, .int y4, .int y5] [] SHy I P 0 0 := by
  unfold j_X10_instructions_93 at h
  refine g_iload cx dX10_instructions_93 rfl ?_
  refine g_istore cx dX10_instructions_95 (Nat.le_of_ble_eq_true rfl) (Gx.L [.ref 155, .int y1, .int y2, .int y3, .int y4, .int y5] rfl ?_)
  refine g_iinc cx (v := (y5 + 1)) dX10_instructions_97 rfl rfl (Nat.le_of_ble_eq_true rfl) (Gx.L [.ref 155, .int y1, .int y2, .int y3, .int y4, .int (y5 + 1)] rfl ?_)
  refine g_goto cx (tgt := 8) dX10_instructions_100 rfl ?_
  exact hX8 _ _ _ _ _ _ _ hP h
def j_X10_instructions_42 (X8 : Int32 → Int32 → Int32 → Int32 → Int32 → zI → zP → Prop) (K : Int32 → zI → zP → Prop) (y1 : Int32) (y2 : Int32) (y4 : Int32) (y5 : Int32) (s0 : Int32) (I : zI) (P : zP) : Prop := vp_in ((400 * y1) + y5) 2400 ∧ (if (I 166 ((((400 * y1) + y5)).toNatClampNeg)) = 0 then (j_X10_instructions_93 X8 K y1 y2 s0 y4 y5 I P) else (vp_in ((400 * y1) + y5) 2400 ∧ (if (I 167 ((((400 * y1) + y5)).toNatClampNeg)) ≤ y4 then (j_X10_instructions_93 X8 K y1 y2 s0 y4 y5 I P) else (vp_in ((400 * y1) + y5) 2400 ∧ (X8 y1 y2 s0 (I 167 ((((400 * y1) + y5)).toNatClampNeg)) (y5 + 1) I P)))))
theorem gj_X10_instructions_42 {κ : zX} (cx : Cx yX10_instructions cX10_instructions 6 (some .int) 0 0 κ) {K : Int32 → zI → zP → Prop} (hE : zEnd (zKi K) 0 0 κ) {X8 : Int32 → Int32 → Int32 → Int32 → Int32 → zI → zP → Prop} (hX8 : ∀ (y1 : Int32) (y2 : Int32) (y3 : Int32) (y4 : Int32) (y5 : Int32) (I : zI) (P : zP), PSt P → X8 y1 y2 y3 y4 y5 I P → Gx κ 8 [.ref 155, .int y1, .int y2, .int y3, .int y4, .int y5] [] SHy I P 0 0) {y1 : Int32} {y2 : Int32} {y4 : Int32} {y5 : Int32} {s0 : Int32} {I : zI} {P : zP} (hP : PSt P) (h : j_X10_instructions_42 X8 K y1 y2 y4 y5 s0 I P) : Gx κ 42 [.ref 155, .int y1, .int y2, .float 0, .int y4, .int y5] [.int s0] SHy I P 0 0 := by
  unfold j_X10_instructions_42 at h
  refine g_istore_n cx dX10_instructions_42 (Nat.le_of_ble_eq_true rfl) (Gx.L [.ref 155, .int y1, .int y2, .int s0, .int y4, .int y5] rfl ?_)
  refine g_aload_n cx dX10_instructions_43 rfl ?_
  refine g_getR cx lk_X10_44 rfl (Nat.le_of_ble_eq_true rfl) rfl dX10_instructions_44 (v := 166) (pst hP 165 rfl) ?_
  refine g_sipush cx dX10_instructions_47 sp_400 ?_
  refine g_iload_n cx dX10_instructions_50 rfl ?_
  refine g_imul cx dX10_instructions_51 ?_
  refine g_iload cx dX10_instructions_52 rfl ?_
  refine g_iadd cx dX10_instructions_54 ?_
  obtain ⟨hc1, h⟩ := h
  refine g_bald cx dX10_instructions_55 rfl hc1 (x := (I 166 ((((400 * y1) + y5)).toNatClampNeg))) rfl ?_
  refine g_if_eq cx (tgt := 93) dX10_instructions_56 rfl (fun c2 => ?_) (fun c2 => ?_)
  · have h := zifp c2 h
    exact gj_X10_instructions_93 cx hE hX8 hP h
  · have h := zifn c2 h
    refine g_aload_n cx dX10_instructions_59 rfl ?_
    refine g_getR cx lk_X10_48 rfl (Nat.le_of_ble_eq_true rfl) rfl dX10_instructions_60 (v := 167) (pst hP 166 rfl) ?_
    refine g_sipush cx dX10_instructions_63 sp_400 ?_
    refine g_iload_n cx dX10_instructions_66 rfl ?_
    refine g_imul cx dX10_instructions_67 ?_
    refine g_iload cx dX10_instructions_68 rfl ?_
    refine g_iadd cx dX10_instructions_70 ?_
    obtain ⟨hc3, h⟩ := h
    refine g_iald cx dX10_instructions_71 rfl hc3 (x := (I 167 ((((400 * y1) + y5)).toNatClampNeg))) rfl ?_
    refine g_iload cx dX10_instructions_72 rfl ?_
    refine g_icmp_le cx (tgt := 93) dX10_instructions_74 rfl (fun c4 => ?_) (fun c4 => ?_)
    · have h := zifp c4 h
      exact gj_X10_instructions_93 cx hE hX8 hP h
    · have h := zifn c4 h
      refine g_aload_n cx dX10_instructions_77 rfl ?_
      refine g_getR cx lk_X10_48 rfl (Nat.le_of_ble_eq_true rfl) rfl dX10_instructions_78 (v := 167) (pst hP 166 rfl) ?_
      refine g_sipush cx dX10_instructions_81 sp_400 ?_
      refine g_iload_n cx dX10_instructions_84 rfl ?_
      refine g_imul cx dX10_instructions_85 ?_
      refine g_iload cx dX10_instructions_86 rfl ?_
      refine g_iadd cx dX10_instructions_88 ?_
      obtain ⟨hc5, h⟩ := h
      refine g_iald cx dX10_instructions_89 rfl hc5 (x := (I 167 ((((400 * y1) + y5)).toNatClampNeg))) rfl ?_
      refine g_goto cx (tgt := 95) dX10_instructions_90 rfl ?_
      refine g_istore cx dX10_instructions_95 (Nat.le_of_ble_eq_true rfl) (Gx.L [.ref 155, .int y1, .int y2, .int s0, .int (I 167 ((((400 * y1) + y5)).toNatClampNeg)), .int y5] rfl ?_)
      refine g_iinc cx (v := (y5 + 1)) dX10_instructions_97 rfl rfl (Nat.le_of_ble_eq_true rfl) (Gx.L [.ref 155, .int y1, .int y2, .int s0, .int (I 167 ((((400 * y1) + y5)).toNatClampNeg)), .int (y5 + 1)] rfl ?_)
      refine g_goto cx (tgt := 8) dX10_instructions_100 rfl ?_
      exact hX8 _ _ _ _ _ _ _ hP h
def l_X10_instructions_8 (K : Int32 → zI → zP → Prop) : Nat → Int32 → Int32 → Int32 → Int32 → Int32 → zI → zP → Prop
  | 0, _, _, _, _, _, _, _ => False
  | n + 1, y1, y2, y3, y4, y5, I, P => vp_in y1 6 ∧ (if (I 159 ((y1).toNatClampNeg)) ≤ y5 then (if y2 = 0 then (K y3 I P) else (K y4 I P)) else (vp_in ((400 * y1) + y5) 2400 ∧ (if (I 166 ((((400 * y1) + y5)).toNatClampNeg)) = 0 then (j_X10_instructions_42 (l_X10_instructions_8 K n) K y1 y2 y4 y5 y3 I P) else (j_X10_instructions_42 (l_X10_instructions_8 K n) K y1 y2 y4 y5 (y3 + 1) I P))))
theorem gl_X10_instructions_8 {κ : zX} (cx : Cx yX10_instructions cX10_instructions 6 (some .int) 0 0 κ) {K : Int32 → zI → zP → Prop} (hE : zEnd (zKi K) 0 0 κ) : ∀ (n : Nat) (y1 : Int32) (y2 : Int32) (y3 : Int32) (y4 : Int32) (y5 : Int32) (I : zI) (P : zP), PSt P → l_X10_instructions_8 K n y1 y2 y3 y4 y5 I P → Gx κ 8 [.ref 155, .int y1, .int y2, .int y3, .int y4, .int y5] [] SHy I P 0 0 := by
  intro n
  induction n with
  | zero =>
    intro y1 y2 y3 y4 y5 I P hP h
    rw [l_X10_instructions_8] at h
    exact False.elim h
  | succ n ih =>
    intro y1 y2 y3 y4 y5 I P hP h
    rw [l_X10_instructions_8] at h
    refine g_iload cx dX10_instructions_8 rfl ?_
    refine g_aload_n cx dX10_instructions_10 rfl ?_
    refine g_getR cx lk_X10_23 rfl (Nat.le_of_ble_eq_true rfl) rfl dX10_instructions_11 (v := 159) (pst hP 158 rfl) ?_
    refine g_iload_n cx dX10_instructions_14 rfl ?_
    obtain ⟨hc1, h⟩ := h
    refine g_iald cx dX10_instructions_15 rfl hc1 (x := (I 159 ((y1).toNatClampNeg))) rfl ?_
    refine g_icmp_ge cx (tgt := 103) dX10_instructions_16 rfl (fun c2 => ?_) (fun c2 => ?_)
    · have h := zifp c2 h
      refine g_iload_n cx dX10_instructions_103 rfl ?_
      refine g_if_eq cx (tgt := 112) dX10_instructions_104 rfl (fun c3 => ?_) (fun c3 => ?_)
      · have h := zifp c3 h
        refine g_iload_n cx dX10_instructions_112 rfl ?_
        exact g_wi cx hE dX10_instructions_113 rfl rfl hP h
      · have h := zifn c3 h
        refine g_iload cx dX10_instructions_107 rfl ?_
        refine g_goto cx (tgt := 113) dX10_instructions_109 rfl ?_
        exact g_wi cx hE dX10_instructions_113 rfl rfl hP h
    · have h := zifn c2 h
      refine g_aload_n cx dX10_instructions_19 rfl ?_
      refine g_getR cx lk_X10_44 rfl (Nat.le_of_ble_eq_true rfl) rfl dX10_instructions_20 (v := 166) (pst hP 165 rfl) ?_
      refine g_sipush cx dX10_instructions_23 sp_400 ?_
      refine g_iload_n cx dX10_instructions_26 rfl ?_
      refine g_imul cx dX10_instructions_27 ?_
      refine g_iload cx dX10_instructions_28 rfl ?_
      refine g_iadd cx dX10_instructions_30 ?_
      obtain ⟨hc4, h⟩ := h
      refine g_bald cx dX10_instructions_31 rfl hc4 (x := (I 166 ((((400 * y1) + y5)).toNatClampNeg))) rfl ?_
      refine g_if_eq cx (tgt := 41) dX10_instructions_32 rfl (fun c5 => ?_) (fun c5 => ?_)
      · have h := zifp c5 h
        refine g_iload_n cx dX10_instructions_41 rfl ?_
        refine (Gx.unset 3 (Gx.L [.ref 155, .int y1, .int y2, .float 0, .int y4, .int y5] rfl ?_))
        exact gj_X10_instructions_42 cx hE ih hP h
      · have h := zifn c5 h
        refine g_iload_n cx dX10_instructions_35 rfl ?_
        refine g_iconst cx dX10_instructions_36 ic_1 ?_
        refine g_iadd cx dX10_instructions_37 ?_
        refine g_goto cx (tgt := 42) dX10_instructions_38 rfl ?_
        refine (Gx.unset 3 (Gx.L [.ref 155, .int y1, .int y2, .float 0, .int y4, .int y5] rfl ?_))
        exact gj_X10_instructions_42 cx hE ih hP h
def w_X10_instructions (x1 : Int32) (x2 : Int32) (I : zI) (P : zP) (K : Int32 → zI → zP → Prop) : Prop := ∃ n9, l_X10_instructions_8 K n9 x1 x2 0 0 0 I P
theorem e_X10_instructions {x1 : Int32} {x2 : Int32} {I : zI} {P : zP} {K : Int32 → zI → zP → Prop} (hP : PSt P) (h : w_X10_instructions x1 x2 I P K) : Ev yX10_instructions cX10_instructions 6 (some .int) 0 0 0 0 [.ref 155, .int x1, .int x2] SHy I P (zKi K) := by
  refine Ev.start [.ref 155, .int x1, .int x2, .float 0, .float 0, .float 0] pn_X10 rfl (Nat.le_of_ble_eq_true rfl) rfl (fun κ cx hE => ?_)
  unfold w_X10_instructions at h
  refine g_iconst cx dX10_instructions_0 ic_0 ?_
  refine g_istore_n cx dX10_instructions_1 (Nat.le_of_ble_eq_true rfl) (Gx.L [.ref 155, .int x1, .int x2, .int 0, .float 0, .float 0] rfl ?_)
  refine g_iconst cx dX10_instructions_2 ic_0 ?_
  refine g_istore cx dX10_instructions_3 (Nat.le_of_ble_eq_true rfl) (Gx.L [.ref 155, .int x1, .int x2, .int 0, .int 0, .float 0] rfl ?_)
  refine g_iconst cx dX10_instructions_5 ic_0 ?_
  refine g_istore cx dX10_instructions_6 (Nat.le_of_ble_eq_true rfl) (Gx.L [.ref 155, .int x1, .int x2, .int 0, .int 0, .int 0] rfl ?_)
  obtain ⟨n9, h⟩ := h
  exact gl_X10_instructions_8 cx hE n9 _ _ _ _ _ _ _ hP h
def w_X10_isBegin (x1 : Int32) (x2 : Int32) (I : zI) (P : zP) (K : Int32 → zI → zP → Prop) : Prop := vp_in x1 6 ∧ (w_X10_in x2 0 ((I 159 ((x1).toNatClampNeg)) - 1) I P (fun (v2 : Int32) (I2 : zI) (P2 : zP) => (if v2 = 0 then (K 0 I2 P2) else (vp_in ((400 * x1) + x2) 2400 ∧ (if (I2 166 ((((400 * x1) + x2)).toNatClampNeg)) = 0 then (K 0 I2 P2) else (K 1 I2 P2))))))
theorem e_X10_isBegin {x1 : Int32} {x2 : Int32} {I : zI} {P : zP} {K : Int32 → zI → zP → Prop} (hP : PSt P) (h : w_X10_isBegin x1 x2 I P K) : Ev yX10_isBegin cX10_isBegin 3 (some .boolean) 1 22 0 0 [.ref 155, .int x1, .int x2] SHy I P (zKi K) := by
  refine Ev.start [.ref 155, .int x1, .int x2] pn_X10 rfl (Nat.le_of_ble_eq_true rfl) rfl (fun κ cx hE => ?_)
  unfold w_X10_isBegin at h
  refine g_iload_n cx dX10_isBegin_0 rfl ?_
  refine g_iconst cx dX10_isBegin_1 ic_0 ?_
  refine g_aload_n cx dX10_isBegin_2 rfl ?_
  refine g_getR cx lk_X10_23 rfl (Nat.le_of_ble_eq_true rfl) rfl dX10_isBegin_3 (v := 159) (pst hP 158 rfl) ?_
  refine g_iload_n cx dX10_isBegin_6 rfl ?_
  obtain ⟨hc1, h⟩ := h
  refine g_iald cx dX10_isBegin_7 rfl hc1 (x := (I 159 ((x1).toNatClampNeg))) rfl ?_
  refine g_iconst cx dX10_isBegin_8 ic_1 ?_
  refine g_isub cx dX10_isBegin_9 ?_
  refine g_wSi cx [.int x2, .int 0, .int ((I 159 ((x1).toNatClampNeg)) - 1)] [] (e_X10_in hP h) mt_X10_in ml_X10_217 dX10_isBegin_10 rfl rfl (Nat.le_of_ble_eq_true rfl) (Nat.le_of_ble_eq_true rfl) (Nat.le_of_ble_eq_true rfl) (fun v2 I2 P2 hP h => ?_)
  refine g_if_eq cx (tgt := 35) dX10_isBegin_13 rfl (fun c3 => ?_) (fun c3 => ?_)
  · have h := zifp c3 h
    refine g_iconst cx dX10_isBegin_35 ic_0 ?_
    exact g_wi cx hE dX10_isBegin_36 rfl rfl hP h
  · have h := zifn c3 h
    refine g_aload_n cx dX10_isBegin_16 rfl ?_
    refine g_getR cx lk_X10_44 rfl (Nat.le_of_ble_eq_true rfl) rfl dX10_isBegin_17 (v := 166) (pst hP 165 rfl) ?_
    refine g_sipush cx dX10_isBegin_20 sp_400 ?_
    refine g_iload_n cx dX10_isBegin_23 rfl ?_
    refine g_imul cx dX10_isBegin_24 ?_
    refine g_iload_n cx dX10_isBegin_25 rfl ?_
    refine g_iadd cx dX10_isBegin_26 ?_
    obtain ⟨hc4, h⟩ := h
    refine g_bald cx dX10_isBegin_27 rfl hc4 (x := (I2 166 ((((400 * x1) + x2)).toNatClampNeg))) rfl ?_
    refine g_if_eq cx (tgt := 35) dX10_isBegin_28 rfl (fun c5 => ?_) (fun c5 => ?_)
    · have h := zifp c5 h
      refine g_iconst cx dX10_isBegin_35 ic_0 ?_
      exact g_wi cx hE dX10_isBegin_36 rfl rfl hP h
    · have h := zifn c5 h
      refine g_iconst cx dX10_isBegin_31 ic_1 ?_
      refine g_goto cx (tgt := 36) dX10_isBegin_32 rfl ?_
      exact g_wi cx hE dX10_isBegin_36 rfl rfl hP h
def j_X10_keep_484 (K : zI → zP → Prop) (y1 : Int32) (y4 : Int32) (s0 : Int32) (s1 : Int32) (I : zI) (P : zP) : Prop := vp_in s1 54 ∧ (vp_in y4 54 ∧ (vp_in y4 54 ∧ (vp_in y1 6 ∧ (vp_in y1 6 ∧ (K (zu (zu (zu (zu I 181 ((s1).toNatClampNeg) s0) 182 ((y4).toNatClampNeg) ((zu I 181 ((s1).toNatClampNeg) s0) 155 48)) 183 ((y4).toNatClampNeg) 0) 179 ((y1).toNatClampNeg) (((zu (zu (zu I 181 ((s1).toNatClampNeg) s0) 182 ((y4).toNatClampNeg) ((zu I 181 ((s1).toNatClampNeg) s0) 155 48)) 183 ((y4).toNatClampNeg) 0) 179 ((y1).toNatClampNeg)) + 1)) P)))))
theorem gj_X10_keep_484 {κ : zX} (cx : Cx yX10_keep cX10_keep 7 none 2 51 κ) {K : zI → zP → Prop} (hE : zEnd (zKv K) 0 0 κ) {y1 : Int32} {y4 : Int32} {s0 : Int32} {s1 : Int32} {I : zI} {P : zP} (hP : PSt P) (h : j_X10_keep_484 K y1 y4 s0 s1 I P) : Gx κ 484 [.ref 155, .int y1, .float 0, .float 0, .int y4, .float 0, .float 0] [.int s0, .int s1, .ref 181] SHy I P 0 0 := by
  unfold j_X10_keep_484 at h
  obtain ⟨hc1, h⟩ := h
  refine g_iast cx dX10_keep_484 rfl hc1 ?_
  refine g_aload_n cx dX10_keep_485 rfl ?_
  refine g_getR cx lk_X10_93 rfl (Nat.le_of_ble_eq_true rfl) rfl dX10_keep_486 (v := 182) (pst hP 181 rfl) ?_
  refine g_iload cx dX10_keep_489 rfl ?_
  refine g_aload_n cx dX10_keep_491 rfl ?_
  refine g_getI cx lk_X10_373 rfl (Nat.le_of_ble_eq_true rfl) rfl dX10_keep_492 (x := ((zu I 181 ((s1).toNatClampNeg) s0) 155 48)) rfl ?_
  obtain ⟨hc2, h⟩ := h
  refine g_iast cx dX10_keep_495 rfl hc2 ?_
  refine g_aload_n cx dX10_keep_496 rfl ?_
  refine g_getR cx lk_X10_96 rfl (Nat.le_of_ble_eq_true rfl) rfl dX10_keep_497 (v := 183) (pst hP 182 rfl) ?_
  refine g_iload cx dX10_keep_500 rfl ?_
  refine g_iconst cx dX10_keep_502 ic_0 ?_
  obtain ⟨hc3, h⟩ := h
  refine g_iast cx dX10_keep_503 rfl hc3 ?_
  refine g_aload_n cx dX10_keep_504 rfl ?_
  refine g_getR cx lk_X10_84 rfl (Nat.le_of_ble_eq_true rfl) rfl dX10_keep_505 (v := 179) (pst hP 178 rfl) ?_
  refine g_iload_n cx dX10_keep_508 rfl ?_
  refine g_dup2 cx dX10_keep_509 rfl rfl ?_
  obtain ⟨hc4, h⟩ := h
  refine g_iald cx dX10_keep_510 rfl hc4 (x := ((zu (zu (zu I 181 ((s1).toNatClampNeg) s0) 182 ((y4).toNatClampNeg) ((zu I 181 ((s1).toNatClampNeg) s0) 155 48)) 183 ((y4).toNatClampNeg) 0) 179 ((y1).toNatClampNeg))) rfl ?_
  refine g_iconst cx dX10_keep_511 ic_1 ?_
  refine g_iadd cx dX10_keep_512 ?_
  obtain ⟨hc5, h⟩ := h
  refine g_iast cx dX10_keep_513 rfl hc5 ?_
  exact g_wv cx hE dX10_keep_514 rfl hP h
def j_X10_keep_382 (X250 : Int32 → Int32 → Int32 → zI → zP → Prop) (K : zI → zP → Prop) (y1 : Int32) (y3 : Int32) (y4 : Int32) (y5 : Int32) (y6 : Int32) (s0 : Int32) (s1 : Int32) (I : zI) (P : zP) : Prop := vp_in s1 54 ∧ (vp_in y5 48 ∧ (vp_in ((9 * y1) + y4) 54 ∧ (if y6 = 0 then (X250 y1 y3 (y4 + 1) (zu (zu I 182 ((s1).toNatClampNeg) s0) 183 ((((9 * y1) + y4)).toNatClampNeg) ((zu I 182 ((s1).toNatClampNeg) s0) 165 ((y5).toNatClampNeg))) P) else (X250 y1 (y3 + 1) (y4 + 1) (zu (zu I 182 ((s1).toNatClampNeg) s0) 183 ((((9 * y1) + y4)).toNatClampNeg) ((zu I 182 ((s1).toNatClampNeg) s0) 165 ((y5).toNatClampNeg))) P))))
theorem gj_X10_keep_382 {κ : zX} (cx : Cx yX10_keep cX10_keep 7 none 2 51 κ) {K : zI → zP → Prop} (hE : zEnd (zKv K) 0 0 κ) {X250 : Int32 → Int32 → Int32 → zI → zP → Prop} (hX250 : ∀ (y1 : Int32) (y3 : Int32) (y4 : Int32) (I : zI) (P : zP), PSt P → X250 y1 y3 y4 I P → Gx κ 250 [.ref 155, .int y1, .float 0, .int y3, .int y4, .float 0, .float 0] [] SHy I P 0 0) {y1 : Int32} {y3 : Int32} {y4 : Int32} {y5 : Int32} {y6 : Int32} {s0 : Int32} {s1 : Int32} {I : zI} {P : zP} (hP : PSt P) (h : j_X10_keep_382 X250 K y1 y3 y4 y5 y6 s0 s1 I P) : Gx κ 382 [.ref 155, .int y1, .float 0, .int y3, .int y4, .int y5, .int y6] [.int s0, .int s1, .ref 182] SHy I P 0 0 := by
  unfold j_X10_keep_382 at h
  obtain ⟨hc1, h⟩ := h
  refine g_iast cx dX10_keep_382 rfl hc1 ?_
  refine g_aload_n cx dX10_keep_383 rfl ?_
  refine g_getR cx lk_X10_96 rfl (Nat.le_of_ble_eq_true rfl) rfl dX10_keep_384 (v := 183) (pst hP 182 rfl) ?_
  refine g_bipush cx dX10_keep_387 bp_9 ?_
  refine g_iload_n cx dX10_keep_389 rfl ?_
  refine g_imul cx dX10_keep_390 ?_
  refine g_iload cx dX10_keep_391 rfl ?_
  refine g_iadd cx dX10_keep_393 ?_
  refine g_aload_n cx dX10_keep_394 rfl ?_
  refine g_getR cx lk_X10_41 rfl (Nat.le_of_ble_eq_true rfl) rfl dX10_keep_395 (v := 165) (pst hP 164 rfl) ?_
  refine g_iload cx dX10_keep_398 rfl ?_
  obtain ⟨hc2, h⟩ := h
  refine g_iald cx dX10_keep_400 rfl hc2 (x := ((zu I 182 ((s1).toNatClampNeg) s0) 165 ((y5).toNatClampNeg))) rfl ?_
  obtain ⟨hc3, h⟩ := h
  refine g_iast cx dX10_keep_401 rfl hc3 ?_
  refine g_iload cx dX10_keep_402 rfl ?_
  refine g_if_eq cx (tgt := 413) dX10_keep_404 rfl (fun c4 => ?_) (fun c4 => ?_)
  · have h := zifp c4 h
    refine g_iload_n cx dX10_keep_413 rfl ?_
    refine g_istore_n cx dX10_keep_414 (Nat.le_of_ble_eq_true rfl) (Gx.L [.ref 155, .int y1, .float 0, .int y3, .int y4, .int y5, .int y6] rfl ?_)
    refine g_iinc cx (v := (y4 + 1)) dX10_keep_415 rfl rfl (Nat.le_of_ble_eq_true rfl) (Gx.L [.ref 155, .int y1, .float 0, .int y3, .int (y4 + 1), .int y5, .int y6] rfl ?_)
    refine g_goto cx (tgt := 250) dX10_keep_418 rfl ?_
    refine (Gx.unset 5 (Gx.unset 6 (Gx.L [.ref 155, .int y1, .float 0, .int y3, .int (y4 + 1), .float 0, .float 0] rfl ?_)))
    exact hX250 _ _ _ _ _ hP h
  · have h := zifn c4 h
    refine g_iload_n cx dX10_keep_407 rfl ?_
    refine g_iconst cx dX10_keep_408 ic_1 ?_
    refine g_iadd cx dX10_keep_409 ?_
    refine g_goto cx (tgt := 414) dX10_keep_410 rfl ?_
    refine g_istore_n cx dX10_keep_414 (Nat.le_of_ble_eq_true rfl) (Gx.L [.ref 155, .int y1, .float 0, .int (y3 + 1), .int y4, .int y5, .int y6] rfl ?_)
    refine g_iinc cx (v := (y4 + 1)) dX10_keep_415 rfl rfl (Nat.le_of_ble_eq_true rfl) (Gx.L [.ref 155, .int y1, .float 0, .int (y3 + 1), .int (y4 + 1), .int y5, .int y6] rfl ?_)
    refine g_goto cx (tgt := 250) dX10_keep_418 rfl ?_
    refine (Gx.unset 5 (Gx.unset 6 (Gx.L [.ref 155, .int y1, .float 0, .int (y3 + 1), .int (y4 + 1), .float 0, .float 0] rfl ?_)))
    exact hX250 _ _ _ _ _ hP h
def j_X10_keep_295 (X250 : Int32 → Int32 → Int32 → zI → zP → Prop) (K : zI → zP → Prop) (y1 : Int32) (y3 : Int32) (y4 : Int32) (y5 : Int32) (s0 : Int32) (I : zI) (P : zP) : Prop := vp_in y5 48 ∧ (vp_in (I 162 ((y5).toNatClampNeg)) 401 ∧ (vp_in ((9 * y1) + y4) 54 ∧ (vp_in y5 48 ∧ (vp_in ((zu I 180 ((((9 * y1) + y4)).toNatClampNeg) (I 191 (((I 162 ((y5).toNatClampNeg))).toNatClampNeg))) 163 ((y5).toNatClampNeg)) 401 ∧ (vp_in ((9 * y1) + y4) 54 ∧ (if s0 = 0 then (vp_in y5 48 ∧ (vp_in ((zu (zu I 180 ((((9 * y1) + y4)).toNatClampNeg) (I 191 (((I 162 ((y5).toNatClampNeg))).toNatClampNeg))) 181 ((((9 * y1) + y4)).toNatClampNeg) ((zu I 180 ((((9 * y1) + y4)).toNatClampNeg) (I 191 (((I 162 ((y5).toNatClampNeg))).toNatClampNeg))) 191 ((((zu I 180 ((((9 * y1) + y4)).toNatClampNeg) (I 191 (((I 162 ((y5).toNatClampNeg))).toNatClampNeg))) 163 ((y5).toNatClampNeg))).toNatClampNeg))) 164 ((y5).toNatClampNeg)) 401 ∧ (j_X10_keep_382 X250 K y1 y3 y4 y5 s0 ((zu (zu I 180 ((((9 * y1) + y4)).toNatClampNeg) (I 191 (((I 162 ((y5).toNatClampNeg))).toNatClampNeg))) 181 ((((9 * y1) + y4)).toNatClampNeg) ((zu I 180 ((((9 * y1) + y4)).toNatClampNeg) (I 191 (((I 162 ((y5).toNatClampNeg))).toNatClampNeg))) 191 ((((zu I 180 ((((9 * y1) + y4)).toNatClampNeg) (I 191 (((I 162 ((y5).toNatClampNeg))).toNatClampNeg))) 163 ((y5).toNatClampNeg))).toNatClampNeg))) 191 ((((zu (zu I 180 ((((9 * y1) + y4)).toNatClampNeg) (I 191 (((I 162 ((y5).toNatClampNeg))).toNatClampNeg))) 181 ((((9 * y1) + y4)).toNatClampNeg) ((zu I 180 ((((9 * y1) + y4)).toNatClampNeg) (I 191 (((I 162 ((y5).toNatClampNeg))).toNatClampNeg))) 191 ((((zu I 180 ((((9 * y1) + y4)).toNatClampNeg) (I 191 (((I 162 ((y5).toNatClampNeg))).toNatClampNeg))) 163 ((y5).toNatClampNeg))).toNatClampNeg))) 164 ((y5).toNatClampNeg))).toNatClampNeg)) ((9 * y1) + y4) (zu (zu I 180 ((((9 * y1) + y4)).toNatClampNeg) (I 191 (((I 162 ((y5).toNatClampNeg))).toNatClampNeg))) 181 ((((9 * y1) + y4)).toNatClampNeg) ((zu I 180 ((((9 * y1) + y4)).toNatClampNeg) (I 191 (((I 162 ((y5).toNatClampNeg))).toNatClampNeg))) 191 ((((zu I 180 ((((9 * y1) + y4)).toNatClampNeg) (I 191 (((I 162 ((y5).toNatClampNeg))).toNatClampNeg))) 163 ((y5).toNatClampNeg))).toNatClampNeg))) P))) else (vp_in y3 500 ∧ (j_X10_keep_382 X250 K y1 y3 y4 y5 s0 ((zu (zu I 180 ((((9 * y1) + y4)).toNatClampNeg) (I 191 (((I 162 ((y5).toNatClampNeg))).toNatClampNeg))) 181 ((((9 * y1) + y4)).toNatClampNeg) ((zu I 180 ((((9 * y1) + y4)).toNatClampNeg) (I 191 (((I 162 ((y5).toNatClampNeg))).toNatClampNeg))) 191 ((((zu I 180 ((((9 * y1) + y4)).toNatClampNeg) (I 191 (((I 162 ((y5).toNatClampNeg))).toNatClampNeg))) 163 ((y5).toNatClampNeg))).toNatClampNeg))) 193 ((y3).toNatClampNeg)) ((9 * y1) + y4) (zu (zu I 180 ((((9 * y1) + y4)).toNatClampNeg) (I 191 (((I 162 ((y5).toNatClampNeg))).toNatClampNeg))) 181 ((((9 * y1) + y4)).toNatClampNeg) ((zu I 180 ((((9 * y1) + y4)).toNatClampNeg) (I 191 (((I 162 ((y5).toNatClampNeg))).toNatClampNeg))) 191 ((((zu I 180 ((((9 * y1) + y4)).toNatClampNeg) (I 191 (((I 162 ((y5).toNatClampNeg))).toNatClampNeg))) 163 ((y5).toNatClampNeg))).toNatClampNeg))) P))))))))
theorem gj_X10_keep_295 {κ : zX} (cx : Cx yX10_keep cX10_keep 7 none 2 51 κ) {K : zI → zP → Prop} (hE : zEnd (zKv K) 0 0 κ) {X250 : Int32 → Int32 → Int32 → zI → zP → Prop} (hX250 : ∀ (y1 : Int32) (y3 : Int32) (y4 : Int32) (I : zI) (P : zP), PSt P → X250 y1 y3 y4 I P → Gx κ 250 [.ref 155, .int y1, .float 0, .int y3, .int y4, .float 0, .float 0] [] SHy I P 0 0) {y1 : Int32} {y3 : Int32} {y4 : Int32} {y5 : Int32} {s0 : Int32} {I : zI} {P : zP} (hP : PSt P) (h : j_X10_keep_295 X250 K y1 y3 y4 y5 s0 I P) : Gx κ 295 [.ref 155, .int y1, .float 0, .int y3, .int y4, .int y5, .float 0] [.int s0] SHy I P 0 0 := by
  unfold j_X10_keep_295 at h
  refine g_istore cx dX10_keep_295 (Nat.le_of_ble_eq_true rfl) (Gx.L [.ref 155, .int y1, .float 0, .int y3, .int y4, .int y5, .int s0] rfl ?_)
  refine g_aload_n cx dX10_keep_297 rfl ?_
  refine g_getR cx lk_X10_87 rfl (Nat.le_of_ble_eq_true rfl) rfl dX10_keep_298 (v := 180) (pst hP 179 rfl) ?_
  refine g_bipush cx dX10_keep_301 bp_9 ?_
  refine g_iload_n cx dX10_keep_303 rfl ?_
  refine g_imul cx dX10_keep_304 ?_
  refine g_iload cx dX10_keep_305 rfl ?_
  refine g_iadd cx dX10_keep_307 ?_
  refine g_aload_n cx dX10_keep_308 rfl ?_
  refine g_getR cx lk_X10_120 rfl (Nat.le_of_ble_eq_true rfl) rfl dX10_keep_309 (v := 191) (pst hP 190 rfl) ?_
  refine g_aload_n cx dX10_keep_312 rfl ?_
  refine g_getR cx lk_X10_32 rfl (Nat.le_of_ble_eq_true rfl) rfl dX10_keep_313 (v := 162) (pst hP 161 rfl) ?_
  refine g_iload cx dX10_keep_316 rfl ?_
  obtain ⟨hc1, h⟩ := h
  refine g_iald cx dX10_keep_318 rfl hc1 (x := (I 162 ((y5).toNatClampNeg))) rfl ?_
  obtain ⟨hc2, h⟩ := h
  refine g_iald cx dX10_keep_319 rfl hc2 (x := (I 191 (((I 162 ((y5).toNatClampNeg))).toNatClampNeg))) rfl ?_
  obtain ⟨hc3, h⟩ := h
  refine g_iast cx dX10_keep_320 rfl hc3 ?_
  refine g_aload_n cx dX10_keep_321 rfl ?_
  refine g_getR cx lk_X10_90 rfl (Nat.le_of_ble_eq_true rfl) rfl dX10_keep_322 (v := 181) (pst hP 180 rfl) ?_
  refine g_bipush cx dX10_keep_325 bp_9 ?_
  refine g_iload_n cx dX10_keep_327 rfl ?_
  refine g_imul cx dX10_keep_328 ?_
  refine g_iload cx dX10_keep_329 rfl ?_
  refine g_iadd cx dX10_keep_331 ?_
  refine g_aload_n cx dX10_keep_332 rfl ?_
  refine Gx.N 333 rfl ?_
  refine g_getR cx lk_X10_120 rfl (Nat.le_of_ble_eq_true rfl) rfl dX10_keep_333 (v := 191) (pst hP 190 rfl) ?_
  refine g_aload_n cx dX10_keep_336 rfl ?_
  refine g_getR cx lk_X10_35 rfl (Nat.le_of_ble_eq_true rfl) rfl dX10_keep_337 (v := 163) (pst hP 162 rfl) ?_
  refine g_iload cx dX10_keep_340 rfl ?_
  obtain ⟨hc4, h⟩ := h
  refine g_iald cx dX10_keep_342 rfl hc4 (x := ((zu I 180 ((((9 * y1) + y4)).toNatClampNeg) (I 191 (((I 162 ((y5).toNatClampNeg))).toNatClampNeg))) 163 ((y5).toNatClampNeg))) rfl ?_
  obtain ⟨hc5, h⟩ := h
  refine g_iald cx dX10_keep_343 rfl hc5 (x := ((zu I 180 ((((9 * y1) + y4)).toNatClampNeg) (I 191 (((I 162 ((y5).toNatClampNeg))).toNatClampNeg))) 191 ((((zu I 180 ((((9 * y1) + y4)).toNatClampNeg) (I 191 (((I 162 ((y5).toNatClampNeg))).toNatClampNeg))) 163 ((y5).toNatClampNeg))).toNatClampNeg))) rfl ?_
  obtain ⟨hc6, h⟩ := h
  refine g_iast cx dX10_keep_344 rfl hc6 ?_
  refine g_aload_n cx dX10_keep_345 rfl ?_
  refine g_getR cx lk_X10_93 rfl (Nat.le_of_ble_eq_true rfl) rfl dX10_keep_346 (v := 182) (pst hP 181 rfl) ?_
  refine g_bipush cx dX10_keep_349 bp_9 ?_
  refine g_iload_n cx dX10_keep_351 rfl ?_
  refine g_imul cx dX10_keep_352 ?_
  refine g_iload cx dX10_keep_353 rfl ?_
  refine g_iadd cx dX10_keep_355 ?_
  refine g_iload cx dX10_keep_356 rfl ?_
  refine g_if_eq cx (tgt := 370) dX10_keep_358 rfl (fun c7 => ?_) (fun c7 => ?_)
  · have h := zifp c7 h
    refine g_aload_n cx dX10_keep_370 rfl ?_
    refine g_getR cx lk_X10_120 rfl (Nat.le_of_ble_eq_true rfl) rfl dX10_keep_371 (v := 191) (pst hP 190 rfl) ?_
    refine g_aload_n cx dX10_keep_374 rfl ?_
    refine g_getR cx lk_X10_38 rfl (Nat.le_of_ble_eq_true rfl) rfl dX10_keep_375 (v := 164) (pst hP 163 rfl) ?_
    refine g_iload cx dX10_keep_378 rfl ?_
    obtain ⟨hc8, h⟩ := h
    refine g_iald cx dX10_keep_380 rfl hc8 (x := ((zu (zu I 180 ((((9 * y1) + y4)).toNatClampNeg) (I 191 (((I 162 ((y5).toNatClampNeg))).toNatClampNeg))) 181 ((((9 * y1) + y4)).toNatClampNeg) ((zu I 180 ((((9 * y1) + y4)).toNatClampNeg) (I 191 (((I 162 ((y5).toNatClampNeg))).toNatClampNeg))) 191 ((((zu I 180 ((((9 * y1) + y4)).toNatClampNeg) (I 191 (((I 162 ((y5).toNatClampNeg))).toNatClampNeg))) 163 ((y5).toNatClampNeg))).toNatClampNeg))) 164 ((y5).toNatClampNeg))) rfl ?_
    obtain ⟨hc9, h⟩ := h
    refine g_iald cx dX10_keep_381 rfl hc9 (x := ((zu (zu I 180 ((((9 * y1) + y4)).toNatClampNeg) (I 191 (((I 162 ((y5).toNatClampNeg))).toNatClampNeg))) 181 ((((9 * y1) + y4)).toNatClampNeg) ((zu I 180 ((((9 * y1) + y4)).toNatClampNeg) (I 191 (((I 162 ((y5).toNatClampNeg))).toNatClampNeg))) 191 ((((zu I 180 ((((9 * y1) + y4)).toNatClampNeg) (I 191 (((I 162 ((y5).toNatClampNeg))).toNatClampNeg))) 163 ((y5).toNatClampNeg))).toNatClampNeg))) 191 ((((zu (zu I 180 ((((9 * y1) + y4)).toNatClampNeg) (I 191 (((I 162 ((y5).toNatClampNeg))).toNatClampNeg))) 181 ((((9 * y1) + y4)).toNatClampNeg) ((zu I 180 ((((9 * y1) + y4)).toNatClampNeg) (I 191 (((I 162 ((y5).toNatClampNeg))).toNatClampNeg))) 191 ((((zu I 180 ((((9 * y1) + y4)).toNatClampNeg) (I 191 (((I 162 ((y5).toNatClampNeg))).toNatClampNeg))) 163 ((y5).toNatClampNeg))).toNatClampNeg))) 164 ((y5).toNatClampNeg))).toNatClampNeg))) rfl ?_
    exact gj_X10_keep_382 cx hE hX250 hP h
  · have h := zifn c7 h
    refine g_aload_n cx dX10_keep_361 rfl ?_
    refine g_getR cx lk_X10_126 rfl (Nat.le_of_ble_eq_true rfl) rfl dX10_keep_362 (v := 193) (pst hP 192 rfl) ?_
    refine g_iload_n cx dX10_keep_365 rfl ?_
    obtain ⟨hc10, h⟩ := h
    refine g_iald cx dX10_keep_366 rfl hc10 (x := ((zu (zu I 180 ((((9 * y1) + y4)).toNatClampNeg) (I 191 (((I 162 ((y5).toNatClampNeg))).toNatClampNeg))) 181 ((((9 * y1) + y4)).toNatClampNeg) ((zu I 180 ((((9 * y1) + y4)).toNatClampNeg) (I 191 (((I 162 ((y5).toNatClampNeg))).toNatClampNeg))) 191 ((((zu I 180 ((((9 * y1) + y4)).toNatClampNeg) (I 191 (((I 162 ((y5).toNatClampNeg))).toNatClampNeg))) 163 ((y5).toNatClampNeg))).toNatClampNeg))) 193 ((y3).toNatClampNeg))) rfl ?_
    refine g_goto cx (tgt := 382) dX10_keep_367 rfl ?_
    exact gj_X10_keep_382 cx hE hX250 hP h
def l_X10_keep_250 (K : zI → zP → Prop) : Nat → Int32 → Int32 → Int32 → zI → zP → Prop
  | 0, _, _, _, _, _ => False
  | n + 1, y1, y3, y4, I, P => vp_in y1 6 ∧ (if (I 161 ((y1).toNatClampNeg)) ≤ y4 then (if (I 155 42) ≤ (I 155 48) then (K I P) else (vp_in y1 6 ∧ (vp_in ((9 * y1) + (I 161 ((y1).toNatClampNeg))) 54 ∧ (if ((zu I 180 ((((9 * y1) + (I 161 ((y1).toNatClampNeg)))).toNatClampNeg) (I 191 0)) 155 47) ≤ 0 then (j_X10_keep_484 K y1 ((9 * y1) + (I 161 ((y1).toNatClampNeg))) ((zu I 180 ((((9 * y1) + (I 161 ((y1).toNatClampNeg)))).toNatClampNeg) (I 191 0)) 155 48) ((9 * y1) + (I 161 ((y1).toNatClampNeg))) (zu I 180 ((((9 * y1) + (I 161 ((y1).toNatClampNeg)))).toNatClampNeg) (I 191 0)) P) else (j_X10_keep_484 K y1 ((9 * y1) + (I 161 ((y1).toNatClampNeg))) ((zu I 180 ((((9 * y1) + (I 161 ((y1).toNatClampNeg)))).toNatClampNeg) (I 191 0)) 193 0) ((9 * y1) + (I 161 ((y1).toNatClampNeg))) (zu I 180 ((((9 * y1) + (I 161 ((y1).toNatClampNeg)))).toNatClampNeg) (I 191 0)) P))))) else (vp_in ((8 * y1) + y4) 48 ∧ (w_X10_howMany 5 y1 (I 164 ((((8 * y1) + y4)).toNatClampNeg)) (I 155 17) I P (fun (v8 : Int32) (I8 : zI) (P8 : zP) => (if v8 ≤ 0 then (j_X10_keep_295 (l_X10_keep_250 K n) K y1 y3 y4 ((8 * y1) + y4) 0 I8 P8) else (j_X10_keep_295 (l_X10_keep_250 K n) K y1 y3 y4 ((8 * y1) + y4) 1 I8 P8))))))
theorem gl_X10_keep_250 {κ : zX} (cx : Cx yX10_keep cX10_keep 7 none 2 51 κ) {K : zI → zP → Prop} (hE : zEnd (zKv K) 0 0 κ) : ∀ (n : Nat) (y1 : Int32) (y3 : Int32) (y4 : Int32) (I : zI) (P : zP), PSt P → l_X10_keep_250 K n y1 y3 y4 I P → Gx κ 250 [.ref 155, .int y1, .float 0, .int y3, .int y4, .float 0, .float 0] [] SHy I P 0 0 := by
  intro n
  induction n with
  | zero =>
    intro y1 y3 y4 I P hP h
    rw [l_X10_keep_250] at h
    exact False.elim h
  | succ n ih =>
    intro y1 y3 y4 I P hP h
    rw [l_X10_keep_250] at h
    refine g_iload cx dX10_keep_250 rfl ?_
    refine g_aload_n cx dX10_keep_252 rfl ?_
    refine g_getR cx lk_X10_29 rfl (Nat.le_of_ble_eq_true rfl) rfl dX10_keep_253 (v := 161) (pst hP 160 rfl) ?_
    refine g_iload_n cx dX10_keep_256 rfl ?_
    obtain ⟨hc1, h⟩ := h
    refine g_iald cx dX10_keep_257 rfl hc1 (x := (I 161 ((y1).toNatClampNeg))) rfl ?_
    refine g_icmp_ge cx (tgt := 421) dX10_keep_258 rfl (fun c2 => ?_) (fun c2 => ?_)
    · have h := zifp c2 h
      refine g_aload_n cx dX10_keep_421 rfl ?_
      refine g_getI cx lk_X10_341 rfl (Nat.le_of_ble_eq_true rfl) rfl dX10_keep_422 (x := (I 155 42)) rfl ?_
      refine g_aload_n cx dX10_keep_425 rfl ?_
      refine g_getI cx lk_X10_373 rfl (Nat.le_of_ble_eq_true rfl) rfl dX10_keep_426 (x := (I 155 48)) rfl ?_
      refine g_icmp_le cx (tgt := 514) dX10_keep_429 rfl (fun c3 => ?_) (fun c3 => ?_)
      · have h := zifp c3 h
        exact g_wv cx hE dX10_keep_514 rfl hP h
      · have h := zifn c3 h
        refine g_bipush cx dX10_keep_432 bp_9 ?_
        refine g_iload_n cx dX10_keep_434 rfl ?_
        refine g_imul cx dX10_keep_435 ?_
        refine g_aload_n cx dX10_keep_436 rfl ?_
        refine g_getR cx lk_X10_29 rfl (Nat.le_of_ble_eq_true rfl) rfl dX10_keep_437 (v := 161) (pst hP 160 rfl) ?_
        refine g_iload_n cx dX10_keep_440 rfl ?_
        obtain ⟨hc4, h⟩ := h
        refine g_iald cx dX10_keep_441 rfl hc4 (x := (I 161 ((y1).toNatClampNeg))) rfl ?_
        refine g_iadd cx dX10_keep_442 ?_
        refine g_istore cx dX10_keep_443 (Nat.le_of_ble_eq_true rfl) (Gx.L [.ref 155, .int y1, .float 0, .int y3, .int ((9 * y1) + (I 161 ((y1).toNatClampNeg))), .float 0, .float 0] rfl ?_)
        refine g_aload_n cx dX10_keep_445 rfl ?_
        refine g_getR cx lk_X10_87 rfl (Nat.le_of_ble_eq_true rfl) rfl dX10_keep_446 (v := 180) (pst hP 179 rfl) ?_
        refine g_iload cx dX10_keep_449 rfl ?_
        refine g_aload_n cx dX10_keep_451 rfl ?_
        refine g_getR cx lk_X10_120 rfl (Nat.le_of_ble_eq_true rfl) rfl dX10_keep_452 (v := 191) (pst hP 190 rfl) ?_
        refine g_iconst cx dX10_keep_455 ic_0 ?_
        refine g_iald cx dX10_keep_456 rfl (vin_lit (j := 0) (by decide) (Nat.le_of_ble_eq_true rfl) (by decide)) (x := (I 191 0)) rfl ?_
        obtain ⟨hc5, h⟩ := h
        refine g_iast cx dX10_keep_457 rfl hc5 ?_
        refine g_aload_n cx dX10_keep_458 rfl ?_
        refine g_getR cx lk_X10_90 rfl (Nat.le_of_ble_eq_true rfl) rfl dX10_keep_459 (v := 181) (pst hP 180 rfl) ?_
        refine g_iload cx dX10_keep_462 rfl ?_
        refine g_aload_n cx dX10_keep_464 rfl ?_
        refine g_getI cx lk_X10_356 rfl (Nat.le_of_ble_eq_true rfl) rfl dX10_keep_465 (x := ((zu I 180 ((((9 * y1) + (I 161 ((y1).toNatClampNeg)))).toNatClampNeg) (I 191 0)) 155 47)) rfl ?_
        refine g_if_le cx (tgt := 480) dX10_keep_468 rfl (fun c6 => ?_) (fun c6 => ?_)
        · have h := zifp c6 h
          refine g_aload_n cx dX10_keep_480 rfl ?_
          refine g_getI cx lk_X10_373 rfl (Nat.le_of_ble_eq_true rfl) rfl dX10_keep_481 (x := ((zu I 180 ((((9 * y1) + (I 161 ((y1).toNatClampNeg)))).toNatClampNeg) (I 191 0)) 155 48)) rfl ?_
          refine (Gx.unset 3 (Gx.L [.ref 155, .int y1, .float 0, .float 0, .int ((9 * y1) + (I 161 ((y1).toNatClampNeg))), .float 0, .float 0] rfl ?_))
          exact gj_X10_keep_484 cx hE hP h
        · have h := zifn c6 h
          refine g_aload_n cx dX10_keep_471 rfl ?_
          refine g_getR cx lk_X10_126 rfl (Nat.le_of_ble_eq_true rfl) rfl dX10_keep_472 (v := 193) (pst hP 192 rfl) ?_
          refine g_iconst cx dX10_keep_475 ic_0 ?_
          refine g_iald cx dX10_keep_476 rfl (vin_lit (j := 0) (by decide) (Nat.le_of_ble_eq_true rfl) (by decide)) (x := ((zu I 180 ((((9 * y1) + (I 161 ((y1).toNatClampNeg)))).toNatClampNeg) (I 191 0)) 193 0)) rfl ?_
          refine g_goto cx (tgt := 484) dX10_keep_477 rfl ?_
          refine (Gx.unset 3 (Gx.L [.ref 155, .int y1, .float 0, .float 0, .int ((9 * y1) + (I 161 ((y1).toNatClampNeg))), .float 0, .float 0] rfl ?_))
          exact gj_X10_keep_484 cx hE hP h
    · have h := zifn c2 h
      refine g_bipush cx dX10_keep_261 bp_8 ?_
      refine g_iload_n cx dX10_keep_263 rfl ?_
      refine g_imul cx dX10_keep_264 ?_
      refine g_iload cx dX10_keep_265 rfl ?_
      refine g_iadd cx dX10_keep_267 ?_
      refine g_istore cx dX10_keep_268 (Nat.le_of_ble_eq_true rfl) (Gx.L [.ref 155, .int y1, .float 0, .int y3, .int y4, .int ((8 * y1) + y4), .float 0] rfl ?_)
      refine g_aload_n cx dX10_keep_270 rfl ?_
      refine g_iconst cx dX10_keep_271 ic_5 ?_
      refine g_iload_n cx dX10_keep_272 rfl ?_
      refine g_aload_n cx dX10_keep_273 rfl ?_
      refine g_getR cx lk_X10_38 rfl (Nat.le_of_ble_eq_true rfl) rfl dX10_keep_274 (v := 164) (pst hP 163 rfl) ?_
      refine g_iload cx dX10_keep_277 rfl ?_
      obtain ⟨hc7, h⟩ := h
      refine g_iald cx dX10_keep_279 rfl hc7 (x := (I 164 ((((8 * y1) + y4)).toNatClampNeg))) rfl ?_
      refine g_aload_n cx dX10_keep_280 rfl ?_
      refine g_getI cx lk_X10_335 rfl (Nat.le_of_ble_eq_true rfl) rfl dX10_keep_281 (x := (I 155 17)) rfl ?_
      refine g_wVi cx [.int 5, .int y1, .int (I 164 ((((8 * y1) + y4)).toNatClampNeg)), .int (I 155 17)] [] (e_X10_howMany hP h) mt_X10_howMany ml_X10_365 rfl rfl rfl dX10_keep_284 rfl rfl (Nat.le_of_ble_eq_true rfl) (Nat.le_of_ble_eq_true rfl) (Nat.le_of_ble_eq_true rfl) (fun v8 I8 P8 hP h => ?_)
      refine g_if_le cx (tgt := 294) dX10_keep_287 rfl (fun c9 => ?_) (fun c9 => ?_)
      · have h := zifp c9 h
        refine g_iconst cx dX10_keep_294 ic_0 ?_
        exact gj_X10_keep_295 cx hE ih hP h
      · have h := zifn c9 h
        refine g_iconst cx dX10_keep_290 ic_1 ?_
        refine g_goto cx (tgt := 295) dX10_keep_291 rfl ?_
        exact gj_X10_keep_295 cx hE ih hP h
def j_X10_keep_224 (K : zI → zP → Prop) (y1 : Int32) (y3 : Int32) (s0 : Int32) (s1 : Int32) (I : zI) (P : zP) : Prop := vp_in s1 6 ∧ (vp_in y1 6 ∧ (vp_in y1 6 ∧ (vp_in y1 6 ∧ (∃ n9, l_X10_keep_250 K n9 y1 y3 0 (zu (zu (zu I 186 ((s1).toNatClampNeg) s0) 175 ((y1).toNatClampNeg) ((zu I 186 ((s1).toNatClampNeg) s0) 155 17)) 179 ((y1).toNatClampNeg) ((zu (zu I 186 ((s1).toNatClampNeg) s0) 175 ((y1).toNatClampNeg) ((zu I 186 ((s1).toNatClampNeg) s0) 155 17)) 161 ((y1).toNatClampNeg))) P))))
theorem gj_X10_keep_224 {κ : zX} (cx : Cx yX10_keep cX10_keep 7 none 2 51 κ) {K : zI → zP → Prop} (hE : zEnd (zKv K) 0 0 κ) {y1 : Int32} {y3 : Int32} {s0 : Int32} {s1 : Int32} {I : zI} {P : zP} (hP : PSt P) (h : j_X10_keep_224 K y1 y3 s0 s1 I P) : Gx κ 224 [.ref 155, .int y1, .float 0, .int y3, .float 0, .float 0, .float 0] [.int s0, .int s1, .ref 186] SHy I P 0 0 := by
  unfold j_X10_keep_224 at h
  obtain ⟨hc1, h⟩ := h
  refine g_iast cx dX10_keep_224 rfl hc1 ?_
  refine g_aload_n cx dX10_keep_225 rfl ?_
  refine g_getR cx lk_X10_72 rfl (Nat.le_of_ble_eq_true rfl) rfl dX10_keep_226 (v := 175) (pst hP 174 rfl) ?_
  refine g_iload_n cx dX10_keep_229 rfl ?_
  refine g_aload_n cx dX10_keep_230 rfl ?_
  refine g_getI cx lk_X10_335 rfl (Nat.le_of_ble_eq_true rfl) rfl dX10_keep_231 (x := ((zu I 186 ((s1).toNatClampNeg) s0) 155 17)) rfl ?_
  obtain ⟨hc2, h⟩ := h
  refine g_iast cx dX10_keep_234 rfl hc2 ?_
  refine g_aload_n cx dX10_keep_235 rfl ?_
  refine g_getR cx lk_X10_84 rfl (Nat.le_of_ble_eq_true rfl) rfl dX10_keep_236 (v := 179) (pst hP 178 rfl) ?_
  refine g_iload_n cx dX10_keep_239 rfl ?_
  refine g_aload_n cx dX10_keep_240 rfl ?_
  refine g_getR cx lk_X10_29 rfl (Nat.le_of_ble_eq_true rfl) rfl dX10_keep_241 (v := 161) (pst hP 160 rfl) ?_
  refine g_iload_n cx dX10_keep_244 rfl ?_
  obtain ⟨hc3, h⟩ := h
  refine g_iald cx dX10_keep_245 rfl hc3 (x := ((zu (zu I 186 ((s1).toNatClampNeg) s0) 175 ((y1).toNatClampNeg) ((zu I 186 ((s1).toNatClampNeg) s0) 155 17)) 161 ((y1).toNatClampNeg))) rfl ?_
  obtain ⟨hc4, h⟩ := h
  refine g_iast cx dX10_keep_246 rfl hc4 ?_
  refine g_iconst cx dX10_keep_247 ic_0 ?_
  refine g_istore cx dX10_keep_248 (Nat.le_of_ble_eq_true rfl) (Gx.L [.ref 155, .int y1, .float 0, .int y3, .int 0, .float 0, .float 0] rfl ?_)
  obtain ⟨n9, h⟩ := h
  exact gl_X10_keep_250 cx hE n9 _ _ _ _ _ hP h
def j_X10_keep_180 (X69 : Int32 → Int32 → Int32 → Int32 → zI → zP → Prop) (K : zI → zP → Prop) (y1 : Int32) (y2 : Int32) (y3 : Int32) (y4 : Int32) (I : zI) (P : zP) : Prop := X69 y1 y2 y3 (y4 + 1) I P
theorem gj_X10_keep_180 {κ : zX} (cx : Cx yX10_keep cX10_keep 7 none 2 51 κ) {K : zI → zP → Prop} (hE : zEnd (zKv K) 0 0 κ) {X69 : Int32 → Int32 → Int32 → Int32 → zI → zP → Prop} (hX69 : ∀ (y1 : Int32) (y2 : Int32) (y3 : Int32) (y4 : Int32) (I : zI) (P : zP), PSt P → X69 y1 y2 y3 y4 I P → Gx κ 69 [.ref 155, .int y1, .int y2, .int y3, .int y4, .float 0, .float 0] [] SHy I P 0 0) {y1 : Int32} {y2 : Int32} {y3 : Int32} {y4 : Int32} {I : zI} {P : zP} (hP : PSt P) (h : j_X10_keep_180 X69 K y1 y2 y3 y4 I P) : Gx κ 180 [.ref 155, .int y1, .int y2, .int y3, .int y4, .float 0, .float 0] [] SHy I P 0 0 := by
  unfold j_X10_keep_180 at h
  refine g_iload_n cx dX10_keep_180 rfl ?_
  refine g_istore_n cx dX10_keep_181 (Nat.le_of_ble_eq_true rfl) (Gx.L [.ref 155, .int y1, .int y2, .int y3, .int y4, .float 0, .float 0] rfl ?_)
  refine g_iinc cx (v := (y4 + 1)) dX10_keep_182 rfl rfl (Nat.le_of_ble_eq_true rfl) (Gx.L [.ref 155, .int y1, .int y2, .int y3, .int (y4 + 1), .float 0, .float 0] rfl ?_)
  refine g_goto cx (tgt := 69) dX10_keep_185 rfl ?_
  exact hX69 _ _ _ _ _ _ hP h
def j_X10_keep_148 (X69 : Int32 → Int32 → Int32 → Int32 → zI → zP → Prop) (K : zI → zP → Prop) (y1 : Int32) (y3 : Int32) (y4 : Int32) (y5 : Int32) (s0 : Int32) (I : zI) (P : zP) : Prop := vp_in y5 2400 ∧ (if (I 166 ((y5).toNatClampNeg)) = 0 then (j_X10_keep_180 X69 K y1 s0 y3 y4 I P) else (w_X10_howMany 1 y1 y4 (I 155 17) I P (fun (v3 : Int32) (I3 : zI) (P3 : zP) => (if v3 ≤ 0 then (j_X10_keep_180 X69 K y1 s0 y3 y4 I3 P3) else (X69 y1 s0 (y3 + 1) (y4 + 1) I3 P3)))))
theorem gj_X10_keep_148 {κ : zX} (cx : Cx yX10_keep cX10_keep 7 none 2 51 κ) {K : zI → zP → Prop} (hE : zEnd (zKv K) 0 0 κ) {X69 : Int32 → Int32 → Int32 → Int32 → zI → zP → Prop} (hX69 : ∀ (y1 : Int32) (y2 : Int32) (y3 : Int32) (y4 : Int32) (I : zI) (P : zP), PSt P → X69 y1 y2 y3 y4 I P → Gx κ 69 [.ref 155, .int y1, .int y2, .int y3, .int y4, .float 0, .float 0] [] SHy I P 0 0) {y1 : Int32} {y3 : Int32} {y4 : Int32} {y5 : Int32} {s0 : Int32} {I : zI} {P : zP} (hP : PSt P) (h : j_X10_keep_148 X69 K y1 y3 y4 y5 s0 I P) : Gx κ 148 [.ref 155, .int y1, .float 0, .int y3, .int y4, .int y5, .float 0] [.int s0] SHy I P 0 0 := by
  unfold j_X10_keep_148 at h
  refine g_istore_n cx dX10_keep_148 (Nat.le_of_ble_eq_true rfl) (Gx.L [.ref 155, .int y1, .int s0, .int y3, .int y4, .int y5, .float 0] rfl ?_)
  refine g_aload_n cx dX10_keep_149 rfl ?_
  refine g_getR cx lk_X10_44 rfl (Nat.le_of_ble_eq_true rfl) rfl dX10_keep_150 (v := 166) (pst hP 165 rfl) ?_
  refine g_iload cx dX10_keep_153 rfl ?_
  obtain ⟨hc1, h⟩ := h
  refine g_bald cx dX10_keep_155 rfl hc1 (x := (I 166 ((y5).toNatClampNeg))) rfl ?_
  refine g_if_eq cx (tgt := 180) dX10_keep_156 rfl (fun c2 => ?_) (fun c2 => ?_)
  · have h := zifp c2 h
    refine (Gx.unset 5 (Gx.L [.ref 155, .int y1, .int s0, .int y3, .int y4, .float 0, .float 0] rfl ?_))
    exact gj_X10_keep_180 cx hE hX69 hP h
  · have h := zifn c2 h
    refine g_aload_n cx dX10_keep_159 rfl ?_
    refine g_iconst cx dX10_keep_160 ic_1 ?_
    refine g_iload_n cx dX10_keep_161 rfl ?_
    refine g_iload cx dX10_keep_162 rfl ?_
    refine g_aload_n cx dX10_keep_164 rfl ?_
    refine g_getI cx lk_X10_335 rfl (Nat.le_of_ble_eq_true rfl) rfl dX10_keep_165 (x := (I 155 17)) rfl ?_
    refine g_wVi cx [.int 1, .int y1, .int y4, .int (I 155 17)] [] (e_X10_howMany hP h) mt_X10_howMany ml_X10_365 rfl rfl rfl dX10_keep_168 rfl rfl (Nat.le_of_ble_eq_true rfl) (Nat.le_of_ble_eq_true rfl) (Nat.le_of_ble_eq_true rfl) (fun v3 I3 P3 hP h => ?_)
    refine g_if_le cx (tgt := 180) dX10_keep_171 rfl (fun c4 => ?_) (fun c4 => ?_)
    · have h := zifp c4 h
      refine (Gx.unset 5 (Gx.L [.ref 155, .int y1, .int s0, .int y3, .int y4, .float 0, .float 0] rfl ?_))
      exact gj_X10_keep_180 cx hE hX69 hP h
    · have h := zifn c4 h
      refine g_iload_n cx dX10_keep_174 rfl ?_
      refine g_iconst cx dX10_keep_175 ic_1 ?_
      refine g_iadd cx dX10_keep_176 ?_
      refine g_goto cx (tgt := 181) dX10_keep_177 rfl ?_
      refine g_istore_n cx dX10_keep_181 (Nat.le_of_ble_eq_true rfl) (Gx.L [.ref 155, .int y1, .int s0, .int (y3 + 1), .int y4, .int y5, .float 0] rfl ?_)
      refine g_iinc cx (v := (y4 + 1)) dX10_keep_182 rfl rfl (Nat.le_of_ble_eq_true rfl) (Gx.L [.ref 155, .int y1, .int s0, .int (y3 + 1), .int (y4 + 1), .int y5, .float 0] rfl ?_)
      refine g_goto cx (tgt := 69) dX10_keep_185 rfl ?_
      refine (Gx.unset 5 (Gx.L [.ref 155, .int y1, .int s0, .int (y3 + 1), .int (y4 + 1), .float 0, .float 0] rfl ?_))
      exact hX69 _ _ _ _ _ _ hP h
def j_X10_keep_147 (X69 : Int32 → Int32 → Int32 → Int32 → zI → zP → Prop) (K : zI → zP → Prop) (y1 : Int32) (y2 : Int32) (y3 : Int32) (y4 : Int32) (y5 : Int32) (I : zI) (P : zP) : Prop := j_X10_keep_148 X69 K y1 y3 y4 y5 y2 I P
theorem gj_X10_keep_147 {κ : zX} (cx : Cx yX10_keep cX10_keep 7 none 2 51 κ) {K : zI → zP → Prop} (hE : zEnd (zKv K) 0 0 κ) {X69 : Int32 → Int32 → Int32 → Int32 → zI → zP → Prop} (hX69 : ∀ (y1 : Int32) (y2 : Int32) (y3 : Int32) (y4 : Int32) (I : zI) (P : zP), PSt P → X69 y1 y2 y3 y4 I P → Gx κ 69 [.ref 155, .int y1, .int y2, .int y3, .int y4, .float 0, .float 0] [] SHy I P 0 0) {y1 : Int32} {y2 : Int32} {y3 : Int32} {y4 : Int32} {y5 : Int32} {I : zI} {P : zP} (hP : PSt P) (h : j_X10_keep_147 X69 K y1 y2 y3 y4 y5 I P) : Gx κ 147 [.ref 155, .int y1, .int y2, .int y3, .int y4, .int y5, .float 0] [] SHy I P 0 0 := by
  unfold j_X10_keep_147 at h
  refine g_iload_n cx dX10_keep_147 rfl ?_
  refine (Gx.unset 2 (Gx.L [.ref 155, .int y1, .float 0, .int y3, .int y4, .int y5, .float 0] rfl ?_))
  exact gj_X10_keep_148 cx hE hX69 hP h
def l_X10_keep_69 (K : zI → zP → Prop) : Nat → Int32 → Int32 → Int32 → Int32 → zI → zP → Prop
  | 0, _, _, _, _, _, _ => False
  | n + 1, y1, y2, y3, y4, I, P => vp_in y1 6 ∧ (if (I 159 ((y1).toNatClampNeg)) ≤ y4 then (vp_in y1 6 ∧ (if ((zu I 185 ((y1).toNatClampNeg) y2) 155 42) ≤ ((zu I 185 ((y1).toNatClampNeg) y2) 155 48) then (j_X10_keep_224 K y1 y3 ((zu I 185 ((y1).toNatClampNeg) y2) 155 47) y1 (zu I 185 ((y1).toNatClampNeg) y2) P) else (j_X10_keep_224 K y1 y3 (((zu I 185 ((y1).toNatClampNeg) y2) 155 47) + 1) y1 (zu I 185 ((y1).toNatClampNeg) y2) P))) else (vp_in y4 400 ∧ (vp_in ((400 * y1) + y4) 2400 ∧ (vp_in ((400 * y1) + y4) 2400 ∧ (if ((zu I 184 ((((400 * y1) + y4)).toNatClampNeg) (I 192 ((y4).toNatClampNeg))) 166 ((((400 * y1) + y4)).toNatClampNeg)) = 0 then (j_X10_keep_147 (l_X10_keep_69 K n) K y1 y2 y3 y4 ((400 * y1) + y4) (zu I 184 ((((400 * y1) + y4)).toNatClampNeg) (I 192 ((y4).toNatClampNeg))) P) else (vp_in ((400 * y1) + y4) 2400 ∧ (w_X10_in ((zu I 184 ((((400 * y1) + y4)).toNatClampNeg) (I 192 ((y4).toNatClampNeg))) 160 ((((400 * y1) + y4)).toNatClampNeg)) 20 32 (zu I 184 ((((400 * y1) + y4)).toNatClampNeg) (I 192 ((y4).toNatClampNeg))) P (fun (v10 : Int32) (I10 : zI) (P10 : zP) => (if v10 = 0 then (j_X10_keep_147 (l_X10_keep_69 K n) K y1 y2 y3 y4 ((400 * y1) + y4) I10 P10) else (vp_in y4 1000 ∧ (if (I10 194 ((y4).toNatClampNeg)) = 0 then (j_X10_keep_147 (l_X10_keep_69 K n) K y1 y2 y3 y4 ((400 * y1) + y4) I10 P10) else (j_X10_keep_148 (l_X10_keep_69 K n) K y1 y3 y4 ((400 * y1) + y4) (y2 + 1) I10 P10))))))))))))
theorem gl_X10_keep_69 {κ : zX} (cx : Cx yX10_keep cX10_keep 7 none 2 51 κ) {K : zI → zP → Prop} (hE : zEnd (zKv K) 0 0 κ) : ∀ (n : Nat) (y1 : Int32) (y2 : Int32) (y3 : Int32) (y4 : Int32) (I : zI) (P : zP), PSt P → l_X10_keep_69 K n y1 y2 y3 y4 I P → Gx κ 69 [.ref 155, .int y1, .int y2, .int y3, .int y4, .float 0, .float 0] [] SHy I P 0 0 := by
  intro n
  induction n with
  | zero =>
    intro y1 y2 y3 y4 I P hP h
    rw [l_X10_keep_69] at h
    exact False.elim h
  | succ n ih =>
    intro y1 y2 y3 y4 I P hP h
    rw [l_X10_keep_69] at h
    refine g_iload cx dX10_keep_69 rfl ?_
    refine g_aload_n cx dX10_keep_71 rfl ?_
    refine g_getR cx lk_X10_23 rfl (Nat.le_of_ble_eq_true rfl) rfl dX10_keep_72 (v := 159) (pst hP 158 rfl) ?_
    refine g_iload_n cx dX10_keep_75 rfl ?_
    obtain ⟨hc1, h⟩ := h
    refine g_iald cx dX10_keep_76 rfl hc1 (x := (I 159 ((y1).toNatClampNeg))) rfl ?_
    refine g_icmp_ge cx (tgt := 188) dX10_keep_77 rfl (fun c2 => ?_) (fun c2 => ?_)
    · have h := zifp c2 h
      refine g_aload_n cx dX10_keep_188 rfl ?_
      refine g_getR cx lk_X10_102 rfl (Nat.le_of_ble_eq_true rfl) rfl dX10_keep_189 (v := 185) (pst hP 184 rfl) ?_
      refine g_iload_n cx dX10_keep_192 rfl ?_
      refine g_iload_n cx dX10_keep_193 rfl ?_
      obtain ⟨hc3, h⟩ := h
      refine g_iast cx dX10_keep_194 rfl hc3 ?_
      refine g_aload_n cx dX10_keep_195 rfl ?_
      refine g_getR cx lk_X10_105 rfl (Nat.le_of_ble_eq_true rfl) rfl dX10_keep_196 (v := 186) (pst hP 185 rfl) ?_
      refine g_iload_n cx dX10_keep_199 rfl ?_
      refine g_aload_n cx dX10_keep_200 rfl ?_
      refine g_getI cx lk_X10_341 rfl (Nat.le_of_ble_eq_true rfl) rfl dX10_keep_201 (x := ((zu I 185 ((y1).toNatClampNeg) y2) 155 42)) rfl ?_
      refine g_aload_n cx dX10_keep_204 rfl ?_
      refine g_getI cx lk_X10_373 rfl (Nat.le_of_ble_eq_true rfl) rfl dX10_keep_205 (x := ((zu I 185 ((y1).toNatClampNeg) y2) 155 48)) rfl ?_
      refine g_icmp_le cx (tgt := 220) dX10_keep_208 rfl (fun c4 => ?_) (fun c4 => ?_)
      · have h := zifp c4 h
        refine g_aload_n cx dX10_keep_220 rfl ?_
        refine g_getI cx lk_X10_356 rfl (Nat.le_of_ble_eq_true rfl) rfl dX10_keep_221 (x := ((zu I 185 ((y1).toNatClampNeg) y2) 155 47)) rfl ?_
        refine (Gx.unset 2 (Gx.unset 4 (Gx.L [.ref 155, .int y1, .float 0, .int y3, .float 0, .float 0, .float 0] rfl ?_)))
        exact gj_X10_keep_224 cx hE hP h
      · have h := zifn c4 h
        refine g_aload_n cx dX10_keep_211 rfl ?_
        refine g_getI cx lk_X10_356 rfl (Nat.le_of_ble_eq_true rfl) rfl dX10_keep_212 (x := ((zu I 185 ((y1).toNatClampNeg) y2) 155 47)) rfl ?_
        refine g_iconst cx dX10_keep_215 ic_1 ?_
        refine g_iadd cx dX10_keep_216 ?_
        refine g_goto cx (tgt := 224) dX10_keep_217 rfl ?_
        refine (Gx.unset 2 (Gx.unset 4 (Gx.L [.ref 155, .int y1, .float 0, .int y3, .float 0, .float 0, .float 0] rfl ?_)))
        exact gj_X10_keep_224 cx hE hP h
    · have h := zifn c2 h
      refine g_sipush cx dX10_keep_80 sp_400 ?_
      refine g_iload_n cx dX10_keep_83 rfl ?_
      refine g_imul cx dX10_keep_84 ?_
      refine g_iload cx dX10_keep_85 rfl ?_
      refine g_iadd cx dX10_keep_87 ?_
      refine g_istore cx dX10_keep_88 (Nat.le_of_ble_eq_true rfl) (Gx.L [.ref 155, .int y1, .int y2, .int y3, .int y4, .int ((400 * y1) + y4), .float 0] rfl ?_)
      refine g_aload_n cx dX10_keep_90 rfl ?_
      refine g_getR cx lk_X10_99 rfl (Nat.le_of_ble_eq_true rfl) rfl dX10_keep_91 (v := 184) (pst hP 183 rfl) ?_
      refine g_iload cx dX10_keep_94 rfl ?_
      refine g_aload_n cx dX10_keep_96 rfl ?_
      refine g_getR cx lk_X10_123 rfl (Nat.le_of_ble_eq_true rfl) rfl dX10_keep_97 (v := 192) (pst hP 191 rfl) ?_
      refine g_iload cx dX10_keep_100 rfl ?_
      obtain ⟨hc5, h⟩ := h
      refine g_iald cx dX10_keep_102 rfl hc5 (x := (I 192 ((y4).toNatClampNeg))) rfl ?_
      obtain ⟨hc6, h⟩ := h
      refine g_iast cx dX10_keep_103 rfl hc6 ?_
      refine g_aload_n cx dX10_keep_104 rfl ?_
      refine g_getR cx lk_X10_44 rfl (Nat.le_of_ble_eq_true rfl) rfl dX10_keep_105 (v := 166) (pst hP 165 rfl) ?_
      refine g_iload cx dX10_keep_108 rfl ?_
      obtain ⟨hc7, h⟩ := h
      refine g_bald cx dX10_keep_110 rfl hc7 (x := ((zu I 184 ((((400 * y1) + y4)).toNatClampNeg) (I 192 ((y4).toNatClampNeg))) 166 ((((400 * y1) + y4)).toNatClampNeg))) rfl ?_
      refine g_if_eq cx (tgt := 147) dX10_keep_111 rfl (fun c8 => ?_) (fun c8 => ?_)
      · have h := zifp c8 h
        exact gj_X10_keep_147 cx hE ih hP h
      · have h := zifn c8 h
        refine g_aload_n cx dX10_keep_114 rfl ?_
        refine g_getR cx lk_X10_26 rfl (Nat.le_of_ble_eq_true rfl) rfl dX10_keep_115 (v := 160) (pst hP 159 rfl) ?_
        refine g_iload cx dX10_keep_118 rfl ?_
        obtain ⟨hc9, h⟩ := h
        refine g_iald cx dX10_keep_120 rfl hc9 (x := ((zu I 184 ((((400 * y1) + y4)).toNatClampNeg) (I 192 ((y4).toNatClampNeg))) 160 ((((400 * y1) + y4)).toNatClampNeg))) rfl ?_
        refine g_bipush cx dX10_keep_121 bp_20 ?_
        refine g_bipush cx dX10_keep_123 bp_32 ?_
        refine g_wSi cx [.int ((zu I 184 ((((400 * y1) + y4)).toNatClampNeg) (I 192 ((y4).toNatClampNeg))) 160 ((((400 * y1) + y4)).toNatClampNeg)), .int 20, .int 32] [] (e_X10_in hP h) mt_X10_in ml_X10_217 dX10_keep_125 rfl rfl (Nat.le_of_ble_eq_true rfl) (Nat.le_of_ble_eq_true rfl) (Nat.le_of_ble_eq_true rfl) (fun v10 I10 P10 hP h => ?_)
        refine g_if_eq cx (tgt := 147) dX10_keep_128 rfl (fun c11 => ?_) (fun c11 => ?_)
        · have h := zifp c11 h
          exact gj_X10_keep_147 cx hE ih hP h
        · have h := zifn c11 h
          refine g_aload_n cx dX10_keep_131 rfl ?_
          refine g_getR cx lk_X10_129 rfl (Nat.le_of_ble_eq_true rfl) rfl dX10_keep_132 (v := 194) (pst hP 193 rfl) ?_
          refine g_iload cx dX10_keep_135 rfl ?_
          obtain ⟨hc12, h⟩ := h
          refine g_bald cx dX10_keep_137 rfl hc12 (x := (I10 194 ((y4).toNatClampNeg))) rfl ?_
          refine g_if_eq cx (tgt := 147) dX10_keep_138 rfl (fun c13 => ?_) (fun c13 => ?_)
          · have h := zifp c13 h
            exact gj_X10_keep_147 cx hE ih hP h
          · have h := zifn c13 h
            refine g_iload_n cx dX10_keep_141 rfl ?_
            refine g_iconst cx dX10_keep_142 ic_1 ?_
            refine g_iadd cx dX10_keep_143 ?_
            refine g_goto cx (tgt := 148) dX10_keep_144 rfl ?_
            refine (Gx.unset 2 (Gx.L [.ref 155, .int y1, .float 0, .int y3, .int y4, .int ((400 * y1) + y4), .float 0] rfl ?_))
            exact gj_X10_keep_148 cx hE ih hP h
def l_X10_keep_12 (K : zI → zP → Prop) : Nat → Int32 → Int32 → zI → zP → Prop
  | 0, _, _, _, _ => False
  | n + 1, y1, y2, I, P => if (I 155 42) ≤ y2 then (∃ n9, l_X10_keep_69 K n9 y1 0 0 0 I P) else (vp_in y2 4000 ∧ (vp_in ((1000 * y1) + y2) 6000 ∧ (vp_in y2 4000 ∧ (vp_in ((1000 * y1) + y2) 6000 ∧ ((l_X10_keep_12 K n) y1 (y2 + 1) (zu (zu I 176 ((((1000 * y1) + y2)).toNatClampNeg) (I 189 ((y2).toNatClampNeg))) 178 ((((1000 * y1) + y2)).toNatClampNeg) ((zu I 176 ((((1000 * y1) + y2)).toNatClampNeg) (I 189 ((y2).toNatClampNeg))) 190 ((y2).toNatClampNeg))) P)))))
theorem gl_X10_keep_12 {κ : zX} (cx : Cx yX10_keep cX10_keep 7 none 2 51 κ) {K : zI → zP → Prop} (hE : zEnd (zKv K) 0 0 κ) : ∀ (n : Nat) (y1 : Int32) (y2 : Int32) (I : zI) (P : zP), PSt P → l_X10_keep_12 K n y1 y2 I P → Gx κ 12 [.ref 155, .int y1, .int y2, .float 0, .float 0, .float 0, .float 0] [] SHy I P 0 0 := by
  intro n
  induction n with
  | zero =>
    intro y1 y2 I P hP h
    rw [l_X10_keep_12] at h
    exact False.elim h
  | succ n ih =>
    intro y1 y2 I P hP h
    rw [l_X10_keep_12] at h
    refine g_iload_n cx dX10_keep_12 rfl ?_
    refine g_aload_n cx dX10_keep_13 rfl ?_
    refine g_getI cx lk_X10_341 rfl (Nat.le_of_ble_eq_true rfl) rfl dX10_keep_14 (x := (I 155 42)) rfl ?_
    refine g_icmp_ge cx (tgt := 62) dX10_keep_17 rfl (fun c1 => ?_) (fun c1 => ?_)
    · have h := zifp c1 h
      refine g_iconst cx dX10_keep_62 ic_0 ?_
      refine g_istore_n cx dX10_keep_63 (Nat.le_of_ble_eq_true rfl) (Gx.L [.ref 155, .int y1, .int 0, .float 0, .float 0, .float 0, .float 0] rfl ?_)
      refine g_iconst cx dX10_keep_64 ic_0 ?_
      refine g_istore_n cx dX10_keep_65 (Nat.le_of_ble_eq_true rfl) (Gx.L [.ref 155, .int y1, .int 0, .int 0, .float 0, .float 0, .float 0] rfl ?_)
      refine g_iconst cx dX10_keep_66 ic_0 ?_
      refine g_istore cx dX10_keep_67 (Nat.le_of_ble_eq_true rfl) (Gx.L [.ref 155, .int y1, .int 0, .int 0, .int 0, .float 0, .float 0] rfl ?_)
      obtain ⟨n9, h⟩ := h
      exact gl_X10_keep_69 cx hE n9 _ _ _ _ _ _ hP h
    · have h := zifn c1 h
      refine g_aload_n cx dX10_keep_20 rfl ?_
      refine g_getR cx lk_X10_75 rfl (Nat.le_of_ble_eq_true rfl) rfl dX10_keep_21 (v := 176) (pst hP 175 rfl) ?_
      refine g_sipush cx dX10_keep_24 sp_1000 ?_
      refine g_iload_n cx dX10_keep_27 rfl ?_
      refine g_imul cx dX10_keep_28 ?_
      refine g_iload_n cx dX10_keep_29 rfl ?_
      refine g_iadd cx dX10_keep_30 ?_
      refine g_aload_n cx dX10_keep_31 rfl ?_
      refine g_getR cx lk_X10_114 rfl (Nat.le_of_ble_eq_true rfl) rfl dX10_keep_32 (v := 189) (pst hP 188 rfl) ?_
      refine g_iload_n cx dX10_keep_35 rfl ?_
      obtain ⟨hc2, h⟩ := h
      refine g_iald cx dX10_keep_36 rfl hc2 (x := (I 189 ((y2).toNatClampNeg))) rfl ?_
      obtain ⟨hc3, h⟩ := h
      refine g_iast cx dX10_keep_37 rfl hc3 ?_
      refine g_aload_n cx dX10_keep_38 rfl ?_
      refine g_getR cx lk_X10_81 rfl (Nat.le_of_ble_eq_true rfl) rfl dX10_keep_39 (v := 178) (pst hP 177 rfl) ?_
      refine g_sipush cx dX10_keep_42 sp_1000 ?_
      refine g_iload_n cx dX10_keep_45 rfl ?_
      refine g_imul cx dX10_keep_46 ?_
      refine g_iload_n cx dX10_keep_47 rfl ?_
      refine g_iadd cx dX10_keep_48 ?_
      refine g_aload_n cx dX10_keep_49 rfl ?_
      refine g_getR cx lk_X10_117 rfl (Nat.le_of_ble_eq_true rfl) rfl dX10_keep_50 (v := 190) (pst hP 189 rfl) ?_
      refine g_iload_n cx dX10_keep_53 rfl ?_
      obtain ⟨hc4, h⟩ := h
      refine g_iald cx dX10_keep_54 rfl hc4 (x := ((zu I 176 ((((1000 * y1) + y2)).toNatClampNeg) (I 189 ((y2).toNatClampNeg))) 190 ((y2).toNatClampNeg))) rfl ?_
      obtain ⟨hc5, h⟩ := h
      refine g_iast cx dX10_keep_55 rfl hc5 ?_
      refine Gx.N 56 rfl ?_
      refine g_iinc cx (v := (y2 + 1)) dX10_keep_56 rfl rfl (Nat.le_of_ble_eq_true rfl) (Gx.L [.ref 155, .int y1, .int (y2 + 1), .float 0, .float 0, .float 0, .float 0] rfl ?_)
      refine g_goto cx (tgt := 12) dX10_keep_59 rfl ?_
      exact ih _ _ _ _ hP h
def w_X10_keep (x1 : Int32) (I : zI) (P : zP) (K : zI → zP → Prop) : Prop := vp_in x1 6 ∧ (∃ n9, l_X10_keep_12 K n9 x1 0 (zu I 177 ((x1).toNatClampNeg) (I 155 42)) P)
theorem e_X10_keep {x1 : Int32} {I : zI} {P : zP} {K : zI → zP → Prop} (hP : PSt P) (h : w_X10_keep x1 I P K) : Ev yX10_keep cX10_keep 7 none 2 51 0 0 [.ref 155, .int x1] SHy I P (zKv K) := by
  refine Ev.start [.ref 155, .int x1, .float 0, .float 0, .float 0, .float 0, .float 0] pn_X10 rfl (Nat.le_of_ble_eq_true rfl) rfl (fun κ cx hE => ?_)
  unfold w_X10_keep at h
  refine g_aload_n cx dX10_keep_0 rfl ?_
  refine g_getR cx lk_X10_78 rfl (Nat.le_of_ble_eq_true rfl) rfl dX10_keep_1 (v := 177) (pst hP 176 rfl) ?_
  refine g_iload_n cx dX10_keep_4 rfl ?_
  refine g_aload_n cx dX10_keep_5 rfl ?_
  refine g_getI cx lk_X10_341 rfl (Nat.le_of_ble_eq_true rfl) rfl dX10_keep_6 (x := (I 155 42)) rfl ?_
  obtain ⟨hc1, h⟩ := h
  refine g_iast cx dX10_keep_9 rfl hc1 ?_
  refine g_iconst cx dX10_keep_10 ic_0 ?_
  refine g_istore_n cx dX10_keep_11 (Nat.le_of_ble_eq_true rfl) (Gx.L [.ref 155, .int x1, .int 0, .float 0, .float 0, .float 0, .float 0] rfl ?_)
  obtain ⟨n9, h⟩ := h
  exact gl_X10_keep_12 cx hE n9 _ _ _ _ hP h
def l_X10_keepRun_144 (K : zI → zP → Prop) : Nat → Int32 → zI → zP → Prop
  | 0, _, _, _ => False
  | n + 1, y1, I, P => if 8 ≤ y1 then (K I P) else (vp_in y1 8 ∧ (vp_in ((8 * (I 155 50)) + y1) 24 ∧ ((l_X10_keepRun_144 K n) (y1 + 1) (zu I 218 ((((8 * (I 155 50)) + y1)).toNatClampNeg) (I 203 ((y1).toNatClampNeg))) P)))
theorem gl_X10_keepRun_144 {κ : zX} (cx : Cx yX10_keepRun cX10_keepRun 2 none 0 0 κ) {K : zI → zP → Prop} (hE : zEnd (zKv K) 0 0 κ) : ∀ (n : Nat) (y1 : Int32) (I : zI) (P : zP), PSt P → l_X10_keepRun_144 K n y1 I P → Gx κ 144 [.ref 155, .int y1] [] SHy I P 0 0 := by
  intro n
  induction n with
  | zero =>
    intro y1 I P hP h
    rw [l_X10_keepRun_144] at h
    exact False.elim h
  | succ n ih =>
    intro y1 I P hP h
    rw [l_X10_keepRun_144] at h
    refine g_iload_n cx dX10_keepRun_144 rfl ?_
    refine g_bipush cx dX10_keepRun_145 bp_8 ?_
    refine g_icmp_ge cx (tgt := 176) dX10_keepRun_147 rfl (fun c1 => ?_) (fun c1 => ?_)
    · have h := zifp c1 h
      exact g_wv cx hE dX10_keepRun_176 rfl hP h
    · have h := zifn c1 h
      refine g_aload_n cx dX10_keepRun_150 rfl ?_
      refine g_getR cx lk_X10_201 rfl (Nat.le_of_ble_eq_true rfl) rfl dX10_keepRun_151 (v := 218) (pst hP 217 rfl) ?_
      refine g_bipush cx dX10_keepRun_154 bp_8 ?_
      refine g_aload_n cx dX10_keepRun_156 rfl ?_
      refine g_getI cx lk_X10_385 rfl (Nat.le_of_ble_eq_true rfl) rfl dX10_keepRun_157 (x := (I 155 50)) rfl ?_
      refine g_imul cx dX10_keepRun_160 ?_
      refine g_iload_n cx dX10_keepRun_161 rfl ?_
      refine g_iadd cx dX10_keepRun_162 ?_
      refine g_aload_n cx dX10_keepRun_163 rfl ?_
      refine g_getR cx lk_X10_156 rfl (Nat.le_of_ble_eq_true rfl) rfl dX10_keepRun_164 (v := 203) (pst hP 202 rfl) ?_
      refine g_iload_n cx dX10_keepRun_167 rfl ?_
      obtain ⟨hc2, h⟩ := h
      refine g_iald cx dX10_keepRun_168 rfl hc2 (x := (I 203 ((y1).toNatClampNeg))) rfl ?_
      obtain ⟨hc3, h⟩ := h
      refine g_iast cx dX10_keepRun_169 rfl hc3 ?_
      refine g_iinc cx (v := (y1 + 1)) dX10_keepRun_170 rfl rfl (Nat.le_of_ble_eq_true rfl) (Gx.L [.ref 155, .int (y1 + 1)] rfl ?_)
      refine g_goto cx (tgt := 144) dX10_keepRun_173 rfl ?_
      exact ih _ _ _ hP h
def j_X10_keepRun_128 (K : zI → zP → Prop) (s0 : Int32) (s1 : Int32) (I : zI) (P : zP) : Prop := vp_in s1 3 ∧ (vp_in ((zu I 215 ((s1).toNatClampNeg) s0) 155 50) 3 ∧ (∃ n9, l_X10_keepRun_144 K n9 0 (zu (zu I 215 ((s1).toNatClampNeg) s0) 216 ((((zu I 215 ((s1).toNatClampNeg) s0) 155 50)).toNatClampNeg) ((zu I 215 ((s1).toNatClampNeg) s0) 155 55)) P))
theorem gj_X10_keepRun_128 {κ : zX} (cx : Cx yX10_keepRun cX10_keepRun 2 none 0 0 κ) {K : zI → zP → Prop} (hE : zEnd (zKv K) 0 0 κ) {s0 : Int32} {s1 : Int32} {I : zI} {P : zP} (hP : PSt P) (h : j_X10_keepRun_128 K s0 s1 I P) : Gx κ 128 [.ref 155, .float 0] [.int s0, .int s1, .ref 215] SHy I P 0 0 := by
  unfold j_X10_keepRun_128 at h
  obtain ⟨hc1, h⟩ := h
  refine g_iast cx dX10_keepRun_128 rfl hc1 ?_
  refine g_aload_n cx dX10_keepRun_129 rfl ?_
  refine g_getR cx lk_X10_195 rfl (Nat.le_of_ble_eq_true rfl) rfl dX10_keepRun_130 (v := 216) (pst hP 215 rfl) ?_
  refine g_aload_n cx dX10_keepRun_133 rfl ?_
  refine g_getI cx lk_X10_385 rfl (Nat.le_of_ble_eq_true rfl) rfl dX10_keepRun_134 (x := ((zu I 215 ((s1).toNatClampNeg) s0) 155 50)) rfl ?_
  refine g_aload_n cx dX10_keepRun_137 rfl ?_
  refine g_getI cx lk_X10_418 rfl (Nat.le_of_ble_eq_true rfl) rfl dX10_keepRun_138 (x := ((zu I 215 ((s1).toNatClampNeg) s0) 155 55)) rfl ?_
  obtain ⟨hc2, h⟩ := h
  refine g_iast cx dX10_keepRun_141 rfl hc2 ?_
  refine g_iconst cx dX10_keepRun_142 ic_0 ?_
  refine g_istore_n cx dX10_keepRun_143 (Nat.le_of_ble_eq_true rfl) (Gx.L [.ref 155, .int 0] rfl ?_)
  obtain ⟨n9, h⟩ := h
  exact gl_X10_keepRun_144 cx hE n9 _ _ _ hP h
def j_X10_keepRun_103 (K : zI → zP → Prop) (s0 : Int32) (s1 : Int32) (I : zI) (P : zP) : Prop := vp_in s1 3 ∧ (if ((zu I 214 ((s1).toNatClampNeg) s0) 155 52) = 1 then (j_X10_keepRun_128 K ((zu I 214 ((s1).toNatClampNeg) s0) 155 66) ((zu I 214 ((s1).toNatClampNeg) s0) 155 50) (zu I 214 ((s1).toNatClampNeg) s0) P) else (j_X10_keepRun_128 K (-1) ((zu I 214 ((s1).toNatClampNeg) s0) 155 50) (zu I 214 ((s1).toNatClampNeg) s0) P))
theorem gj_X10_keepRun_103 {κ : zX} (cx : Cx yX10_keepRun cX10_keepRun 2 none 0 0 κ) {K : zI → zP → Prop} (hE : zEnd (zKv K) 0 0 κ) {s0 : Int32} {s1 : Int32} {I : zI} {P : zP} (hP : PSt P) (h : j_X10_keepRun_103 K s0 s1 I P) : Gx κ 103 [.ref 155, .float 0] [.int s0, .int s1, .ref 214] SHy I P 0 0 := by
  unfold j_X10_keepRun_103 at h
  obtain ⟨hc1, h⟩ := h
  refine g_iast cx dX10_keepRun_103 rfl hc1 ?_
  refine g_aload_n cx dX10_keepRun_104 rfl ?_
  refine g_getR cx lk_X10_192 rfl (Nat.le_of_ble_eq_true rfl) rfl dX10_keepRun_105 (v := 215) (pst hP 214 rfl) ?_
  refine g_aload_n cx dX10_keepRun_108 rfl ?_
  refine g_getI cx lk_X10_385 rfl (Nat.le_of_ble_eq_true rfl) rfl dX10_keepRun_109 (x := ((zu I 214 ((s1).toNatClampNeg) s0) 155 50)) rfl ?_
  refine g_aload_n cx dX10_keepRun_112 rfl ?_
  refine g_getI cx lk_X10_403 rfl (Nat.le_of_ble_eq_true rfl) rfl dX10_keepRun_113 (x := ((zu I 214 ((s1).toNatClampNeg) s0) 155 52)) rfl ?_
  refine g_iconst cx dX10_keepRun_116 ic_1 ?_
  refine g_icmp_ne cx (tgt := 127) dX10_keepRun_117 rfl (fun c2 => ?_) (fun c2 => ?_)
  · have h := zifn c2 h
    refine g_iconst cx dX10_keepRun_127 ic_m1 ?_
    exact gj_X10_keepRun_128 cx hE hP h
  · have h := zifp c2 h
    refine g_aload_n cx dX10_keepRun_120 rfl ?_
    refine g_getI cx lk_X10_427 rfl (Nat.le_of_ble_eq_true rfl) rfl dX10_keepRun_121 (x := ((zu I 214 ((s1).toNatClampNeg) s0) 155 66)) rfl ?_
    refine g_goto cx (tgt := 128) dX10_keepRun_124 rfl ?_
    exact gj_X10_keepRun_128 cx hE hP h
def j_X10_keepRun_52 (K : zI → zP → Prop) (s0 : Int32) (s1 : Int32) (I : zI) (P : zP) : Prop := vp_in s1 3 ∧ (vp_in ((zu I 209 ((s1).toNatClampNeg) s0) 155 50) 3 ∧ (vp_in ((zu (zu I 209 ((s1).toNatClampNeg) s0) 210 ((((zu I 209 ((s1).toNatClampNeg) s0) 155 50)).toNatClampNeg) ((zu I 209 ((s1).toNatClampNeg) s0) 155 53)) 155 50) 3 ∧ (if ((zu (zu (zu I 209 ((s1).toNatClampNeg) s0) 210 ((((zu I 209 ((s1).toNatClampNeg) s0) 155 50)).toNatClampNeg) ((zu I 209 ((s1).toNatClampNeg) s0) 155 53)) 213 ((((zu (zu I 209 ((s1).toNatClampNeg) s0) 210 ((((zu I 209 ((s1).toNatClampNeg) s0) 155 50)).toNatClampNeg) ((zu I 209 ((s1).toNatClampNeg) s0) 155 53)) 155 50)).toNatClampNeg) ((zu (zu I 209 ((s1).toNatClampNeg) s0) 210 ((((zu I 209 ((s1).toNatClampNeg) s0) 155 50)).toNatClampNeg) ((zu I 209 ((s1).toNatClampNeg) s0) 155 53)) 155 63)) 155 52) = 1 then (j_X10_keepRun_103 K ((zu (zu (zu I 209 ((s1).toNatClampNeg) s0) 210 ((((zu I 209 ((s1).toNatClampNeg) s0) 155 50)).toNatClampNeg) ((zu I 209 ((s1).toNatClampNeg) s0) 155 53)) 213 ((((zu (zu I 209 ((s1).toNatClampNeg) s0) 210 ((((zu I 209 ((s1).toNatClampNeg) s0) 155 50)).toNatClampNeg) ((zu I 209 ((s1).toNatClampNeg) s0) 155 53)) 155 50)).toNatClampNeg) ((zu (zu I 209 ((s1).toNatClampNeg) s0) 210 ((((zu I 209 ((s1).toNatClampNeg) s0) 155 50)).toNatClampNeg) ((zu I 209 ((s1).toNatClampNeg) s0) 155 53)) 155 63)) 155 67) ((zu (zu (zu I 209 ((s1).toNatClampNeg) s0) 210 ((((zu I 209 ((s1).toNatClampNeg) s0) 155 50)).toNatClampNeg) ((zu I 209 ((s1).toNatClampNeg) s0) 155 53)) 213 ((((zu (zu I 209 ((s1).toNatClampNeg) s0) 210 ((((zu I 209 ((s1).toNatClampNeg) s0) 155 50)).toNatClampNeg) ((zu I 209 ((s1).toNatClampNeg) s0) 155 53)) 155 50)).toNatClampNeg) ((zu (zu I 209 ((s1).toNatClampNeg) s0) 210 ((((zu I 209 ((s1).toNatClampNeg) s0) 155 50)).toNatClampNeg) ((zu I 209 ((s1).toNatClampNeg) s0) 155 53)) 155 63)) 155 50) (zu (zu (zu I 209 ((s1).toNatClampNeg) s0) 210 ((((zu I 209 ((s1).toNatClampNeg) s0) 155 50)).toNatClampNeg) ((zu I 209 ((s1).toNatClampNeg) s0) 155 53)) 213 ((((zu (zu I 209 ((s1).toNatClampNeg) s0) 210 ((((zu I 209 ((s1).toNatClampNeg) s0) 155 50)).toNatClampNeg) ((zu I 209 ((s1).toNatClampNeg) s0) 155 53)) 155 50)).toNatClampNeg) ((zu (zu I 209 ((s1).toNatClampNeg) s0) 210 ((((zu I 209 ((s1).toNatClampNeg) s0) 155 50)).toNatClampNeg) ((zu I 209 ((s1).toNatClampNeg) s0) 155 53)) 155 63)) P) else (j_X10_keepRun_103 K (-1) ((zu (zu (zu I 209 ((s1).toNatClampNeg) s0) 210 ((((zu I 209 ((s1).toNatClampNeg) s0) 155 50)).toNatClampNeg) ((zu I 209 ((s1).toNatClampNeg) s0) 155 53)) 213 ((((zu (zu I 209 ((s1).toNatClampNeg) s0) 210 ((((zu I 209 ((s1).toNatClampNeg) s0) 155 50)).toNatClampNeg) ((zu I 209 ((s1).toNatClampNeg) s0) 155 53)) 155 50)).toNatClampNeg) ((zu (zu I 209 ((s1).toNatClampNeg) s0) 210 ((((zu I 209 ((s1).toNatClampNeg) s0) 155 50)).toNatClampNeg) ((zu I 209 ((s1).toNatClampNeg) s0) 155 53)) 155 63)) 155 50) (zu (zu (zu I 209 ((s1).toNatClampNeg) s0) 210 ((((zu I 209 ((s1).toNatClampNeg) s0) 155 50)).toNatClampNeg) ((zu I 209 ((s1).toNatClampNeg) s0) 155 53)) 213 ((((zu (zu I 209 ((s1).toNatClampNeg) s0) 210 ((((zu I 209 ((s1).toNatClampNeg) s0) 155 50)).toNatClampNeg) ((zu I 209 ((s1).toNatClampNeg) s0) 155 53)) 155 50)).toNatClampNeg) ((zu (zu I 209 ((s1).toNatClampNeg) s0) 210 ((((zu I 209 ((s1).toNatClampNeg) s0) 155 50)).toNatClampNeg) ((zu I 209 ((s1).toNatClampNeg) s0) 155 53)) 155 63)) P))))
theorem gj_X10_keepRun_52 {κ : zX} (cx : Cx yX10_keepRun cX10_keepRun 2 none 0 0 κ) {K : zI → zP → Prop} (hE : zEnd (zKv K) 0 0 κ) {s0 : Int32} {s1 : Int32} {I : zI} {P : zP} (hP : PSt P) (h : j_X10_keepRun_52 K s0 s1 I P) : Gx κ 52 [.ref 155, .float 0] [.int s0, .int s1, .ref 209] SHy I P 0 0 := by
  unfold j_X10_keepRun_52 at h
  obtain ⟨hc1, h⟩ := h
  refine g_iast cx dX10_keepRun_52 rfl hc1 ?_
  refine g_aload_n cx dX10_keepRun_53 rfl ?_
  refine g_getR cx lk_X10_177 rfl (Nat.le_of_ble_eq_true rfl) rfl dX10_keepRun_54 (v := 210) (pst hP 209 rfl) ?_
  refine g_aload_n cx dX10_keepRun_57 rfl ?_
  refine g_getI cx lk_X10_385 rfl (Nat.le_of_ble_eq_true rfl) rfl dX10_keepRun_58 (x := ((zu I 209 ((s1).toNatClampNeg) s0) 155 50)) rfl ?_
  refine g_aload_n cx dX10_keepRun_61 rfl ?_
  refine g_getI cx lk_X10_412 rfl (Nat.le_of_ble_eq_true rfl) rfl dX10_keepRun_62 (x := ((zu I 209 ((s1).toNatClampNeg) s0) 155 53)) rfl ?_
  obtain ⟨hc2, h⟩ := h
  refine g_iast cx dX10_keepRun_65 rfl hc2 ?_
  refine g_aload_n cx dX10_keepRun_66 rfl ?_
  refine g_getR cx lk_X10_186 rfl (Nat.le_of_ble_eq_true rfl) rfl dX10_keepRun_67 (v := 213) (pst hP 212 rfl) ?_
  refine g_aload_n cx dX10_keepRun_70 rfl ?_
  refine g_getI cx lk_X10_385 rfl (Nat.le_of_ble_eq_true rfl) rfl dX10_keepRun_71 (x := ((zu (zu I 209 ((s1).toNatClampNeg) s0) 210 ((((zu I 209 ((s1).toNatClampNeg) s0) 155 50)).toNatClampNeg) ((zu I 209 ((s1).toNatClampNeg) s0) 155 53)) 155 50)) rfl ?_
  refine g_aload_n cx dX10_keepRun_74 rfl ?_
  refine g_getI cx lk_X10_421 rfl (Nat.le_of_ble_eq_true rfl) rfl dX10_keepRun_75 (x := ((zu (zu I 209 ((s1).toNatClampNeg) s0) 210 ((((zu I 209 ((s1).toNatClampNeg) s0) 155 50)).toNatClampNeg) ((zu I 209 ((s1).toNatClampNeg) s0) 155 53)) 155 63)) rfl ?_
  obtain ⟨hc3, h⟩ := h
  refine g_iast cx dX10_keepRun_78 rfl hc3 ?_
  refine g_aload_n cx dX10_keepRun_79 rfl ?_
  refine g_getR cx lk_X10_189 rfl (Nat.le_of_ble_eq_true rfl) rfl dX10_keepRun_80 (v := 214) (pst hP 213 rfl) ?_
  refine g_aload_n cx dX10_keepRun_83 rfl ?_
  refine g_getI cx lk_X10_385 rfl (Nat.le_of_ble_eq_true rfl) rfl dX10_keepRun_84 (x := ((zu (zu (zu I 209 ((s1).toNatClampNeg) s0) 210 ((((zu I 209 ((s1).toNatClampNeg) s0) 155 50)).toNatClampNeg) ((zu I 209 ((s1).toNatClampNeg) s0) 155 53)) 213 ((((zu (zu I 209 ((s1).toNatClampNeg) s0) 210 ((((zu I 209 ((s1).toNatClampNeg) s0) 155 50)).toNatClampNeg) ((zu I 209 ((s1).toNatClampNeg) s0) 155 53)) 155 50)).toNatClampNeg) ((zu (zu I 209 ((s1).toNatClampNeg) s0) 210 ((((zu I 209 ((s1).toNatClampNeg) s0) 155 50)).toNatClampNeg) ((zu I 209 ((s1).toNatClampNeg) s0) 155 53)) 155 63)) 155 50)) rfl ?_
  refine g_aload_n cx dX10_keepRun_87 rfl ?_
  refine g_getI cx lk_X10_403 rfl (Nat.le_of_ble_eq_true rfl) rfl dX10_keepRun_88 (x := ((zu (zu (zu I 209 ((s1).toNatClampNeg) s0) 210 ((((zu I 209 ((s1).toNatClampNeg) s0) 155 50)).toNatClampNeg) ((zu I 209 ((s1).toNatClampNeg) s0) 155 53)) 213 ((((zu (zu I 209 ((s1).toNatClampNeg) s0) 210 ((((zu I 209 ((s1).toNatClampNeg) s0) 155 50)).toNatClampNeg) ((zu I 209 ((s1).toNatClampNeg) s0) 155 53)) 155 50)).toNatClampNeg) ((zu (zu I 209 ((s1).toNatClampNeg) s0) 210 ((((zu I 209 ((s1).toNatClampNeg) s0) 155 50)).toNatClampNeg) ((zu I 209 ((s1).toNatClampNeg) s0) 155 53)) 155 63)) 155 52)) rfl ?_
  refine g_iconst cx dX10_keepRun_91 ic_1 ?_
  refine g_icmp_ne cx (tgt := 102) dX10_keepRun_92 rfl (fun c4 => ?_) (fun c4 => ?_)
  · have h := zifn c4 h
    refine g_iconst cx dX10_keepRun_102 ic_m1 ?_
    exact gj_X10_keepRun_103 cx hE hP h
  · have h := zifp c4 h
    refine g_aload_n cx dX10_keepRun_95 rfl ?_
    refine g_getI cx lk_X10_430 rfl (Nat.le_of_ble_eq_true rfl) rfl dX10_keepRun_96 (x := ((zu (zu (zu I 209 ((s1).toNatClampNeg) s0) 210 ((((zu I 209 ((s1).toNatClampNeg) s0) 155 50)).toNatClampNeg) ((zu I 209 ((s1).toNatClampNeg) s0) 155 53)) 213 ((((zu (zu I 209 ((s1).toNatClampNeg) s0) 210 ((((zu I 209 ((s1).toNatClampNeg) s0) 155 50)).toNatClampNeg) ((zu I 209 ((s1).toNatClampNeg) s0) 155 53)) 155 50)).toNatClampNeg) ((zu (zu I 209 ((s1).toNatClampNeg) s0) 210 ((((zu I 209 ((s1).toNatClampNeg) s0) 155 50)).toNatClampNeg) ((zu I 209 ((s1).toNatClampNeg) s0) 155 53)) 155 63)) 155 67)) rfl ?_
    refine g_goto cx (tgt := 103) dX10_keepRun_99 rfl ?_
    exact gj_X10_keepRun_103 cx hE hP h
def w_X10_keepRun (I : zI) (P : zP) (K : zI → zP → Prop) : Prop := vp_in (I 155 50) 3 ∧ (if ((zu I 208 (((I 155 50)).toNatClampNeg) (I 155 52)) 155 52) = 2 then (j_X10_keepRun_52 K 0 ((zu I 208 (((I 155 50)).toNatClampNeg) (I 155 52)) 155 50) (zu I 208 (((I 155 50)).toNatClampNeg) (I 155 52)) P) else (if ((zu I 208 (((I 155 50)).toNatClampNeg) (I 155 52)) 155 52) = 1 then (j_X10_keepRun_52 K ((zu I 208 (((I 155 50)).toNatClampNeg) (I 155 52)) 155 65) ((zu I 208 (((I 155 50)).toNatClampNeg) (I 155 52)) 155 50) (zu I 208 (((I 155 50)).toNatClampNeg) (I 155 52)) P) else (j_X10_keepRun_52 K ((zu I 208 (((I 155 50)).toNatClampNeg) (I 155 52)) 155 68) ((zu I 208 (((I 155 50)).toNatClampNeg) (I 155 52)) 155 50) (zu I 208 (((I 155 50)).toNatClampNeg) (I 155 52)) P)))
theorem e_X10_keepRun {I : zI} {P : zP} {K : zI → zP → Prop} (hP : PSt P) (h : w_X10_keepRun I P K) : Ev yX10_keepRun cX10_keepRun 2 none 0 0 0 0 [.ref 155] SHy I P (zKv K) := by
  refine Ev.start [.ref 155, .float 0] pn_X10 rfl (Nat.le_of_ble_eq_true rfl) rfl (fun κ cx hE => ?_)
  unfold w_X10_keepRun at h
  refine g_aload_n cx dX10_keepRun_0 rfl ?_
  refine g_getR cx lk_X10_171 rfl (Nat.le_of_ble_eq_true rfl) rfl dX10_keepRun_1 (v := 208) (pst hP 207 rfl) ?_
  refine g_aload_n cx dX10_keepRun_4 rfl ?_
  refine g_getI cx lk_X10_385 rfl (Nat.le_of_ble_eq_true rfl) rfl dX10_keepRun_5 (x := (I 155 50)) rfl ?_
  refine g_aload_n cx dX10_keepRun_8 rfl ?_
  refine g_getI cx lk_X10_403 rfl (Nat.le_of_ble_eq_true rfl) rfl dX10_keepRun_9 (x := (I 155 52)) rfl ?_
  obtain ⟨hc1, h⟩ := h
  refine g_iast cx dX10_keepRun_12 rfl hc1 ?_
  refine g_aload_n cx dX10_keepRun_13 rfl ?_
  refine g_getR cx lk_X10_174 rfl (Nat.le_of_ble_eq_true rfl) rfl dX10_keepRun_14 (v := 209) (pst hP 208 rfl) ?_
  refine g_aload_n cx dX10_keepRun_17 rfl ?_
  refine g_getI cx lk_X10_385 rfl (Nat.le_of_ble_eq_true rfl) rfl dX10_keepRun_18 (x := ((zu I 208 (((I 155 50)).toNatClampNeg) (I 155 52)) 155 50)) rfl ?_
  refine g_aload_n cx dX10_keepRun_21 rfl ?_
  refine g_getI cx lk_X10_403 rfl (Nat.le_of_ble_eq_true rfl) rfl dX10_keepRun_22 (x := ((zu I 208 (((I 155 50)).toNatClampNeg) (I 155 52)) 155 52)) rfl ?_
  refine g_iconst cx dX10_keepRun_25 ic_2 ?_
  refine g_icmp_ne cx (tgt := 33) dX10_keepRun_26 rfl (fun c2 => ?_) (fun c2 => ?_)
  · have h := zifn c2 h
    refine g_aload_n cx dX10_keepRun_33 rfl ?_
    refine g_getI cx lk_X10_403 rfl (Nat.le_of_ble_eq_true rfl) rfl dX10_keepRun_34 (x := ((zu I 208 (((I 155 50)).toNatClampNeg) (I 155 52)) 155 52)) rfl ?_
    refine g_iconst cx dX10_keepRun_37 ic_1 ?_
    refine g_icmp_ne cx (tgt := 48) dX10_keepRun_38 rfl (fun c3 => ?_) (fun c3 => ?_)
    · have h := zifn c3 h
      refine g_aload_n cx dX10_keepRun_48 rfl ?_
      refine g_getI cx lk_X10_433 rfl (Nat.le_of_ble_eq_true rfl) rfl dX10_keepRun_49 (x := ((zu I 208 (((I 155 50)).toNatClampNeg) (I 155 52)) 155 68)) rfl ?_
      exact gj_X10_keepRun_52 cx hE hP h
    · have h := zifp c3 h
      refine g_aload_n cx dX10_keepRun_41 rfl ?_
      refine g_getI cx lk_X10_424 rfl (Nat.le_of_ble_eq_true rfl) rfl dX10_keepRun_42 (x := ((zu I 208 (((I 155 50)).toNatClampNeg) (I 155 52)) 155 65)) rfl ?_
      refine g_goto cx (tgt := 52) dX10_keepRun_45 rfl ?_
      exact gj_X10_keepRun_52 cx hE hP h
  · have h := zifp c2 h
    refine g_iconst cx dX10_keepRun_29 ic_0 ?_
    refine g_goto cx (tgt := 52) dX10_keepRun_30 rfl ?_
    exact gj_X10_keepRun_52 cx hE hP h
def l_X10_lay_56 (K : zI → zP → Prop) : Nat → Int32 → Int32 → zI → zP → Prop
  | 0, _, _, _, _ => False
  | n + 1, y3, y4, I, P => if (I 155 37) ≤ y4 then (K I P) else (vp_in ((10 * y3) + y4) 24000 ∧ (vp_in y4 16 ∧ ((l_X10_lay_56 K n) y3 (y4 + 1) (zu I 188 ((y4).toNatClampNeg) (I 169 ((((10 * y3) + y4)).toNatClampNeg))) P)))
theorem gl_X10_lay_56 {κ : zX} (cx : Cx yX10_lay cX10_lay 5 none 0 0 κ) {K : zI → zP → Prop} (hE : zEnd (zKv K) 0 0 κ) : ∀ (n : Nat) (y3 : Int32) (y4 : Int32) (I : zI) (P : zP), PSt P → l_X10_lay_56 K n y3 y4 I P → Gx κ 56 [.ref 155, .float 0, .float 0, .int y3, .int y4] [] SHy I P 0 0 := by
  intro n
  induction n with
  | zero =>
    intro y3 y4 I P hP h
    rw [l_X10_lay_56] at h
    exact False.elim h
  | succ n ih =>
    intro y3 y4 I P hP h
    rw [l_X10_lay_56] at h
    refine g_iload cx dX10_lay_56 rfl ?_
    refine g_aload_n cx dX10_lay_58 rfl ?_
    refine g_getI cx lk_X10_282 rfl (Nat.le_of_ble_eq_true rfl) rfl dX10_lay_59 (x := (I 155 37)) rfl ?_
    refine g_icmp_ge cx (tgt := 90) dX10_lay_62 rfl (fun c1 => ?_) (fun c1 => ?_)
    · have h := zifp c1 h
      exact g_wv cx hE dX10_lay_90 rfl hP h
    · have h := zifn c1 h
      refine g_aload_n cx dX10_lay_65 rfl ?_
      refine g_getR cx lk_X10_111 rfl (Nat.le_of_ble_eq_true rfl) rfl dX10_lay_66 (v := 188) (pst hP 187 rfl) ?_
      refine g_iload cx dX10_lay_69 rfl ?_
      refine g_aload_n cx dX10_lay_71 rfl ?_
      refine g_getR cx lk_X10_54 rfl (Nat.le_of_ble_eq_true rfl) rfl dX10_lay_72 (v := 169) (pst hP 168 rfl) ?_
      refine g_bipush cx dX10_lay_75 bp_10 ?_
      refine g_iload_n cx dX10_lay_77 rfl ?_
      refine g_imul cx dX10_lay_78 ?_
      refine g_iload cx dX10_lay_79 rfl ?_
      refine g_iadd cx dX10_lay_81 ?_
      obtain ⟨hc2, h⟩ := h
      refine g_iald cx dX10_lay_82 rfl hc2 (x := (I 169 ((((10 * y3) + y4)).toNatClampNeg))) rfl ?_
      obtain ⟨hc3, h⟩ := h
      refine g_iast cx dX10_lay_83 rfl hc3 ?_
      refine g_iinc cx (v := (y4 + 1)) dX10_lay_84 rfl rfl (Nat.le_of_ble_eq_true rfl) (Gx.L [.ref 155, .float 0, .float 0, .int y3, .int (y4 + 1)] rfl ?_)
      refine g_goto cx (tgt := 56) dX10_lay_87 rfl ?_
      exact ih _ _ _ _ hP h
def l_X10_lay_21 (K : zI → zP → Prop) : Nat → Int32 → Int32 → zI → zP → Prop
  | 0, _, _, _, _ => False
  | n + 1, y3, y4, I, P => if 12 ≤ y4 then (∃ n9, l_X10_lay_56 K n9 y3 0 I P) else (vp_in ((12 * y3) + y4) 28800 ∧ (vp_in y4 12 ∧ ((l_X10_lay_21 K n) y3 (y4 + 1) (zu I 187 ((y4).toNatClampNeg) (I 168 ((((12 * y3) + y4)).toNatClampNeg))) P)))
theorem gl_X10_lay_21 {κ : zX} (cx : Cx yX10_lay cX10_lay 5 none 0 0 κ) {K : zI → zP → Prop} (hE : zEnd (zKv K) 0 0 κ) : ∀ (n : Nat) (y3 : Int32) (y4 : Int32) (I : zI) (P : zP), PSt P → l_X10_lay_21 K n y3 y4 I P → Gx κ 21 [.ref 155, .float 0, .float 0, .int y3, .int y4] [] SHy I P 0 0 := by
  intro n
  induction n with
  | zero =>
    intro y3 y4 I P hP h
    rw [l_X10_lay_21] at h
    exact False.elim h
  | succ n ih =>
    intro y3 y4 I P hP h
    rw [l_X10_lay_21] at h
    refine g_iload cx dX10_lay_21 rfl ?_
    refine g_bipush cx dX10_lay_23 bp_12 ?_
    refine g_icmp_ge cx (tgt := 53) dX10_lay_25 rfl (fun c1 => ?_) (fun c1 => ?_)
    · have h := zifp c1 h
      refine g_iconst cx dX10_lay_53 ic_0 ?_
      refine g_istore cx dX10_lay_54 (Nat.le_of_ble_eq_true rfl) (Gx.L [.ref 155, .float 0, .float 0, .int y3, .int 0] rfl ?_)
      obtain ⟨n9, h⟩ := h
      exact gl_X10_lay_56 cx hE n9 _ _ _ _ hP h
    · have h := zifn c1 h
      refine g_aload_n cx dX10_lay_28 rfl ?_
      refine g_getR cx lk_X10_108 rfl (Nat.le_of_ble_eq_true rfl) rfl dX10_lay_29 (v := 187) (pst hP 186 rfl) ?_
      refine g_iload cx dX10_lay_32 rfl ?_
      refine g_aload_n cx dX10_lay_34 rfl ?_
      refine g_getR cx lk_X10_51 rfl (Nat.le_of_ble_eq_true rfl) rfl dX10_lay_35 (v := 168) (pst hP 167 rfl) ?_
      refine g_bipush cx dX10_lay_38 bp_12 ?_
      refine g_iload_n cx dX10_lay_40 rfl ?_
      refine g_imul cx dX10_lay_41 ?_
      refine g_iload cx dX10_lay_42 rfl ?_
      refine g_iadd cx dX10_lay_44 ?_
      obtain ⟨hc2, h⟩ := h
      refine g_iald cx dX10_lay_45 rfl hc2 (x := (I 168 ((((12 * y3) + y4)).toNatClampNeg))) rfl ?_
      obtain ⟨hc3, h⟩ := h
      refine g_iast cx dX10_lay_46 rfl hc3 ?_
      refine g_iinc cx (v := (y4 + 1)) dX10_lay_47 rfl rfl (Nat.le_of_ble_eq_true rfl) (Gx.L [.ref 155, .float 0, .float 0, .int y3, .int (y4 + 1)] rfl ?_)
      refine g_goto cx (tgt := 21) dX10_lay_50 rfl ?_
      exact ih _ _ _ _ hP h
def w_X10_lay (x1 : Int32) (x2 : Int32) (I : zI) (P : zP) (K : zI → zP → Prop) : Prop := vp_in ((400 * x1) + x2) 2400 ∧ (∃ n9, l_X10_lay_21 K n9 ((400 * x1) + x2) 0 (zu I 155 37 (I 167 ((((400 * x1) + x2)).toNatClampNeg))) P)
theorem e_X10_lay {x1 : Int32} {x2 : Int32} {I : zI} {P : zP} {K : zI → zP → Prop} (hP : PSt P) (h : w_X10_lay x1 x2 I P K) : Ev yX10_lay cX10_lay 5 none 0 0 0 0 [.ref 155, .int x1, .int x2] SHy I P (zKv K) := by
  refine Ev.start [.ref 155, .int x1, .int x2, .float 0, .float 0] pn_X10 rfl (Nat.le_of_ble_eq_true rfl) rfl (fun κ cx hE => ?_)
  unfold w_X10_lay at h
  refine g_sipush cx dX10_lay_0 sp_400 ?_
  refine g_iload_n cx dX10_lay_3 rfl ?_
  refine g_imul cx dX10_lay_4 ?_
  refine g_iload_n cx dX10_lay_5 rfl ?_
  refine g_iadd cx dX10_lay_6 ?_
  refine g_istore_n cx dX10_lay_7 (Nat.le_of_ble_eq_true rfl) (Gx.L [.ref 155, .int x1, .int x2, .int ((400 * x1) + x2), .float 0] rfl ?_)
  refine g_aload_n cx dX10_lay_8 rfl ?_
  refine g_aload_n cx dX10_lay_9 rfl ?_
  refine g_getR cx lk_X10_48 rfl (Nat.le_of_ble_eq_true rfl) rfl dX10_lay_10 (v := 167) (pst hP 166 rfl) ?_
  refine g_iload_n cx dX10_lay_13 rfl ?_
  obtain ⟨hc1, h⟩ := h
  refine g_iald cx dX10_lay_14 rfl hc1 (x := (I 167 ((((400 * x1) + x2)).toNatClampNeg))) rfl ?_
  refine g_pI cx lk_X10_282 rfl (Nat.le_of_ble_eq_true rfl) rfl dX10_lay_15 fi_10_37 rfl rfl ?_
  refine g_iconst cx dX10_lay_18 ic_0 ?_
  refine g_istore cx dX10_lay_19 (Nat.le_of_ble_eq_true rfl) (Gx.L [.ref 155, .int x1, .int x2, .int ((400 * x1) + x2), .int 0] rfl ?_)
  refine (Gx.unset 1 (Gx.unset 2 (Gx.L [.ref 155, .float 0, .float 0, .int ((400 * x1) + x2), .int 0] rfl ?_)))
  obtain ⟨n9, h⟩ := h
  exact gl_X10_lay_21 cx hE n9 _ _ _ _ hP h
def j_X10_pad_54 (X16 : Int32 → Int32 → Int32 → Int32 → Int32 → zI → zP → Prop) (K : zI → zP → Prop) (y1 : Int32) (y2 : Int32) (y3 : Int32) (y4 : Int32) (y5 : Int32) (s0 : Int32) (I : zI) (P : zP) : Prop := w_X10_probeOp s0 y5 I P (fun (I1 : zI) (P1 : zP) => (if y2 = 1 then (w_X10_put 1 I1 P1 (fun (I3 : zI) (P3 : zP) => (X16 y1 y2 y3 y4 (y5 + 1) I3 P3))) else (X16 y1 y2 y3 y4 (y5 + 1) I1 P1)))
theorem gj_X10_pad_54 {κ : zX} (cx : Cx yX10_pad cX10_pad 6 none 2 46 κ) {K : zI → zP → Prop} (hE : zEnd (zKv K) 0 0 κ) {X16 : Int32 → Int32 → Int32 → Int32 → Int32 → zI → zP → Prop} (hX16 : ∀ (y1 : Int32) (y2 : Int32) (y3 : Int32) (y4 : Int32) (y5 : Int32) (I : zI) (P : zP), PSt P → X16 y1 y2 y3 y4 y5 I P → Gx κ 16 [.ref 155, .int y1, .int y2, .int y3, .int y4, .int y5] [] SHy I P 0 0) {y1 : Int32} {y2 : Int32} {y3 : Int32} {y4 : Int32} {y5 : Int32} {s0 : Int32} {I : zI} {P : zP} (hP : PSt P) (h : j_X10_pad_54 X16 K y1 y2 y3 y4 y5 s0 I P) : Gx κ 54 [.ref 155, .int y1, .int y2, .int y3, .int y4, .int y5] [.int s0, .ref 155] SHy I P 0 0 := by
  unfold j_X10_pad_54 at h
  refine g_iload cx dX10_pad_54 rfl ?_
  refine g_wVv cx [.int s0, .int y5] [] (e_X10_probeOp hP h) mt_X10_probeOp ml_X10_359 rfl rfl rfl dX10_pad_56 rfl rfl (Nat.le_of_ble_eq_true rfl) (Nat.le_of_ble_eq_true rfl) (Nat.le_of_ble_eq_true rfl) (fun I1 P1 hP h => ?_)
  refine g_iload_n cx dX10_pad_59 rfl ?_
  refine g_iconst cx dX10_pad_60 ic_1 ?_
  refine g_icmp_ne cx (tgt := 69) dX10_pad_61 rfl (fun c2 => ?_) (fun c2 => ?_)
  · have h := zifn c2 h
    refine g_iinc cx (v := (y5 + 1)) dX10_pad_69 rfl rfl (Nat.le_of_ble_eq_true rfl) (Gx.L [.ref 155, .int y1, .int y2, .int y3, .int y4, .int (y5 + 1)] rfl ?_)
    refine g_goto cx (tgt := 16) dX10_pad_72 rfl ?_
    exact hX16 _ _ _ _ _ _ _ hP h
  · have h := zifp c2 h
    refine g_aload_n cx dX10_pad_64 rfl ?_
    refine g_iconst cx dX10_pad_65 ic_1 ?_
    refine g_wVv cx [.int 1] [] (e_X10_put hP h) mt_X10_put ml_X10_344 rfl rfl rfl dX10_pad_66 rfl rfl (Nat.le_of_ble_eq_true rfl) (Nat.le_of_ble_eq_true rfl) (Nat.le_of_ble_eq_true rfl) (fun I3 P3 hP h => ?_)
    refine g_iinc cx (v := (y5 + 1)) dX10_pad_69 rfl rfl (Nat.le_of_ble_eq_true rfl) (Gx.L [.ref 155, .int y1, .int y2, .int y3, .int y4, .int (y5 + 1)] rfl ?_)
    refine g_goto cx (tgt := 16) dX10_pad_72 rfl ?_
    exact hX16 _ _ _ _ _ _ _ hP h
def l_X10_pad_16 (K : zI → zP → Prop) : Nat → Int32 → Int32 → Int32 → Int32 → Int32 → zI → zP → Prop
  | 0, _, _, _, _, _, _, _ => False
  | n + 1, y1, y2, y3, y4, y5, I, P => if (I 155 17) ≤ y5 then (vp_in y4 401 ∧ (w_X10_jump 20 ((400 + ((I 155 47) + 1)) - 1) ((zu I 155 47 ((I 155 47) + 1)) 191 ((y4).toNatClampNeg)) (zu I 155 47 ((I 155 47) + 1)) P (fun (I3 : zI) (P3 : zP) => (K I3 P3)))) else (w_X10_stands y5 y2 y1 y3 (I 155 17) I P (fun (v4 : Int32) (I4 : zI) (P4 : zP) => (if v4 = 0 then ((l_X10_pad_16 K n) y1 y2 y3 y4 (y5 + 1) I4 P4) else (if y2 = 1 then (j_X10_pad_54 (l_X10_pad_16 K n) K y1 y2 y3 y4 y5 49 I4 P4) else (j_X10_pad_54 (l_X10_pad_16 K n) K y1 y2 y3 y4 y5 55 I4 P4)))))
theorem gl_X10_pad_16 {κ : zX} (cx : Cx yX10_pad cX10_pad 6 none 2 46 κ) {K : zI → zP → Prop} (hE : zEnd (zKv K) 0 0 κ) : ∀ (n : Nat) (y1 : Int32) (y2 : Int32) (y3 : Int32) (y4 : Int32) (y5 : Int32) (I : zI) (P : zP), PSt P → l_X10_pad_16 K n y1 y2 y3 y4 y5 I P → Gx κ 16 [.ref 155, .int y1, .int y2, .int y3, .int y4, .int y5] [] SHy I P 0 0 := by
  intro n
  induction n with
  | zero =>
    intro y1 y2 y3 y4 y5 I P hP h
    rw [l_X10_pad_16] at h
    exact False.elim h
  | succ n ih =>
    intro y1 y2 y3 y4 y5 I P hP h
    rw [l_X10_pad_16] at h
    refine g_iload cx dX10_pad_16 rfl ?_
    refine g_aload_n cx dX10_pad_18 rfl ?_
    refine g_getI cx lk_X10_335 rfl (Nat.le_of_ble_eq_true rfl) rfl dX10_pad_19 (x := (I 155 17)) rfl ?_
    refine g_icmp_ge cx (tgt := 75) dX10_pad_22 rfl (fun c1 => ?_) (fun c1 => ?_)
    · have h := zifp c1 h
      refine g_aload_n cx dX10_pad_75 rfl ?_
      refine g_dup cx dX10_pad_76 rfl ?_
      refine g_getI cx lk_X10_356 rfl (Nat.le_of_ble_eq_true rfl) rfl dX10_pad_77 (x := (I 155 47)) rfl ?_
      refine g_iconst cx dX10_pad_80 ic_1 ?_
      refine g_iadd cx dX10_pad_81 ?_
      refine g_pI cx lk_X10_356 rfl (Nat.le_of_ble_eq_true rfl) rfl dX10_pad_82 fi_10_47 rfl rfl ?_
      refine g_aload_n cx dX10_pad_85 rfl ?_
      refine g_bipush cx dX10_pad_86 bp_20 ?_
      refine g_sipush cx dX10_pad_88 sp_400 ?_
      refine g_aload_n cx dX10_pad_91 rfl ?_
      refine g_getI cx lk_X10_356 rfl (Nat.le_of_ble_eq_true rfl) rfl dX10_pad_92 (x := ((I 155 47) + 1)) rfl ?_
      refine g_iadd cx dX10_pad_95 ?_
      refine g_iconst cx dX10_pad_96 ic_1 ?_
      refine g_isub cx dX10_pad_97 ?_
      refine g_aload_n cx dX10_pad_98 rfl ?_
      refine g_getR cx lk_X10_120 rfl (Nat.le_of_ble_eq_true rfl) rfl dX10_pad_99 (v := 191) (pst hP 190 rfl) ?_
      refine g_iload cx dX10_pad_102 rfl ?_
      obtain ⟨hc2, h⟩ := h
      refine g_iald cx dX10_pad_104 rfl hc2 (x := ((zu I 155 47 ((I 155 47) + 1)) 191 ((y4).toNatClampNeg))) rfl ?_
      refine g_wVv cx [.int 20, .int ((400 + ((I 155 47) + 1)) - 1), .int ((zu I 155 47 ((I 155 47) + 1)) 191 ((y4).toNatClampNeg))] [] (e_X10_jump hP h) mt_X10_jump ml_X10_382 rfl rfl rfl dX10_pad_105 rfl rfl (Nat.le_of_ble_eq_true rfl) (Nat.le_of_ble_eq_true rfl) (Nat.le_of_ble_eq_true rfl) (fun I3 P3 hP h => ?_)
      exact g_wv cx hE dX10_pad_108 rfl hP h
    · have h := zifn c1 h
      refine g_aload_n cx dX10_pad_25 rfl ?_
      refine g_iload cx dX10_pad_26 rfl ?_
      refine g_iload_n cx dX10_pad_28 rfl ?_
      refine g_iload_n cx dX10_pad_29 rfl ?_
      refine g_iload_n cx dX10_pad_30 rfl ?_
      refine g_aload_n cx dX10_pad_31 rfl ?_
      refine g_getI cx lk_X10_335 rfl (Nat.le_of_ble_eq_true rfl) rfl dX10_pad_32 (x := (I 155 17)) rfl ?_
      refine g_wVi cx [.int y5, .int y2, .int y1, .int y3, .int (I 155 17)] [] (e_X10_stands hP h) mt_X10_stands ml_X10_338 rfl rfl rfl dX10_pad_35 rfl rfl (Nat.le_of_ble_eq_true rfl) (Nat.le_of_ble_eq_true rfl) (Nat.le_of_ble_eq_true rfl) (fun v4 I4 P4 hP h => ?_)
      refine g_if_eq cx (tgt := 69) dX10_pad_38 rfl (fun c5 => ?_) (fun c5 => ?_)
      · have h := zifp c5 h
        refine g_iinc cx (v := (y5 + 1)) dX10_pad_69 rfl rfl (Nat.le_of_ble_eq_true rfl) (Gx.L [.ref 155, .int y1, .int y2, .int y3, .int y4, .int (y5 + 1)] rfl ?_)
        refine g_goto cx (tgt := 16) dX10_pad_72 rfl ?_
        exact ih _ _ _ _ _ _ _ hP h
      · have h := zifn c5 h
        refine g_aload_n cx dX10_pad_41 rfl ?_
        refine g_iload_n cx dX10_pad_42 rfl ?_
        refine g_iconst cx dX10_pad_43 ic_1 ?_
        refine g_icmp_ne cx (tgt := 52) dX10_pad_44 rfl (fun c6 => ?_) (fun c6 => ?_)
        · have h := zifn c6 h
          refine g_bipush cx dX10_pad_52 bp_55 ?_
          exact gj_X10_pad_54 cx hE ih hP h
        · have h := zifp c6 h
          refine g_bipush cx dX10_pad_47 bp_49 ?_
          refine g_goto cx (tgt := 54) dX10_pad_49 rfl ?_
          exact gj_X10_pad_54 cx hE ih hP h
def w_X10_pad (x1 : Int32) (x2 : Int32) (x3 : Int32) (x4 : Int32) (I : zI) (P : zP) (K : zI → zP → Prop) : Prop := vp_in (I 155 47) 500 ∧ (∃ n9, l_X10_pad_16 K n9 x1 x2 x3 x4 0 (zu I 193 (((I 155 47)).toNatClampNeg) (I 155 42)) P)
theorem e_X10_pad {x1 : Int32} {x2 : Int32} {x3 : Int32} {x4 : Int32} {I : zI} {P : zP} {K : zI → zP → Prop} (hP : PSt P) (h : w_X10_pad x1 x2 x3 x4 I P K) : Ev yX10_pad cX10_pad 6 none 2 46 0 0 [.ref 155, .int x1, .int x2, .int x3, .int x4] SHy I P (zKv K) := by
  refine Ev.start [.ref 155, .int x1, .int x2, .int x3, .int x4, .float 0] pn_X10 rfl (Nat.le_of_ble_eq_true rfl) rfl (fun κ cx hE => ?_)
  unfold w_X10_pad at h
  refine g_aload_n cx dX10_pad_0 rfl ?_
  refine g_getR cx lk_X10_126 rfl (Nat.le_of_ble_eq_true rfl) rfl dX10_pad_1 (v := 193) (pst hP 192 rfl) ?_
  refine g_aload_n cx dX10_pad_4 rfl ?_
  refine g_getI cx lk_X10_356 rfl (Nat.le_of_ble_eq_true rfl) rfl dX10_pad_5 (x := (I 155 47)) rfl ?_
  refine g_aload_n cx dX10_pad_8 rfl ?_
  refine g_getI cx lk_X10_341 rfl (Nat.le_of_ble_eq_true rfl) rfl dX10_pad_9 (x := (I 155 42)) rfl ?_
  obtain ⟨hc1, h⟩ := h
  refine g_iast cx dX10_pad_12 rfl hc1 ?_
  refine g_iconst cx dX10_pad_13 ic_0 ?_
  refine g_istore cx dX10_pad_14 (Nat.le_of_ble_eq_true rfl) (Gx.L [.ref 155, .int x1, .int x2, .int x3, .int x4, .int 0] rfl ?_)
  obtain ⟨n9, h⟩ := h
  exact gl_X10_pad_16 cx hE n9 _ _ _ _ _ _ _ hP h
