def l_X10_form_191 (K : Int32 → zI → zP → Prop) : Nat → Int32 → Int32 → Int32 → zI → zP → Prop
  | 0, _, _, _, _, _ => False
  | n + 1, y1, y2, y3, I, P => vp_in y1 6 ∧ (if (I 159 ((y1).toNatClampNeg)) ≤ y3 then (w_X10_rest y1 (4 + y3) y2 I P (fun (v3 : Int32) (I3 : zI) (P3 : zP) => (K v3 I3 P3))) else (w_X10_instruction y1 y3 y2 I P (fun (v4 : Int32) (I4 : zI) (P4 : zP) => (if v4 = (-1) then (vp_in ((400 * y1) + y3) 2400 ∧ (w_X10_size y1 y3 (zu I4 166 ((((400 * y1) + y3)).toNatClampNeg) (vp_nar .boolean 1)) P4 (fun (v7 : Int32) (I7 : zI) (P7 : zP) => ((l_X10_form_191 K n) y1 y2 (y3 + v7) I7 P7)))) else (K v4 I4 P4)))))
theorem gl_X10_form_191 {κ : zX} (cx : Cx yX10_form cX10_form 5 (some .int) 3 71 κ) {K : Int32 → zI → zP → Prop} (hE : zEnd (zKi K) 0 0 κ) : ∀ (n : Nat) (y1 : Int32) (y2 : Int32) (y3 : Int32) (I : zI) (P : zP), PSt P → l_X10_form_191 K n y1 y2 y3 I P → Gx κ 191 [.ref 155, .int y1, .int y2, .int y3, .float 0] [] SHy I P 0 0 := by
  intro n
  induction n with
  | zero =>
    intro y1 y2 y3 I P hP h
    rw [l_X10_form_191] at h
    exact False.elim h
  | succ n ih =>
    intro y1 y2 y3 I P hP h
    rw [l_X10_form_191] at h
    refine g_iload_n cx dX10_form_191 rfl ?_
    refine g_aload_n cx dX10_form_192 rfl ?_
    refine g_getR cx lk_X10_23 rfl (Nat.le_of_ble_eq_true rfl) rfl dX10_form_193 (v := 159) (pst hP 158 rfl) ?_
    refine g_iload_n cx dX10_form_196 rfl ?_
    obtain ⟨hc1, h⟩ := h
    refine g_iald cx dX10_form_197 rfl hc1 (x := (I 159 ((y1).toNatClampNeg))) rfl ?_
    refine g_icmp_ge cx (tgt := 244) dX10_form_198 rfl (fun c2 => ?_) (fun c2 => ?_)
    · have h := zifp c2 h
      refine g_aload_n cx dX10_form_244 rfl ?_
      refine g_iload_n cx dX10_form_245 rfl ?_
      refine g_iconst cx dX10_form_246 ic_4 ?_
      refine g_iload_n cx dX10_form_247 rfl ?_
      refine g_iadd cx dX10_form_248 ?_
      refine g_iload_n cx dX10_form_249 rfl ?_
      refine g_wVi cx [.int y1, .int (4 + y3), .int y2] [] (e_X10_rest hP h) mt_X10_rest ml_X10_262 rfl rfl rfl dX10_form_250 rfl rfl (Nat.le_of_ble_eq_true rfl) (Nat.le_of_ble_eq_true rfl) (Nat.le_of_ble_eq_true rfl) (fun v3 I3 P3 hP h => ?_)
      exact g_wi cx hE dX10_form_253 rfl rfl hP h
    · have h := zifn c2 h
      refine g_aload_n cx dX10_form_201 rfl ?_
      refine g_iload_n cx dX10_form_202 rfl ?_
      refine g_iload_n cx dX10_form_203 rfl ?_
      refine g_iload_n cx dX10_form_204 rfl ?_
      refine g_wVi cx [.int y1, .int y3, .int y2] [] (e_X10_instruction hP h) mt_X10_instruction ml_X10_255 rfl rfl rfl dX10_form_205 rfl rfl (Nat.le_of_ble_eq_true rfl) (Nat.le_of_ble_eq_true rfl) (Nat.le_of_ble_eq_true rfl) (fun v4 I4 P4 hP h => ?_)
      refine g_istore cx dX10_form_208 (Nat.le_of_ble_eq_true rfl) (Gx.L [.ref 155, .int y1, .int y2, .int y3, .int v4] rfl ?_)
      refine g_iload cx dX10_form_210 rfl ?_
      refine g_iconst cx dX10_form_212 ic_m1 ?_
      refine g_icmp_eq cx (tgt := 219) dX10_form_213 rfl (fun c5 => ?_) (fun c5 => ?_)
      · have h := zifp c5 h
        refine g_aload_n cx dX10_form_219 rfl ?_
        refine g_getR cx lk_X10_44 rfl (Nat.le_of_ble_eq_true rfl) rfl dX10_form_220 (v := 166) (pst hP 165 rfl) ?_
        refine g_sipush cx dX10_form_223 sp_400 ?_
        refine g_iload_n cx dX10_form_226 rfl ?_
        refine g_imul cx dX10_form_227 ?_
        refine g_iload_n cx dX10_form_228 rfl ?_
        refine g_iadd cx dX10_form_229 ?_
        refine g_iconst cx dX10_form_230 ic_1 ?_
        obtain ⟨hc6, h⟩ := h
        refine g_bast cx dX10_form_231 rfl hc6 ?_
        refine g_iload_n cx dX10_form_232 rfl ?_
        refine g_aload_n cx dX10_form_233 rfl ?_
        refine g_iload_n cx dX10_form_234 rfl ?_
        refine g_iload_n cx dX10_form_235 rfl ?_
        refine g_wVi cx [.int y1, .int y3] [.int y3] (e_X10_size hP h) mt_X10_size ml_X10_259 rfl rfl rfl dX10_form_236 rfl rfl (Nat.le_of_ble_eq_true rfl) (Nat.le_of_ble_eq_true rfl) (Nat.le_of_ble_eq_true rfl) (fun v7 I7 P7 hP h => ?_)
        refine g_iadd cx dX10_form_239 ?_
        refine g_istore_n cx dX10_form_240 (Nat.le_of_ble_eq_true rfl) (Gx.L [.ref 155, .int y1, .int y2, .int (y3 + v7), .int v4] rfl ?_)
        refine g_goto cx (tgt := 191) dX10_form_241 rfl ?_
        refine (Gx.unset 4 (Gx.L [.ref 155, .int y1, .int y2, .int (y3 + v7), .float 0] rfl ?_))
        exact ih _ _ _ _ _ hP h
      · have h := zifn c5 h
        refine g_iload cx dX10_form_216 rfl ?_
        exact g_wi cx hE dX10_form_218 rfl rfl hP h
def j_X10_form_181 (X122 : Int32 → Int32 → Int32 → zI → zP → Prop) (K : Int32 → zI → zP → Prop) (y1 : Int32) (y2 : Int32) (y3 : Int32) (s0 : Int32) (I : zI) (P : zP) : Prop := vp_in s0 2400 ∧ (X122 y1 y2 (y3 + 1) (zu I 160 ((s0).toNatClampNeg) 0) P)
theorem gj_X10_form_181 {κ : zX} (cx : Cx yX10_form cX10_form 5 (some .int) 3 71 κ) {K : Int32 → zI → zP → Prop} (hE : zEnd (zKi K) 0 0 κ) {X122 : Int32 → Int32 → Int32 → zI → zP → Prop} (hX122 : ∀ (y1 : Int32) (y2 : Int32) (y3 : Int32) (I : zI) (P : zP), PSt P → X122 y1 y2 y3 I P → Gx κ 122 [.ref 155, .int y1, .int y2, .int y3, .float 0] [] SHy I P 0 0) {y1 : Int32} {y2 : Int32} {y3 : Int32} {s0 : Int32} {I : zI} {P : zP} (hP : PSt P) (h : j_X10_form_181 X122 K y1 y2 y3 s0 I P) : Gx κ 181 [.ref 155, .int y1, .int y2, .int y3, .float 0] [.int s0, .ref 160] SHy I P 0 0 := by
  unfold j_X10_form_181 at h
  refine g_iconst cx dX10_form_181 ic_0 ?_
  obtain ⟨hc1, h⟩ := h
  refine g_iast cx dX10_form_182 rfl hc1 ?_
  refine g_iinc cx (v := (y3 + 1)) dX10_form_183 rfl rfl (Nat.le_of_ble_eq_true rfl) (Gx.L [.ref 155, .int y1, .int y2, .int (y3 + 1), .float 0] rfl ?_)
  refine g_goto cx (tgt := 122) dX10_form_186 rfl ?_
  exact hX122 _ _ _ _ _ hP h
def l_X10_form_122 (K : Int32 → zI → zP → Prop) : Nat → Int32 → Int32 → Int32 → zI → zP → Prop
  | 0, _, _, _, _, _ => False
  | n + 1, y1, y2, y3, I, P => if 400 ≤ y3 then (∃ n9, l_X10_form_191 K n9 y1 y2 0 I P) else (vp_in ((400 * y1) + y3) 2400 ∧ (vp_in y1 6 ∧ (if ((zu I 166 ((((400 * y1) + y3)).toNatClampNeg) (vp_nar .boolean 0)) 159 ((y1).toNatClampNeg)) ≤ y3 then (j_X10_form_181 (l_X10_form_122 K n) K y1 y2 y3 ((400 * y1) + y3) (zu I 166 ((((400 * y1) + y3)).toNatClampNeg) (vp_nar .boolean 0)) P) else (if y2 ≤ (4 + y3) then (j_X10_form_181 (l_X10_form_122 K n) K y1 y2 y3 ((400 * y1) + y3) (zu I 166 ((((400 * y1) + y3)).toNatClampNeg) (vp_nar .boolean 0)) P) else (vp_in (4 + y3) 600 ∧ (vp_in ((400 * y1) + y3) 2400 ∧ ((l_X10_form_122 K n) y1 y2 (y3 + 1) (zu (zu I 166 ((((400 * y1) + y3)).toNatClampNeg) (vp_nar .boolean 0)) 160 ((((400 * y1) + y3)).toNatClampNeg) ((zu I 166 ((((400 * y1) + y3)).toNatClampNeg) (vp_nar .boolean 0)) 156 (((4 + y3)).toNatClampNeg))) P)))))))
theorem gl_X10_form_122 {κ : zX} (cx : Cx yX10_form cX10_form 5 (some .int) 3 71 κ) {K : Int32 → zI → zP → Prop} (hE : zEnd (zKi K) 0 0 κ) : ∀ (n : Nat) (y1 : Int32) (y2 : Int32) (y3 : Int32) (I : zI) (P : zP), PSt P → l_X10_form_122 K n y1 y2 y3 I P → Gx κ 122 [.ref 155, .int y1, .int y2, .int y3, .float 0] [] SHy I P 0 0 := by
  intro n
  induction n with
  | zero =>
    intro y1 y2 y3 I P hP h
    rw [l_X10_form_122] at h
    exact False.elim h
  | succ n ih =>
    intro y1 y2 y3 I P hP h
    rw [l_X10_form_122] at h
    refine g_iload_n cx dX10_form_122 rfl ?_
    refine g_sipush cx dX10_form_123 sp_400 ?_
    refine g_icmp_ge cx (tgt := 189) dX10_form_126 rfl (fun c1 => ?_) (fun c1 => ?_)
    · have h := zifp c1 h
      refine g_iconst cx dX10_form_189 ic_0 ?_
      refine g_istore_n cx dX10_form_190 (Nat.le_of_ble_eq_true rfl) (Gx.L [.ref 155, .int y1, .int y2, .int 0, .float 0] rfl ?_)
      obtain ⟨n9, h⟩ := h
      exact gl_X10_form_191 cx hE n9 _ _ _ _ _ hP h
    · have h := zifn c1 h
      refine g_aload_n cx dX10_form_129 rfl ?_
      refine g_getR cx lk_X10_44 rfl (Nat.le_of_ble_eq_true rfl) rfl dX10_form_130 (v := 166) (pst hP 165 rfl) ?_
      refine g_sipush cx dX10_form_133 sp_400 ?_
      refine g_iload_n cx dX10_form_136 rfl ?_
      refine g_imul cx dX10_form_137 ?_
      refine g_iload_n cx dX10_form_138 rfl ?_
      refine g_iadd cx dX10_form_139 ?_
      refine g_iconst cx dX10_form_140 ic_0 ?_
      obtain ⟨hc2, h⟩ := h
      refine g_bast cx dX10_form_141 rfl hc2 ?_
      refine g_aload_n cx dX10_form_142 rfl ?_
      refine g_getR cx lk_X10_26 rfl (Nat.le_of_ble_eq_true rfl) rfl dX10_form_143 (v := 160) (pst hP 159 rfl) ?_
      refine g_sipush cx dX10_form_146 sp_400 ?_
      refine g_iload_n cx dX10_form_149 rfl ?_
      refine g_imul cx dX10_form_150 ?_
      refine g_iload_n cx dX10_form_151 rfl ?_
      refine g_iadd cx dX10_form_152 ?_
      refine g_iload_n cx dX10_form_153 rfl ?_
      refine g_aload_n cx dX10_form_154 rfl ?_
      refine g_getR cx lk_X10_23 rfl (Nat.le_of_ble_eq_true rfl) rfl dX10_form_155 (v := 159) (pst hP 158 rfl) ?_
      refine g_iload_n cx dX10_form_158 rfl ?_
      obtain ⟨hc3, h⟩ := h
      refine g_iald cx dX10_form_159 rfl hc3 (x := ((zu I 166 ((((400 * y1) + y3)).toNatClampNeg) (vp_nar .boolean 0)) 159 ((y1).toNatClampNeg))) rfl ?_
      refine g_icmp_ge cx (tgt := 181) dX10_form_160 rfl (fun c4 => ?_) (fun c4 => ?_)
      · have h := zifp c4 h
        exact gj_X10_form_181 cx hE ih hP h
      · have h := zifn c4 h
        refine g_iconst cx dX10_form_163 ic_4 ?_
        refine g_iload_n cx dX10_form_164 rfl ?_
        refine g_iadd cx dX10_form_165 ?_
        refine g_iload_n cx dX10_form_166 rfl ?_
        refine g_icmp_ge cx (tgt := 181) dX10_form_167 rfl (fun c5 => ?_) (fun c5 => ?_)
        · have h := zifp c5 h
          exact gj_X10_form_181 cx hE ih hP h
        · have h := zifn c5 h
          refine g_aload_n cx dX10_form_170 rfl ?_
          refine g_getR cx lk_X10_7 rfl (Nat.le_of_ble_eq_true rfl) rfl dX10_form_171 (v := 156) (pst hP 155 rfl) ?_
          refine g_iconst cx dX10_form_174 ic_4 ?_
          refine g_iload_n cx dX10_form_175 rfl ?_
          refine g_iadd cx dX10_form_176 ?_
          obtain ⟨hc6, h⟩ := h
          refine g_iald cx dX10_form_177 rfl hc6 (x := ((zu I 166 ((((400 * y1) + y3)).toNatClampNeg) (vp_nar .boolean 0)) 156 (((4 + y3)).toNatClampNeg))) rfl ?_
          refine g_goto cx (tgt := 182) dX10_form_178 rfl ?_
          obtain ⟨hc7, h⟩ := h
          refine g_iast cx dX10_form_182 rfl hc7 ?_
          refine g_iinc cx (v := (y3 + 1)) dX10_form_183 rfl rfl (Nat.le_of_ble_eq_true rfl) (Gx.L [.ref 155, .int y1, .int y2, .int (y3 + 1), .float 0] rfl ?_)
          refine g_goto cx (tgt := 122) dX10_form_186 rfl ?_
          exact ih _ _ _ _ _ hP h
def w_X10_form (x1 : Int32) (x2 : Int32) (I : zI) (P : zP) (K : Int32 → zI → zP → Prop) : Prop := if x2 < 1 then (K 0 I P) else (w_X10_in (I 156 0) 0 4 I P (fun (v2 : Int32) (I2 : zI) (P2 : zP) => (if v2 = 0 then (K 0 I2 P2) else (if x2 < 2 then (K 1 I2 P2) else (w_X10_in (I2 156 1) (I2 156 0) 12 I2 P2 (fun (v5 : Int32) (I5 : zI) (P5 : zP) => (if v5 = 0 then (K 1 I5 P5) else (if 4 ≤ x2 then (vp_in x1 6 ∧ (vp_in x1 6 ∧ (vp_in x1 6 ∧ (vp_in x1 6 ∧ (w_X10_in ((zu (zu (zu I5 157 ((x1).toNatClampNeg) (I5 156 0)) 158 ((x1).toNatClampNeg) ((zu I5 157 ((x1).toNatClampNeg) (I5 156 0)) 156 1)) 159 ((x1).toNatClampNeg) ((256 * ((zu (zu I5 157 ((x1).toNatClampNeg) (I5 156 0)) 158 ((x1).toNatClampNeg) ((zu I5 157 ((x1).toNatClampNeg) (I5 156 0)) 156 1)) 156 2)) + ((zu (zu I5 157 ((x1).toNatClampNeg) (I5 156 0)) 158 ((x1).toNatClampNeg) ((zu I5 157 ((x1).toNatClampNeg) (I5 156 0)) 156 1)) 156 3))) 159 ((x1).toNatClampNeg)) 1 400 (zu (zu (zu I5 157 ((x1).toNatClampNeg) (I5 156 0)) 158 ((x1).toNatClampNeg) ((zu I5 157 ((x1).toNatClampNeg) (I5 156 0)) 156 1)) 159 ((x1).toNatClampNeg) ((256 * ((zu (zu I5 157 ((x1).toNatClampNeg) (I5 156 0)) 158 ((x1).toNatClampNeg) ((zu I5 157 ((x1).toNatClampNeg) (I5 156 0)) 156 1)) 156 2)) + ((zu (zu I5 157 ((x1).toNatClampNeg) (I5 156 0)) 158 ((x1).toNatClampNeg) ((zu I5 157 ((x1).toNatClampNeg) (I5 156 0)) 156 1)) 156 3))) P5 (fun (v12 : Int32) (I12 : zI) (P12 : zP) => (if v12 = 0 then (K 2 I12 P12) else (∃ n9, l_X10_form_122 K n9 x1 x2 0 I12 P12)))))))) else (K x2 I5 P5)))))))))
theorem e_X10_form {x1 : Int32} {x2 : Int32} {I : zI} {P : zP} {K : Int32 → zI → zP → Prop} (hP : PSt P) (h : w_X10_form x1 x2 I P K) : Ev yX10_form cX10_form 5 (some .int) 3 71 0 0 [.ref 155, .int x1, .int x2] SHy I P (zKi K) := by
  refine Ev.start [.ref 155, .int x1, .int x2, .float 0, .float 0] pn_X10 rfl (Nat.le_of_ble_eq_true rfl) rfl (fun κ cx hE => ?_)
  unfold w_X10_form at h
  refine g_iload_n cx dX10_form_0 rfl ?_
  refine g_iconst cx dX10_form_1 ic_1 ?_
  refine g_icmp_lt cx (tgt := 19) dX10_form_2 rfl (fun c1 => ?_) (fun c1 => ?_)
  · have h := zifp c1 h
    refine g_iconst cx dX10_form_19 ic_0 ?_
    exact g_wi cx hE dX10_form_20 rfl rfl hP h
  · have h := zifn c1 h
    refine g_aload_n cx dX10_form_5 rfl ?_
    refine g_getR cx lk_X10_7 rfl (Nat.le_of_ble_eq_true rfl) rfl dX10_form_6 (v := 156) (pst hP 155 rfl) ?_
    refine g_iconst cx dX10_form_9 ic_0 ?_
    refine g_iald cx dX10_form_10 rfl (vin_lit (j := 0) (by decide) (Nat.le_of_ble_eq_true rfl) (by decide)) (x := (I 156 0)) rfl ?_
    refine g_iconst cx dX10_form_11 ic_0 ?_
    refine g_iconst cx dX10_form_12 ic_4 ?_
    refine g_wSi cx [.int (I 156 0), .int 0, .int 4] [] (e_X10_in hP h) mt_X10_in ml_X10_217 dX10_form_13 rfl rfl (Nat.le_of_ble_eq_true rfl) (Nat.le_of_ble_eq_true rfl) (Nat.le_of_ble_eq_true rfl) (fun v2 I2 P2 hP h => ?_)
    refine g_if_ne cx (tgt := 21) dX10_form_16 rfl (fun c3 => ?_) (fun c3 => ?_)
    · have h := zifn c3 h
      refine g_iload_n cx dX10_form_21 rfl ?_
      refine g_iconst cx dX10_form_22 ic_2 ?_
      refine g_icmp_lt cx (tgt := 46) dX10_form_23 rfl (fun c4 => ?_) (fun c4 => ?_)
      · have h := zifp c4 h
        refine g_iconst cx dX10_form_46 ic_1 ?_
        exact g_wi cx hE dX10_form_47 rfl rfl hP h
      · have h := zifn c4 h
        refine g_aload_n cx dX10_form_26 rfl ?_
        refine g_getR cx lk_X10_7 rfl (Nat.le_of_ble_eq_true rfl) rfl dX10_form_27 (v := 156) (pst hP 155 rfl) ?_
        refine g_iconst cx dX10_form_30 ic_1 ?_
        refine g_iald cx dX10_form_31 rfl (vin_lit (j := 1) (by decide) (Nat.le_of_ble_eq_true rfl) (by decide)) (x := (I2 156 1)) rfl ?_
        refine g_aload_n cx dX10_form_32 rfl ?_
        refine g_getR cx lk_X10_7 rfl (Nat.le_of_ble_eq_true rfl) rfl dX10_form_33 (v := 156) (pst hP 155 rfl) ?_
        refine g_iconst cx dX10_form_36 ic_0 ?_
        refine g_iald cx dX10_form_37 rfl (vin_lit (j := 0) (by decide) (Nat.le_of_ble_eq_true rfl) (by decide)) (x := (I2 156 0)) rfl ?_
        refine g_bipush cx dX10_form_38 bp_12 ?_
        refine g_wSi cx [.int (I2 156 1), .int (I2 156 0), .int 12] [] (e_X10_in hP h) mt_X10_in ml_X10_217 dX10_form_40 rfl rfl (Nat.le_of_ble_eq_true rfl) (Nat.le_of_ble_eq_true rfl) (Nat.le_of_ble_eq_true rfl) (fun v5 I5 P5 hP h => ?_)
        refine g_if_ne cx (tgt := 48) dX10_form_43 rfl (fun c6 => ?_) (fun c6 => ?_)
        · have h := zifn c6 h
          refine g_iload_n cx dX10_form_48 rfl ?_
          refine g_iconst cx dX10_form_49 ic_4 ?_
          refine g_icmp_ge cx (tgt := 55) dX10_form_50 rfl (fun c7 => ?_) (fun c7 => ?_)
          · have h := zifp c7 h
            refine g_aload_n cx dX10_form_55 rfl ?_
            refine g_getR cx lk_X10_17 rfl (Nat.le_of_ble_eq_true rfl) rfl dX10_form_56 (v := 157) (pst hP 156 rfl) ?_
            refine g_iload_n cx dX10_form_59 rfl ?_
            refine g_aload_n cx dX10_form_60 rfl ?_
            refine g_getR cx lk_X10_7 rfl (Nat.le_of_ble_eq_true rfl) rfl dX10_form_61 (v := 156) (pst hP 155 rfl) ?_
            refine g_iconst cx dX10_form_64 ic_0 ?_
            refine g_iald cx dX10_form_65 rfl (vin_lit (j := 0) (by decide) (Nat.le_of_ble_eq_true rfl) (by decide)) (x := (I5 156 0)) rfl ?_
            obtain ⟨hc8, h⟩ := h
            refine g_iast cx dX10_form_66 rfl hc8 ?_
            refine g_aload_n cx dX10_form_67 rfl ?_
            refine g_getR cx lk_X10_20 rfl (Nat.le_of_ble_eq_true rfl) rfl dX10_form_68 (v := 158) (pst hP 157 rfl) ?_
            refine g_iload_n cx dX10_form_71 rfl ?_
            refine g_aload_n cx dX10_form_72 rfl ?_
            refine g_getR cx lk_X10_7 rfl (Nat.le_of_ble_eq_true rfl) rfl dX10_form_73 (v := 156) (pst hP 155 rfl) ?_
            refine g_iconst cx dX10_form_76 ic_1 ?_
            refine g_iald cx dX10_form_77 rfl (vin_lit (j := 1) (by decide) (Nat.le_of_ble_eq_true rfl) (by decide)) (x := ((zu I5 157 ((x1).toNatClampNeg) (I5 156 0)) 156 1)) rfl ?_
            obtain ⟨hc9, h⟩ := h
            refine g_iast cx dX10_form_78 rfl hc9 ?_
            refine g_aload_n cx dX10_form_79 rfl ?_
            refine g_getR cx lk_X10_23 rfl (Nat.le_of_ble_eq_true rfl) rfl dX10_form_80 (v := 159) (pst hP 158 rfl) ?_
            refine g_iload_n cx dX10_form_83 rfl ?_
            refine g_sipush cx dX10_form_84 sp_256 ?_
            refine g_aload_n cx dX10_form_87 rfl ?_
            refine g_getR cx lk_X10_7 rfl (Nat.le_of_ble_eq_true rfl) rfl dX10_form_88 (v := 156) (pst hP 155 rfl) ?_
            refine g_iconst cx dX10_form_91 ic_2 ?_
            refine g_iald cx dX10_form_92 rfl (vin_lit (j := 2) (by decide) (Nat.le_of_ble_eq_true rfl) (by decide)) (x := ((zu (zu I5 157 ((x1).toNatClampNeg) (I5 156 0)) 158 ((x1).toNatClampNeg) ((zu I5 157 ((x1).toNatClampNeg) (I5 156 0)) 156 1)) 156 2)) rfl ?_
            refine Gx.N 93 rfl ?_
            refine g_imul cx dX10_form_93 ?_
            refine g_aload_n cx dX10_form_94 rfl ?_
            refine g_getR cx lk_X10_7 rfl (Nat.le_of_ble_eq_true rfl) rfl dX10_form_95 (v := 156) (pst hP 155 rfl) ?_
            refine g_iconst cx dX10_form_98 ic_3 ?_
            refine g_iald cx dX10_form_99 rfl (vin_lit (j := 3) (by decide) (Nat.le_of_ble_eq_true rfl) (by decide)) (x := ((zu (zu I5 157 ((x1).toNatClampNeg) (I5 156 0)) 158 ((x1).toNatClampNeg) ((zu I5 157 ((x1).toNatClampNeg) (I5 156 0)) 156 1)) 156 3)) rfl ?_
            refine g_iadd cx dX10_form_100 ?_
            obtain ⟨hc10, h⟩ := h
            refine g_iast cx dX10_form_101 rfl hc10 ?_
            refine g_aload_n cx dX10_form_102 rfl ?_
            refine g_getR cx lk_X10_23 rfl (Nat.le_of_ble_eq_true rfl) rfl dX10_form_103 (v := 159) (pst hP 158 rfl) ?_
            refine g_iload_n cx dX10_form_106 rfl ?_
            obtain ⟨hc11, h⟩ := h
            refine g_iald cx dX10_form_107 rfl hc11 (x := ((zu (zu (zu I5 157 ((x1).toNatClampNeg) (I5 156 0)) 158 ((x1).toNatClampNeg) ((zu I5 157 ((x1).toNatClampNeg) (I5 156 0)) 156 1)) 159 ((x1).toNatClampNeg) ((256 * ((zu (zu I5 157 ((x1).toNatClampNeg) (I5 156 0)) 158 ((x1).toNatClampNeg) ((zu I5 157 ((x1).toNatClampNeg) (I5 156 0)) 156 1)) 156 2)) + ((zu (zu I5 157 ((x1).toNatClampNeg) (I5 156 0)) 158 ((x1).toNatClampNeg) ((zu I5 157 ((x1).toNatClampNeg) (I5 156 0)) 156 1)) 156 3))) 159 ((x1).toNatClampNeg))) rfl ?_
            refine g_iconst cx dX10_form_108 ic_1 ?_
            refine g_sipush cx dX10_form_109 sp_400 ?_
            refine g_wSi cx [.int ((zu (zu (zu I5 157 ((x1).toNatClampNeg) (I5 156 0)) 158 ((x1).toNatClampNeg) ((zu I5 157 ((x1).toNatClampNeg) (I5 156 0)) 156 1)) 159 ((x1).toNatClampNeg) ((256 * ((zu (zu I5 157 ((x1).toNatClampNeg) (I5 156 0)) 158 ((x1).toNatClampNeg) ((zu I5 157 ((x1).toNatClampNeg) (I5 156 0)) 156 1)) 156 2)) + ((zu (zu I5 157 ((x1).toNatClampNeg) (I5 156 0)) 158 ((x1).toNatClampNeg) ((zu I5 157 ((x1).toNatClampNeg) (I5 156 0)) 156 1)) 156 3))) 159 ((x1).toNatClampNeg)), .int 1, .int 400] [] (e_X10_in hP h) mt_X10_in ml_X10_217 dX10_form_112 rfl rfl (Nat.le_of_ble_eq_true rfl) (Nat.le_of_ble_eq_true rfl) (Nat.le_of_ble_eq_true rfl) (fun v12 I12 P12 hP h => ?_)
            refine g_if_ne cx (tgt := 120) dX10_form_115 rfl (fun c13 => ?_) (fun c13 => ?_)
            · have h := zifn c13 h
              refine g_iconst cx dX10_form_120 ic_0 ?_
              refine g_istore_n cx dX10_form_121 (Nat.le_of_ble_eq_true rfl) (Gx.L [.ref 155, .int x1, .int x2, .int 0, .float 0] rfl ?_)
              obtain ⟨n9, h⟩ := h
              exact gl_X10_form_122 cx hE n9 _ _ _ _ _ hP h
            · have h := zifp c13 h
              refine g_iconst cx dX10_form_118 ic_2 ?_
              exact g_wi cx hE dX10_form_119 rfl rfl hP h
          · have h := zifn c7 h
            refine g_iload_n cx dX10_form_53 rfl ?_
            exact g_wi cx hE dX10_form_54 rfl rfl hP h
        · have h := zifp c6 h
          refine g_iconst cx dX10_form_46 ic_1 ?_
          exact g_wi cx hE dX10_form_47 rfl rfl hP h
    · have h := zifp c3 h
      refine g_iconst cx dX10_form_19 ic_0 ?_
      exact g_wi cx hE dX10_form_20 rfl rfl hP h
def l_X10_howMany_6 (K : Int32 → zI → zP → Prop) : Nat → Int32 → Int32 → Int32 → Int32 → Int32 → Int32 → zI → zP → Prop
  | 0, _, _, _, _, _, _, _, _ => False
  | n + 1, y1, y2, y3, y4, y5, y6, I, P => if y4 ≤ y6 then (K y5 I P) else (w_X10_stands y6 y1 y2 y3 y4 I P (fun (v2 : Int32) (I2 : zI) (P2 : zP) => (if v2 = 0 then ((l_X10_howMany_6 K n) y1 y2 y3 y4 y5 (y6 + 1) I2 P2) else ((l_X10_howMany_6 K n) y1 y2 y3 y4 (y5 + 1) (y6 + 1) I2 P2))))
theorem gl_X10_howMany_6 {κ : zX} (cx : Cx yX10_howMany cX10_howMany 7 (some .int) 1 25 κ) {K : Int32 → zI → zP → Prop} (hE : zEnd (zKi K) 0 0 κ) : ∀ (n : Nat) (y1 : Int32) (y2 : Int32) (y3 : Int32) (y4 : Int32) (y5 : Int32) (y6 : Int32) (I : zI) (P : zP), PSt P → l_X10_howMany_6 K n y1 y2 y3 y4 y5 y6 I P → Gx κ 6 [.ref 155, .int y1, .int y2, .int y3, .int y4, .int y5, .int y6] [] SHy I P 0 0 := by
  intro n
  induction n with
  | zero =>
    intro y1 y2 y3 y4 y5 y6 I P hP h
    rw [l_X10_howMany_6] at h
    exact False.elim h
  | succ n ih =>
    intro y1 y2 y3 y4 y5 y6 I P hP h
    rw [l_X10_howMany_6] at h
    refine g_iload cx dX10_howMany_6 rfl ?_
    refine g_iload cx dX10_howMany_8 rfl ?_
    refine g_icmp_ge cx (tgt := 44) dX10_howMany_10 rfl (fun c1 => ?_) (fun c1 => ?_)
    · have h := zifp c1 h
      refine g_iload cx dX10_howMany_44 rfl ?_
      exact g_wi cx hE dX10_howMany_46 rfl rfl hP h
    · have h := zifn c1 h
      refine g_aload_n cx dX10_howMany_13 rfl ?_
      refine g_iload cx dX10_howMany_14 rfl ?_
      refine g_iload_n cx dX10_howMany_16 rfl ?_
      refine g_iload_n cx dX10_howMany_17 rfl ?_
      refine g_iload_n cx dX10_howMany_18 rfl ?_
      refine g_iload cx dX10_howMany_19 rfl ?_
      refine g_wVi cx [.int y6, .int y1, .int y2, .int y3, .int y4] [] (e_X10_stands hP h) mt_X10_stands ml_X10_338 rfl rfl rfl dX10_howMany_21 rfl rfl (Nat.le_of_ble_eq_true rfl) (Nat.le_of_ble_eq_true rfl) (Nat.le_of_ble_eq_true rfl) (fun v2 I2 P2 hP h => ?_)
      refine g_if_eq cx (tgt := 34) dX10_howMany_24 rfl (fun c3 => ?_) (fun c3 => ?_)
      · have h := zifp c3 h
        refine g_iload cx dX10_howMany_34 rfl ?_
        refine g_istore cx dX10_howMany_36 (Nat.le_of_ble_eq_true rfl) (Gx.L [.ref 155, .int y1, .int y2, .int y3, .int y4, .int y5, .int y6] rfl ?_)
        refine g_iinc cx (v := (y6 + 1)) dX10_howMany_38 rfl rfl (Nat.le_of_ble_eq_true rfl) (Gx.L [.ref 155, .int y1, .int y2, .int y3, .int y4, .int y5, .int (y6 + 1)] rfl ?_)
        refine g_goto cx (tgt := 6) dX10_howMany_41 rfl ?_
        exact ih _ _ _ _ _ _ _ _ hP h
      · have h := zifn c3 h
        refine g_iload cx dX10_howMany_27 rfl ?_
        refine g_iconst cx dX10_howMany_29 ic_1 ?_
        refine g_iadd cx dX10_howMany_30 ?_
        refine g_goto cx (tgt := 36) dX10_howMany_31 rfl ?_
        refine g_istore cx dX10_howMany_36 (Nat.le_of_ble_eq_true rfl) (Gx.L [.ref 155, .int y1, .int y2, .int y3, .int y4, .int (y5 + 1), .int y6] rfl ?_)
        refine g_iinc cx (v := (y6 + 1)) dX10_howMany_38 rfl rfl (Nat.le_of_ble_eq_true rfl) (Gx.L [.ref 155, .int y1, .int y2, .int y3, .int y4, .int (y5 + 1), .int (y6 + 1)] rfl ?_)
        refine g_goto cx (tgt := 6) dX10_howMany_41 rfl ?_
        exact ih _ _ _ _ _ _ _ _ hP h
def w_X10_howMany (x1 : Int32) (x2 : Int32) (x3 : Int32) (x4 : Int32) (I : zI) (P : zP) (K : Int32 → zI → zP → Prop) : Prop := ∃ n9, l_X10_howMany_6 K n9 x1 x2 x3 x4 0 0 I P
theorem e_X10_howMany {x1 : Int32} {x2 : Int32} {x3 : Int32} {x4 : Int32} {I : zI} {P : zP} {K : Int32 → zI → zP → Prop} (hP : PSt P) (h : w_X10_howMany x1 x2 x3 x4 I P K) : Ev yX10_howMany cX10_howMany 7 (some .int) 1 25 0 0 [.ref 155, .int x1, .int x2, .int x3, .int x4] SHy I P (zKi K) := by
  refine Ev.start [.ref 155, .int x1, .int x2, .int x3, .int x4, .float 0, .float 0] pn_X10 rfl (Nat.le_of_ble_eq_true rfl) rfl (fun κ cx hE => ?_)
  unfold w_X10_howMany at h
  refine g_iconst cx dX10_howMany_0 ic_0 ?_
  refine g_istore cx dX10_howMany_1 (Nat.le_of_ble_eq_true rfl) (Gx.L [.ref 155, .int x1, .int x2, .int x3, .int x4, .int 0, .float 0] rfl ?_)
  refine g_iconst cx dX10_howMany_3 ic_0 ?_
  refine g_istore cx dX10_howMany_4 (Nat.le_of_ble_eq_true rfl) (Gx.L [.ref 155, .int x1, .int x2, .int x3, .int x4, .int 0, .int 0] rfl ?_)
  obtain ⟨n9, h⟩ := h
  exact gl_X10_howMany_6 cx hE n9 _ _ _ _ _ _ _ _ hP h
def j_X10_put_34 (K : zI → zP → Prop) (I : zI) (P : zP) : Prop := K (zu I 155 42 ((I 155 42) + 1)) P
theorem gj_X10_put_34 {κ : zX} (cx : Cx yX10_put cX10_put 2 none 0 0 κ) {K : zI → zP → Prop} (hE : zEnd (zKv K) 0 0 κ) {I : zI} {P : zP} (hP : PSt P) (h : j_X10_put_34 K I P) : Gx κ 34 [.ref 155, .float 0] [] SHy I P 0 0 := by
  unfold j_X10_put_34 at h
  refine g_aload_n cx dX10_put_34 rfl ?_
  refine g_dup cx dX10_put_35 rfl ?_
  refine g_getI cx lk_X10_341 rfl (Nat.le_of_ble_eq_true rfl) rfl dX10_put_36 (x := (I 155 42)) rfl ?_
  refine g_iconst cx dX10_put_39 ic_1 ?_
  refine g_iadd cx dX10_put_40 ?_
  refine g_pI cx lk_X10_341 rfl (Nat.le_of_ble_eq_true rfl) rfl dX10_put_41 fi_10_42 rfl rfl ?_
  exact g_wv cx hE dX10_put_44 rfl hP h
def w_X10_put (x1 : Int32) (I : zI) (P : zP) (K : zI → zP → Prop) : Prop := if 4000 ≤ (I 155 42) then (j_X10_put_34 K I P) else (vp_in (I 155 42) 4000 ∧ (vp_in ((zu I 189 (((I 155 42)).toNatClampNeg) (x1 &&& 255)) 155 42) 4000 ∧ (j_X10_put_34 K (zu (zu I 189 (((I 155 42)).toNatClampNeg) (x1 &&& 255)) 190 ((((zu I 189 (((I 155 42)).toNatClampNeg) (x1 &&& 255)) 155 42)).toNatClampNeg) (-1)) P)))
theorem e_X10_put {x1 : Int32} {I : zI} {P : zP} {K : zI → zP → Prop} (hP : PSt P) (h : w_X10_put x1 I P K) : Ev yX10_put cX10_put 2 none 0 0 0 0 [.ref 155, .int x1] SHy I P (zKv K) := by
  refine Ev.start [.ref 155, .int x1] pn_X10 rfl (Nat.le_of_ble_eq_true rfl) rfl (fun κ cx hE => ?_)
  unfold w_X10_put at h
  refine g_aload_n cx dX10_put_0 rfl ?_
  refine g_getI cx lk_X10_341 rfl (Nat.le_of_ble_eq_true rfl) rfl dX10_put_1 (x := (I 155 42)) rfl ?_
  refine g_sipush cx dX10_put_4 sp_4000 ?_
  refine g_icmp_ge cx (tgt := 34) dX10_put_7 rfl (fun c1 => ?_) (fun c1 => ?_)
  · have h := zifp c1 h
    refine (Gx.unset 1 (Gx.L [.ref 155, .float 0] rfl ?_))
    exact gj_X10_put_34 cx hE hP h
  · have h := zifn c1 h
    refine g_aload_n cx dX10_put_10 rfl ?_
    refine g_getR cx lk_X10_114 rfl (Nat.le_of_ble_eq_true rfl) rfl dX10_put_11 (v := 189) (pst hP 188 rfl) ?_
    refine g_aload_n cx dX10_put_14 rfl ?_
    refine g_getI cx lk_X10_341 rfl (Nat.le_of_ble_eq_true rfl) rfl dX10_put_15 (x := (I 155 42)) rfl ?_
    refine g_iload_n cx dX10_put_18 rfl ?_
    refine g_sipush cx dX10_put_19 sp_255 ?_
    refine g_iand cx dX10_put_22 ?_
    obtain ⟨hc2, h⟩ := h
    refine g_iast cx dX10_put_23 rfl hc2 ?_
    refine g_aload_n cx dX10_put_24 rfl ?_
    refine g_getR cx lk_X10_117 rfl (Nat.le_of_ble_eq_true rfl) rfl dX10_put_25 (v := 190) (pst hP 189 rfl) ?_
    refine g_aload_n cx dX10_put_28 rfl ?_
    refine g_getI cx lk_X10_341 rfl (Nat.le_of_ble_eq_true rfl) rfl dX10_put_29 (x := ((zu I 189 (((I 155 42)).toNatClampNeg) (x1 &&& 255)) 155 42)) rfl ?_
    refine g_iconst cx dX10_put_32 ic_m1 ?_
    obtain ⟨hc3, h⟩ := h
    refine g_iast cx dX10_put_33 rfl hc3 ?_
    refine (Gx.unset 1 (Gx.L [.ref 155, .float 0] rfl ?_))
    exact gj_X10_put_34 cx hE hP h
def j_X10_jump_22 (K : zI → zP → Prop) (y2 : Int32) (y4 : Int32) (s0 : Int32) (I : zI) (P : zP) : Prop := vp_in y2 1000 ∧ (vp_in y2 1000 ∧ (if ((zu I 195 ((y2).toNatClampNeg) y4) 194 ((y2).toNatClampNeg)) = 0 then (w_X10_put s0 (zu I 195 ((y2).toNatClampNeg) y4) P (fun (I4 : zI) (P4 : zP) => (w_X10_put y4 I4 P4 (fun (I5 : zI) (P5 : zP) => (K I5 P5))))) else (w_X10_put (s0 + 64) (zu I 195 ((y2).toNatClampNeg) y4) P (fun (I6 : zI) (P6 : zP) => (w_X10_put ((y4 : Int32) >>> ((8 : Int32) &&& 31)) I6 P6 (fun (I7 : zI) (P7 : zP) => (w_X10_put y4 I7 P7 (fun (I8 : zI) (P8 : zP) => (K I8 P8)))))))))
theorem gj_X10_jump_22 {κ : zX} (cx : Cx yX10_jump cX10_jump 6 none 1 21 κ) {K : zI → zP → Prop} (hE : zEnd (zKv K) 0 0 κ) {y2 : Int32} {y4 : Int32} {s0 : Int32} {I : zI} {P : zP} (hP : PSt P) (h : j_X10_jump_22 K y2 y4 s0 I P) : Gx κ 22 [.ref 155, .float 0, .int y2, .float 0, .int y4, .float 0] [.int s0] SHy I P 0 0 := by
  unfold j_X10_jump_22 at h
  refine g_istore cx dX10_jump_22 (Nat.le_of_ble_eq_true rfl) (Gx.L [.ref 155, .float 0, .int y2, .float 0, .int y4, .int s0] rfl ?_)
  refine g_aload_n cx dX10_jump_24 rfl ?_
  refine g_getR cx lk_X10_132 rfl (Nat.le_of_ble_eq_true rfl) rfl dX10_jump_25 (v := 195) (pst hP 194 rfl) ?_
  refine g_iload_n cx dX10_jump_28 rfl ?_
  refine g_iload cx dX10_jump_29 rfl ?_
  obtain ⟨hc1, h⟩ := h
  refine g_iast cx dX10_jump_31 rfl hc1 ?_
  refine g_aload_n cx dX10_jump_32 rfl ?_
  refine g_getR cx lk_X10_129 rfl (Nat.le_of_ble_eq_true rfl) rfl dX10_jump_33 (v := 194) (pst hP 193 rfl) ?_
  refine g_iload_n cx dX10_jump_36 rfl ?_
  obtain ⟨hc2, h⟩ := h
  refine g_bald cx dX10_jump_37 rfl hc2 (x := ((zu I 195 ((y2).toNatClampNeg) y4) 194 ((y2).toNatClampNeg))) rfl ?_
  refine g_if_eq cx (tgt := 68) dX10_jump_38 rfl (fun c3 => ?_) (fun c3 => ?_)
  · have h := zifp c3 h
    refine g_aload_n cx dX10_jump_68 rfl ?_
    refine g_iload cx dX10_jump_69 rfl ?_
    refine g_wVv cx [.int s0] [] (e_X10_put hP h) mt_X10_put ml_X10_344 rfl rfl rfl dX10_jump_71 rfl rfl (Nat.le_of_ble_eq_true rfl) (Nat.le_of_ble_eq_true rfl) (Nat.le_of_ble_eq_true rfl) (fun I4 P4 hP h => ?_)
    refine g_aload_n cx dX10_jump_74 rfl ?_
    refine g_iload cx dX10_jump_75 rfl ?_
    refine g_wVv cx [.int y4] [] (e_X10_put hP h) mt_X10_put ml_X10_344 rfl rfl rfl dX10_jump_77 rfl rfl (Nat.le_of_ble_eq_true rfl) (Nat.le_of_ble_eq_true rfl) (Nat.le_of_ble_eq_true rfl) (fun I5 P5 hP h => ?_)
    exact g_wv cx hE dX10_jump_80 rfl hP h
  · have h := zifn c3 h
    refine g_aload_n cx dX10_jump_41 rfl ?_
    refine g_iload cx dX10_jump_42 rfl ?_
    refine g_bipush cx dX10_jump_44 bp_64 ?_
    refine g_iadd cx dX10_jump_46 ?_
    refine g_wVv cx [.int (s0 + 64)] [] (e_X10_put hP h) mt_X10_put ml_X10_344 rfl rfl rfl dX10_jump_47 rfl rfl (Nat.le_of_ble_eq_true rfl) (Nat.le_of_ble_eq_true rfl) (Nat.le_of_ble_eq_true rfl) (fun I6 P6 hP h => ?_)
    refine g_aload_n cx dX10_jump_50 rfl ?_
    refine g_iload cx dX10_jump_51 rfl ?_
    refine g_bipush cx dX10_jump_53 bp_8 ?_
    refine g_ishr cx dX10_jump_55 ?_
    refine g_wVv cx [.int ((y4 : Int32) >>> ((8 : Int32) &&& 31))] [] (e_X10_put hP h) mt_X10_put ml_X10_344 rfl rfl rfl dX10_jump_56 rfl rfl (Nat.le_of_ble_eq_true rfl) (Nat.le_of_ble_eq_true rfl) (Nat.le_of_ble_eq_true rfl) (fun I7 P7 hP h => ?_)
    refine g_aload_n cx dX10_jump_59 rfl ?_
    refine g_iload cx dX10_jump_60 rfl ?_
    refine g_wVv cx [.int y4] [] (e_X10_put hP h) mt_X10_put ml_X10_344 rfl rfl rfl dX10_jump_62 rfl rfl (Nat.le_of_ble_eq_true rfl) (Nat.le_of_ble_eq_true rfl) (Nat.le_of_ble_eq_true rfl) (fun I8 P8 hP h => ?_)
    refine g_goto cx (tgt := 80) dX10_jump_65 rfl ?_
    exact g_wv cx hE dX10_jump_80 rfl hP h
def w_X10_jump (x1 : Int32) (x2 : Int32) (x3 : Int32) (I : zI) (P : zP) (K : zI → zP → Prop) : Prop := if x1 ≤ 43 then (j_X10_jump_22 K x2 (x3 - (I 155 42)) x1 I P) else (j_X10_jump_22 K x2 (x3 - (I 155 42)) (x1 - 64) I P)
theorem e_X10_jump {x1 : Int32} {x2 : Int32} {x3 : Int32} {I : zI} {P : zP} {K : zI → zP → Prop} (hP : PSt P) (h : w_X10_jump x1 x2 x3 I P K) : Ev yX10_jump cX10_jump 6 none 1 21 0 0 [.ref 155, .int x1, .int x2, .int x3] SHy I P (zKv K) := by
  refine Ev.start [.ref 155, .int x1, .int x2, .int x3, .float 0, .float 0] pn_X10 rfl (Nat.le_of_ble_eq_true rfl) rfl (fun κ cx hE => ?_)
  unfold w_X10_jump at h
  refine g_iload_n cx dX10_jump_0 rfl ?_
  refine g_aload_n cx dX10_jump_1 rfl ?_
  refine g_getI cx lk_X10_341 rfl (Nat.le_of_ble_eq_true rfl) rfl dX10_jump_2 (x := (I 155 42)) rfl ?_
  refine g_isub cx dX10_jump_5 ?_
  refine g_istore cx dX10_jump_6 (Nat.le_of_ble_eq_true rfl) (Gx.L [.ref 155, .int x1, .int x2, .int x3, .int (x3 - (I 155 42)), .float 0] rfl ?_)
  refine g_iload_n cx dX10_jump_8 rfl ?_
  refine g_bipush cx dX10_jump_9 bp_43 ?_
  refine g_icmp_le cx (tgt := 21) dX10_jump_11 rfl (fun c1 => ?_) (fun c1 => ?_)
  · have h := zifp c1 h
    refine g_iload_n cx dX10_jump_21 rfl ?_
    refine (Gx.unset 1 (Gx.unset 3 (Gx.L [.ref 155, .float 0, .int x2, .float 0, .int (x3 - (I 155 42)), .float 0] rfl ?_)))
    exact gj_X10_jump_22 cx hE hP h
  · have h := zifn c1 h
    refine g_iload_n cx dX10_jump_14 rfl ?_
    refine g_bipush cx dX10_jump_15 bp_64 ?_
    refine g_isub cx dX10_jump_17 ?_
    refine g_goto cx (tgt := 22) dX10_jump_18 rfl ?_
    refine (Gx.unset 1 (Gx.unset 3 (Gx.L [.ref 155, .float 0, .int x2, .float 0, .int (x3 - (I 155 42)), .float 0] rfl ?_)))
    exact gj_X10_jump_22 cx hE hP h
def w_X10_jumps (x1 : Int32) (x2 : Int32) (I : zI) (P : zP) (K : Int32 → zI → zP → Prop) : Prop := vp_in ((400 * x1) + x2) 2400 ∧ (if (I 160 ((((400 * x1) + x2)).toNatClampNeg)) = 33 then (vp_in (((400 * x1) + x2) + 1) 2400 ∧ (K ((I 160 (((((400 * x1) + x2) + 1)).toNatClampNeg)) + 1) I P)) else (w_X10_isJump (I 160 ((((400 * x1) + x2)).toNatClampNeg)) I P (fun (v3 : Int32) (I3 : zI) (P3 : zP) => (if v3 = 0 then (K 0 I3 P3) else (K 1 I3 P3)))))
theorem e_X10_jumps {x1 : Int32} {x2 : Int32} {I : zI} {P : zP} {K : Int32 → zI → zP → Prop} (hP : PSt P) (h : w_X10_jumps x1 x2 I P K) : Ev yX10_jumps cX10_jumps 4 (some .int) 2 42 0 0 [.ref 155, .int x1, .int x2] SHy I P (zKi K) := by
  refine Ev.start [.ref 155, .int x1, .int x2, .float 0] pn_X10 rfl (Nat.le_of_ble_eq_true rfl) rfl (fun κ cx hE => ?_)
  unfold w_X10_jumps at h
  refine g_aload_n cx dX10_jumps_0 rfl ?_
  refine g_getR cx lk_X10_26 rfl (Nat.le_of_ble_eq_true rfl) rfl dX10_jumps_1 (v := 160) (pst hP 159 rfl) ?_
  refine g_sipush cx dX10_jumps_4 sp_400 ?_
  refine g_iload_n cx dX10_jumps_7 rfl ?_
  refine g_imul cx dX10_jumps_8 ?_
  refine g_iload_n cx dX10_jumps_9 rfl ?_
  refine g_iadd cx dX10_jumps_10 ?_
  obtain ⟨hc1, h⟩ := h
  refine g_iald cx dX10_jumps_11 rfl hc1 (x := (I 160 ((((400 * x1) + x2)).toNatClampNeg))) rfl ?_
  refine g_istore_n cx dX10_jumps_12 (Nat.le_of_ble_eq_true rfl) (Gx.L [.ref 155, .int x1, .int x2, .int (I 160 ((((400 * x1) + x2)).toNatClampNeg))] rfl ?_)
  refine g_iload_n cx dX10_jumps_13 rfl ?_
  refine g_bipush cx dX10_jumps_14 bp_33 ?_
  refine g_icmp_ne cx (tgt := 38) dX10_jumps_16 rfl (fun c2 => ?_) (fun c2 => ?_)
  · have h := zifn c2 h
    refine g_iload_n cx dX10_jumps_38 rfl ?_
    refine g_wSi cx [.int (I 160 ((((400 * x1) + x2)).toNatClampNeg))] [] (e_X10_isJump hP h) mt_X10_isJump ml_X10_233 dX10_jumps_39 rfl rfl (Nat.le_of_ble_eq_true rfl) (Nat.le_of_ble_eq_true rfl) (Nat.le_of_ble_eq_true rfl) (fun v3 I3 P3 hP h => ?_)
    refine g_if_eq cx (tgt := 49) dX10_jumps_42 rfl (fun c4 => ?_) (fun c4 => ?_)
    · have h := zifp c4 h
      refine g_iconst cx dX10_jumps_49 ic_0 ?_
      exact g_wi cx hE dX10_jumps_50 rfl rfl hP h
    · have h := zifn c4 h
      refine g_iconst cx dX10_jumps_45 ic_1 ?_
      refine g_goto cx (tgt := 50) dX10_jumps_46 rfl ?_
      exact g_wi cx hE dX10_jumps_50 rfl rfl hP h
  · have h := zifp c2 h
    refine g_aload_n cx dX10_jumps_19 rfl ?_
    refine g_getR cx lk_X10_26 rfl (Nat.le_of_ble_eq_true rfl) rfl dX10_jumps_20 (v := 160) (pst hP 159 rfl) ?_
    refine g_sipush cx dX10_jumps_23 sp_400 ?_
    refine g_iload_n cx dX10_jumps_26 rfl ?_
    refine g_imul cx dX10_jumps_27 ?_
    refine g_iload_n cx dX10_jumps_28 rfl ?_
    refine g_iadd cx dX10_jumps_29 ?_
    refine g_iconst cx dX10_jumps_30 ic_1 ?_
    refine g_iadd cx dX10_jumps_31 ?_
    obtain ⟨hc5, h⟩ := h
    refine g_iald cx dX10_jumps_32 rfl hc5 (x := (I 160 (((((400 * x1) + x2) + 1)).toNatClampNeg))) rfl ?_
    refine g_iconst cx dX10_jumps_33 ic_1 ?_
    refine g_iadd cx dX10_jumps_34 ?_
    refine g_goto cx (tgt := 50) dX10_jumps_35 rfl ?_
    exact g_wi cx hE dX10_jumps_50 rfl rfl hP h
def w_X10_leads (x1 : Int32) (x2 : Int32) (x3 : Int32) (I : zI) (P : zP) (K : Int32 → zI → zP → Prop) : Prop := vp_in ((400 * x1) + x2) 2400 ∧ (if (I 160 ((((400 * x1) + x2)).toNatClampNeg)) = 33 then (vp_in ((((400 * x1) + x2) + 2) + (2 * x3)) 2400 ∧ (vp_in ((((400 * x1) + x2) + 3) + (2 * x3)) 2400 ∧ (w_X10_s16 (I 160 ((((((400 * x1) + x2) + 2) + (2 * x3))).toNatClampNeg)) (I 160 ((((((400 * x1) + x2) + 3) + (2 * x3))).toNatClampNeg)) I P (fun (v11 : Int32) (I11 : zI) (P11 : zP) => (K (x2 + v11) I11 P11))))) else (if 33 ≤ (I 160 ((((400 * x1) + x2)).toNatClampNeg)) then (vp_in (((400 * x1) + x2) + 1) 2400 ∧ (vp_in (((400 * x1) + x2) + 2) 2400 ∧ (w_X10_s16 (I 160 (((((400 * x1) + x2) + 1)).toNatClampNeg)) (I 160 (((((400 * x1) + x2) + 2)).toNatClampNeg)) I P (fun (v6 : Int32) (I6 : zI) (P6 : zP) => (K (x2 + v6) I6 P6))))) else (vp_in (((400 * x1) + x2) + 1) 2400 ∧ (w_X10_s8 (I 160 (((((400 * x1) + x2) + 1)).toNatClampNeg)) I P (fun (v8 : Int32) (I8 : zI) (P8 : zP) => (K (x2 + v8) I8 P8))))))
theorem e_X10_leads {x1 : Int32} {x2 : Int32} {x3 : Int32} {I : zI} {P : zP} {K : Int32 → zI → zP → Prop} (hP : PSt P) (h : w_X10_leads x1 x2 x3 I P K) : Ev yX10_leads cX10_leads 6 (some .int) 1 22 0 0 [.ref 155, .int x1, .int x2, .int x3] SHy I P (zKi K) := by
  refine Ev.start [.ref 155, .int x1, .int x2, .int x3, .float 0, .float 0] pn_X10 rfl (Nat.le_of_ble_eq_true rfl) rfl (fun κ cx hE => ?_)
  unfold w_X10_leads at h
  refine g_sipush cx dX10_leads_0 sp_400 ?_
  refine g_iload_n cx dX10_leads_3 rfl ?_
  refine g_imul cx dX10_leads_4 ?_
  refine g_iload_n cx dX10_leads_5 rfl ?_
  refine g_iadd cx dX10_leads_6 ?_
  refine g_istore cx dX10_leads_7 (Nat.le_of_ble_eq_true rfl) (Gx.L [.ref 155, .int x1, .int x2, .int x3, .int ((400 * x1) + x2), .float 0] rfl ?_)
  refine g_aload_n cx dX10_leads_9 rfl ?_
  refine g_getR cx lk_X10_26 rfl (Nat.le_of_ble_eq_true rfl) rfl dX10_leads_10 (v := 160) (pst hP 159 rfl) ?_
  refine g_iload cx dX10_leads_13 rfl ?_
  obtain ⟨hc1, h⟩ := h
  refine g_iald cx dX10_leads_15 rfl hc1 (x := (I 160 ((((400 * x1) + x2)).toNatClampNeg))) rfl ?_
  refine g_istore cx dX10_leads_16 (Nat.le_of_ble_eq_true rfl) (Gx.L [.ref 155, .int x1, .int x2, .int x3, .int ((400 * x1) + x2), .int (I 160 ((((400 * x1) + x2)).toNatClampNeg))] rfl ?_)
  refine g_iload cx dX10_leads_18 rfl ?_
  refine g_bipush cx dX10_leads_20 bp_33 ?_
  refine g_icmp_ne cx (tgt := 57) dX10_leads_22 rfl (fun c2 => ?_) (fun c2 => ?_)
  · have h := zifn c2 h
    refine g_iload_n cx dX10_leads_57 rfl ?_
    refine g_iload cx dX10_leads_58 rfl ?_
    refine g_bipush cx dX10_leads_60 bp_33 ?_
    refine g_icmp_ge cx (tgt := 80) dX10_leads_62 rfl (fun c3 => ?_) (fun c3 => ?_)
    · have h := zifp c3 h
      refine g_aload_n cx dX10_leads_80 rfl ?_
      refine g_getR cx lk_X10_26 rfl (Nat.le_of_ble_eq_true rfl) rfl dX10_leads_81 (v := 160) (pst hP 159 rfl) ?_
      refine g_iload cx dX10_leads_84 rfl ?_
      refine g_iconst cx dX10_leads_86 ic_1 ?_
      refine g_iadd cx dX10_leads_87 ?_
      obtain ⟨hc4, h⟩ := h
      refine g_iald cx dX10_leads_88 rfl hc4 (x := (I 160 (((((400 * x1) + x2) + 1)).toNatClampNeg))) rfl ?_
      refine g_aload_n cx dX10_leads_89 rfl ?_
      refine g_getR cx lk_X10_26 rfl (Nat.le_of_ble_eq_true rfl) rfl dX10_leads_90 (v := 160) (pst hP 159 rfl) ?_
      refine g_iload cx dX10_leads_93 rfl ?_
      refine g_iconst cx dX10_leads_95 ic_2 ?_
      refine g_iadd cx dX10_leads_96 ?_
      obtain ⟨hc5, h⟩ := h
      refine g_iald cx dX10_leads_97 rfl hc5 (x := (I 160 (((((400 * x1) + x2) + 2)).toNatClampNeg))) rfl ?_
      refine g_wSi cx [.int (I 160 (((((400 * x1) + x2) + 1)).toNatClampNeg)), .int (I 160 (((((400 * x1) + x2) + 2)).toNatClampNeg))] [.int x2] (e_X10_s16 hP h) mt_X10_s16 ml_X10_226 dX10_leads_98 rfl rfl (Nat.le_of_ble_eq_true rfl) (Nat.le_of_ble_eq_true rfl) (Nat.le_of_ble_eq_true rfl) (fun v6 I6 P6 hP h => ?_)
      refine g_iadd cx dX10_leads_101 ?_
      exact g_wi cx hE dX10_leads_102 rfl rfl hP h
    · have h := zifn c3 h
      refine g_aload_n cx dX10_leads_65 rfl ?_
      refine g_getR cx lk_X10_26 rfl (Nat.le_of_ble_eq_true rfl) rfl dX10_leads_66 (v := 160) (pst hP 159 rfl) ?_
      refine g_iload cx dX10_leads_69 rfl ?_
      refine g_iconst cx dX10_leads_71 ic_1 ?_
      refine g_iadd cx dX10_leads_72 ?_
      obtain ⟨hc7, h⟩ := h
      refine g_iald cx dX10_leads_73 rfl hc7 (x := (I 160 (((((400 * x1) + x2) + 1)).toNatClampNeg))) rfl ?_
      refine g_wSi cx [.int (I 160 (((((400 * x1) + x2) + 1)).toNatClampNeg))] [.int x2] (e_X10_s8 hP h) mt_X10_s8 ml_X10_229 dX10_leads_74 rfl rfl (Nat.le_of_ble_eq_true rfl) (Nat.le_of_ble_eq_true rfl) (Nat.le_of_ble_eq_true rfl) (fun v8 I8 P8 hP h => ?_)
      refine g_goto cx (tgt := 101) dX10_leads_77 rfl ?_
      refine g_iadd cx dX10_leads_101 ?_
      exact g_wi cx hE dX10_leads_102 rfl rfl hP h
  · have h := zifp c2 h
    refine g_iload_n cx dX10_leads_25 rfl ?_
    refine g_aload_n cx dX10_leads_26 rfl ?_
    refine g_getR cx lk_X10_26 rfl (Nat.le_of_ble_eq_true rfl) rfl dX10_leads_27 (v := 160) (pst hP 159 rfl) ?_
    refine g_iload cx dX10_leads_30 rfl ?_
    refine g_iconst cx dX10_leads_32 ic_2 ?_
    refine g_iadd cx dX10_leads_33 ?_
    refine g_iconst cx dX10_leads_34 ic_2 ?_
    refine g_iload_n cx dX10_leads_35 rfl ?_
    refine g_imul cx dX10_leads_36 ?_
    refine g_iadd cx dX10_leads_37 ?_
    obtain ⟨hc9, h⟩ := h
    refine g_iald cx dX10_leads_38 rfl hc9 (x := (I 160 ((((((400 * x1) + x2) + 2) + (2 * x3))).toNatClampNeg))) rfl ?_
    refine g_aload_n cx dX10_leads_39 rfl ?_
    refine g_getR cx lk_X10_26 rfl (Nat.le_of_ble_eq_true rfl) rfl dX10_leads_40 (v := 160) (pst hP 159 rfl) ?_
    refine g_iload cx dX10_leads_43 rfl ?_
    refine g_iconst cx dX10_leads_45 ic_3 ?_
    refine g_iadd cx dX10_leads_46 ?_
    refine g_iconst cx dX10_leads_47 ic_2 ?_
    refine g_iload_n cx dX10_leads_48 rfl ?_
    refine g_imul cx dX10_leads_49 ?_
    refine g_iadd cx dX10_leads_50 ?_
    obtain ⟨hc10, h⟩ := h
    refine g_iald cx dX10_leads_51 rfl hc10 (x := (I 160 ((((((400 * x1) + x2) + 3) + (2 * x3))).toNatClampNeg))) rfl ?_
    refine g_wSi cx [.int (I 160 ((((((400 * x1) + x2) + 2) + (2 * x3))).toNatClampNeg)), .int (I 160 ((((((400 * x1) + x2) + 3) + (2 * x3))).toNatClampNeg))] [.int x2] (e_X10_s16 hP h) mt_X10_s16 ml_X10_226 dX10_leads_52 rfl rfl (Nat.le_of_ble_eq_true rfl) (Nat.le_of_ble_eq_true rfl) (Nat.le_of_ble_eq_true rfl) (fun v11 I11 P11 hP h => ?_)
    refine g_iadd cx dX10_leads_55 ?_
    exact g_wi cx hE dX10_leads_56 rfl rfl hP h
def j_X10_padOf_48 (X5 : Int32 → Int32 → Int32 → Int32 → zI → zP → Prop) (K : Int32 → zI → zP → Prop) (y1 : Int32) (y2 : Int32) (y3 : Int32) (y4 : Int32) (I : zI) (P : zP) : Prop := X5 y1 y2 y3 (y4 + 1) I P
theorem gj_X10_padOf_48 {κ : zX} (cx : Cx yX10_padOf cX10_padOf 5 (some .int) 2 51 κ) {K : Int32 → zI → zP → Prop} (hE : zEnd (zKi K) 0 0 κ) {X5 : Int32 → Int32 → Int32 → Int32 → zI → zP → Prop} (hX5 : ∀ (y1 : Int32) (y2 : Int32) (y3 : Int32) (y4 : Int32) (I : zI) (P : zP), PSt P → X5 y1 y2 y3 y4 I P → Gx κ 5 [.ref 155, .int y1, .int y2, .int y3, .int y4] [] SHy I P 0 0) {y1 : Int32} {y2 : Int32} {y3 : Int32} {y4 : Int32} {I : zI} {P : zP} (hP : PSt P) (h : j_X10_padOf_48 X5 K y1 y2 y3 y4 I P) : Gx κ 48 [.ref 155, .int y1, .int y2, .int y3, .int y4] [] SHy I P 0 0 := by
  unfold j_X10_padOf_48 at h
  refine g_iload_n cx dX10_padOf_48 rfl ?_
  refine g_istore_n cx dX10_padOf_49 (Nat.le_of_ble_eq_true rfl) (Gx.L [.ref 155, .int y1, .int y2, .int y3, .int y4] rfl ?_)
  refine g_iinc cx (v := (y4 + 1)) dX10_padOf_50 rfl rfl (Nat.le_of_ble_eq_true rfl) (Gx.L [.ref 155, .int y1, .int y2, .int y3, .int (y4 + 1)] rfl ?_)
  refine g_goto cx (tgt := 5) dX10_padOf_53 rfl ?_
  exact hX5 _ _ _ _ _ _ hP h
def l_X10_padOf_5 (K : Int32 → zI → zP → Prop) : Nat → Int32 → Int32 → Int32 → Int32 → zI → zP → Prop
  | 0, _, _, _, _, _, _ => False
  | n + 1, y1, y2, y3, y4, I, P => if y2 ≤ y4 then (K y3 I P) else (vp_in ((400 * y1) + y4) 2400 ∧ (if (I 166 ((((400 * y1) + y4)).toNatClampNeg)) = 0 then (j_X10_padOf_48 (l_X10_padOf_5 K n) K y1 y2 y3 y4 I P) else (w_X10_howMany 1 y1 y4 (I 155 17) I P (fun (v4 : Int32) (I4 : zI) (P4 : zP) => (if v4 ≤ 0 then (j_X10_padOf_48 (l_X10_padOf_5 K n) K y1 y2 y3 y4 I4 P4) else ((l_X10_padOf_5 K n) y1 y2 (y3 + 1) (y4 + 1) I4 P4))))))
theorem gl_X10_padOf_5 {κ : zX} (cx : Cx yX10_padOf cX10_padOf 5 (some .int) 2 51 κ) {K : Int32 → zI → zP → Prop} (hE : zEnd (zKi K) 0 0 κ) : ∀ (n : Nat) (y1 : Int32) (y2 : Int32) (y3 : Int32) (y4 : Int32) (I : zI) (P : zP), PSt P → l_X10_padOf_5 K n y1 y2 y3 y4 I P → Gx κ 5 [.ref 155, .int y1, .int y2, .int y3, .int y4] [] SHy I P 0 0 := by
  intro n
  induction n with
  | zero =>
    intro y1 y2 y3 y4 I P hP h
    rw [l_X10_padOf_5] at h
    exact False.elim h
  | succ n ih =>
    intro y1 y2 y3 y4 I P hP h
    rw [l_X10_padOf_5] at h
    refine g_iload cx dX10_padOf_5 rfl ?_
    refine g_iload_n cx dX10_padOf_7 rfl ?_
    refine g_icmp_ge cx (tgt := 56) dX10_padOf_8 rfl (fun c1 => ?_) (fun c1 => ?_)
    · have h := zifp c1 h
      refine g_iload_n cx dX10_padOf_56 rfl ?_
      exact g_wi cx hE dX10_padOf_57 rfl rfl hP h
    · have h := zifn c1 h
      refine g_aload_n cx dX10_padOf_11 rfl ?_
      refine g_getR cx lk_X10_44 rfl (Nat.le_of_ble_eq_true rfl) rfl dX10_padOf_12 (v := 166) (pst hP 165 rfl) ?_
      refine g_sipush cx dX10_padOf_15 sp_400 ?_
      refine g_iload_n cx dX10_padOf_18 rfl ?_
      refine g_imul cx dX10_padOf_19 ?_
      refine g_iload cx dX10_padOf_20 rfl ?_
      refine g_iadd cx dX10_padOf_22 ?_
      obtain ⟨hc2, h⟩ := h
      refine g_bald cx dX10_padOf_23 rfl hc2 (x := (I 166 ((((400 * y1) + y4)).toNatClampNeg))) rfl ?_
      refine g_if_eq cx (tgt := 48) dX10_padOf_24 rfl (fun c3 => ?_) (fun c3 => ?_)
      · have h := zifp c3 h
        exact gj_X10_padOf_48 cx hE ih hP h
      · have h := zifn c3 h
        refine g_aload_n cx dX10_padOf_27 rfl ?_
        refine g_iconst cx dX10_padOf_28 ic_1 ?_
        refine g_iload_n cx dX10_padOf_29 rfl ?_
        refine g_iload cx dX10_padOf_30 rfl ?_
        refine g_aload_n cx dX10_padOf_32 rfl ?_
        refine g_getI cx lk_X10_335 rfl (Nat.le_of_ble_eq_true rfl) rfl dX10_padOf_33 (x := (I 155 17)) rfl ?_
        refine g_wVi cx [.int 1, .int y1, .int y4, .int (I 155 17)] [] (e_X10_howMany hP h) mt_X10_howMany ml_X10_365 rfl rfl rfl dX10_padOf_36 rfl rfl (Nat.le_of_ble_eq_true rfl) (Nat.le_of_ble_eq_true rfl) (Nat.le_of_ble_eq_true rfl) (fun v4 I4 P4 hP h => ?_)
        refine g_if_le cx (tgt := 48) dX10_padOf_39 rfl (fun c5 => ?_) (fun c5 => ?_)
        · have h := zifp c5 h
          exact gj_X10_padOf_48 cx hE ih hP h
        · have h := zifn c5 h
          refine g_iload_n cx dX10_padOf_42 rfl ?_
          refine g_iconst cx dX10_padOf_43 ic_1 ?_
          refine g_iadd cx dX10_padOf_44 ?_
          refine g_goto cx (tgt := 49) dX10_padOf_45 rfl ?_
          refine g_istore_n cx dX10_padOf_49 (Nat.le_of_ble_eq_true rfl) (Gx.L [.ref 155, .int y1, .int y2, .int (y3 + 1), .int y4] rfl ?_)
          refine g_iinc cx (v := (y4 + 1)) dX10_padOf_50 rfl rfl (Nat.le_of_ble_eq_true rfl) (Gx.L [.ref 155, .int y1, .int y2, .int (y3 + 1), .int (y4 + 1)] rfl ?_)
          refine g_goto cx (tgt := 5) dX10_padOf_53 rfl ?_
          exact ih _ _ _ _ _ _ hP h
def w_X10_padOf (x1 : Int32) (x2 : Int32) (I : zI) (P : zP) (K : Int32 → zI → zP → Prop) : Prop := ∃ n9, l_X10_padOf_5 K n9 x1 x2 0 0 I P
theorem e_X10_padOf {x1 : Int32} {x2 : Int32} {I : zI} {P : zP} {K : Int32 → zI → zP → Prop} (hP : PSt P) (h : w_X10_padOf x1 x2 I P K) : Ev yX10_padOf cX10_padOf 5 (some .int) 2 51 0 0 [.ref 155, .int x1, .int x2] SHy I P (zKi K) := by
  refine Ev.start [.ref 155, .int x1, .int x2, .float 0, .float 0] pn_X10 rfl (Nat.le_of_ble_eq_true rfl) rfl (fun κ cx hE => ?_)
  unfold w_X10_padOf at h
  refine g_iconst cx dX10_padOf_0 ic_0 ?_
  refine g_istore_n cx dX10_padOf_1 (Nat.le_of_ble_eq_true rfl) (Gx.L [.ref 155, .int x1, .int x2, .int 0, .float 0] rfl ?_)
  refine g_iconst cx dX10_padOf_2 ic_0 ?_
  refine g_istore cx dX10_padOf_3 (Nat.le_of_ble_eq_true rfl) (Gx.L [.ref 155, .int x1, .int x2, .int 0, .int 0] rfl ?_)
  obtain ⟨n9, h⟩ := h
  exact gl_X10_padOf_5 cx hE n9 _ _ _ _ _ _ hP h
def j_X10_itself_209 (K : zI → zP → Prop) (y2 : Int32) (y4 : Int32) (I : zI) (P : zP) : Prop := if 4000 ≤ y4 then (K I P) else (vp_in y4 4000 ∧ (K (zu I 190 ((y4).toNatClampNeg) y2) P))
theorem gj_X10_itself_209 {κ : zX} (cx : Cx yX10_itself cX10_itself 7 none 3 75 κ) {K : zI → zP → Prop} (hE : zEnd (zKv K) 0 0 κ) {y2 : Int32} {y4 : Int32} {I : zI} {P : zP} (hP : PSt P) (h : j_X10_itself_209 K y2 y4 I P) : Gx κ 209 [.ref 155, .float 0, .int y2, .float 0, .int y4, .float 0, .float 0] [] SHy I P 0 0 := by
  unfold j_X10_itself_209 at h
  refine g_iload cx dX10_itself_209 rfl ?_
  refine g_sipush cx dX10_itself_211 sp_4000 ?_
  refine g_icmp_ge cx (tgt := 225) dX10_itself_214 rfl (fun c1 => ?_) (fun c1 => ?_)
  · have h := zifp c1 h
    exact g_wv cx hE dX10_itself_225 rfl hP h
  · have h := zifn c1 h
    refine g_aload_n cx dX10_itself_217 rfl ?_
    refine g_getR cx lk_X10_117 rfl (Nat.le_of_ble_eq_true rfl) rfl dX10_itself_218 (v := 190) (pst hP 189 rfl) ?_
    refine g_iload cx dX10_itself_221 rfl ?_
    refine g_iload_n cx dX10_itself_223 rfl ?_
    obtain ⟨hc2, h⟩ := h
    refine g_iast cx dX10_itself_224 rfl hc2 ?_
    exact g_wv cx hE dX10_itself_225 rfl hP h
def l_X10_itself_173 (K : zI → zP → Prop) : Nat → Int32 → Int32 → Int32 → Int32 → zI → zP → Prop
  | 0, _, _, _, _, _, _ => False
  | n + 1, y1, y2, y4, y5, I, P => w_X10_size y1 y2 I P (fun (v1 : Int32) (I1 : zI) (P1 : zP) => (if v1 ≤ y5 then (j_X10_itself_209 K y2 y4 I1 P1) else (vp_in (((400 * y1) + y2) + y5) 2400 ∧ (w_X10_put (I1 160 (((((400 * y1) + y2) + y5)).toNatClampNeg)) I1 P1 (fun (I4 : zI) (P4 : zP) => ((l_X10_itself_173 K n) y1 y2 y4 (y5 + 1) I4 P4))))))
theorem gl_X10_itself_173 {κ : zX} (cx : Cx yX10_itself cX10_itself 7 none 3 75 κ) {K : zI → zP → Prop} (hE : zEnd (zKv K) 0 0 κ) : ∀ (n : Nat) (y1 : Int32) (y2 : Int32) (y4 : Int32) (y5 : Int32) (I : zI) (P : zP), PSt P → l_X10_itself_173 K n y1 y2 y4 y5 I P → Gx κ 173 [.ref 155, .int y1, .int y2, .float 0, .int y4, .int y5, .float 0] [] SHy I P 0 0 := by
  intro n
  induction n with
  | zero =>
    intro y1 y2 y4 y5 I P hP h
    rw [l_X10_itself_173] at h
    exact False.elim h
  | succ n ih =>
    intro y1 y2 y4 y5 I P hP h
    rw [l_X10_itself_173] at h
    refine g_iload cx dX10_itself_173 rfl ?_
    refine g_aload_n cx dX10_itself_175 rfl ?_
    refine g_iload_n cx dX10_itself_176 rfl ?_
    refine g_iload_n cx dX10_itself_177 rfl ?_
    refine g_wVi cx [.int y1, .int y2] [.int y5] (e_X10_size hP h) mt_X10_size ml_X10_259 rfl rfl rfl dX10_itself_178 rfl rfl (Nat.le_of_ble_eq_true rfl) (Nat.le_of_ble_eq_true rfl) (Nat.le_of_ble_eq_true rfl) (fun v1 I1 P1 hP h => ?_)
    refine g_icmp_ge cx (tgt := 209) dX10_itself_181 rfl (fun c2 => ?_) (fun c2 => ?_)
    · have h := zifp c2 h
      refine (Gx.unset 1 (Gx.unset 5 (Gx.L [.ref 155, .float 0, .int y2, .float 0, .int y4, .float 0, .float 0] rfl ?_)))
      exact gj_X10_itself_209 cx hE hP h
    · have h := zifn c2 h
      refine g_aload_n cx dX10_itself_184 rfl ?_
      refine g_aload_n cx dX10_itself_185 rfl ?_
      refine g_getR cx lk_X10_26 rfl (Nat.le_of_ble_eq_true rfl) rfl dX10_itself_186 (v := 160) (pst hP 159 rfl) ?_
      refine g_sipush cx dX10_itself_189 sp_400 ?_
      refine g_iload_n cx dX10_itself_192 rfl ?_
      refine g_imul cx dX10_itself_193 ?_
      refine g_iload_n cx dX10_itself_194 rfl ?_
      refine g_iadd cx dX10_itself_195 ?_
      refine g_iload cx dX10_itself_196 rfl ?_
      refine g_iadd cx dX10_itself_198 ?_
      obtain ⟨hc3, h⟩ := h
      refine g_iald cx dX10_itself_199 rfl hc3 (x := (I1 160 (((((400 * y1) + y2) + y5)).toNatClampNeg))) rfl ?_
      refine g_wVv cx [.int (I1 160 (((((400 * y1) + y2) + y5)).toNatClampNeg))] [] (e_X10_put hP h) mt_X10_put ml_X10_344 rfl rfl rfl dX10_itself_200 rfl rfl (Nat.le_of_ble_eq_true rfl) (Nat.le_of_ble_eq_true rfl) (Nat.le_of_ble_eq_true rfl) (fun I4 P4 hP h => ?_)
      refine g_iinc cx (v := (y5 + 1)) dX10_itself_203 rfl rfl (Nat.le_of_ble_eq_true rfl) (Gx.L [.ref 155, .int y1, .int y2, .float 0, .int y4, .int (y5 + 1), .float 0] rfl ?_)
      refine g_goto cx (tgt := 173) dX10_itself_206 rfl ?_
      exact ih _ _ _ _ _ _ hP h
def l_X10_itself_117 (K : zI → zP → Prop) : Nat → Int32 → Int32 → Int32 → Int32 → zI → zP → Prop
  | 0, _, _, _, _, _, _ => False
  | n + 1, y1, y2, y4, y5, I, P => w_X10_jumps y1 y2 I P (fun (v1 : Int32) (I1 : zI) (P1 : zP) => (if v1 ≤ y5 then (j_X10_itself_209 K y2 y4 I1 P1) else (w_X10_leads y1 y2 y5 I1 P1 (fun (v3 : Int32) (I3 : zI) (P3 : zP) => (vp_in v3 401 ∧ (w_X10_put ((((I3 191 ((v3).toNatClampNeg)) - y4) : Int32) >>> ((8 : Int32) &&& 31)) I3 P3 (fun (I5 : zI) (P5 : zP) => (w_X10_put ((I3 191 ((v3).toNatClampNeg)) - y4) I5 P5 (fun (I6 : zI) (P6 : zP) => ((l_X10_itself_117 K n) y1 y2 y4 (y5 + 1) I6 P6))))))))))
theorem gl_X10_itself_117 {κ : zX} (cx : Cx yX10_itself cX10_itself 7 none 3 75 κ) {K : zI → zP → Prop} (hE : zEnd (zKv K) 0 0 κ) : ∀ (n : Nat) (y1 : Int32) (y2 : Int32) (y4 : Int32) (y5 : Int32) (I : zI) (P : zP), PSt P → l_X10_itself_117 K n y1 y2 y4 y5 I P → Gx κ 117 [.ref 155, .int y1, .int y2, .float 0, .int y4, .int y5, .float 0] [] SHy I P 0 0 := by
  intro n
  induction n with
  | zero =>
    intro y1 y2 y4 y5 I P hP h
    rw [l_X10_itself_117] at h
    exact False.elim h
  | succ n ih =>
    intro y1 y2 y4 y5 I P hP h
    rw [l_X10_itself_117] at h
    refine g_iload cx dX10_itself_117 rfl ?_
    refine g_aload_n cx dX10_itself_119 rfl ?_
    refine g_iload_n cx dX10_itself_120 rfl ?_
    refine g_iload_n cx dX10_itself_121 rfl ?_
    refine g_wVi cx [.int y1, .int y2] [.int y5] (e_X10_jumps hP h) mt_X10_jumps ml_X10_268 rfl rfl rfl dX10_itself_122 rfl rfl (Nat.le_of_ble_eq_true rfl) (Nat.le_of_ble_eq_true rfl) (Nat.le_of_ble_eq_true rfl) (fun v1 I1 P1 hP h => ?_)
    refine g_icmp_ge cx (tgt := 167) dX10_itself_125 rfl (fun c2 => ?_) (fun c2 => ?_)
    · have h := zifp c2 h
      refine g_goto cx (tgt := 209) dX10_itself_167 rfl ?_
      refine (Gx.unset 1 (Gx.unset 5 (Gx.L [.ref 155, .float 0, .int y2, .float 0, .int y4, .float 0, .float 0] rfl ?_)))
      exact gj_X10_itself_209 cx hE hP h
    · have h := zifn c2 h
      refine g_aload_n cx dX10_itself_128 rfl ?_
      refine g_getR cx lk_X10_120 rfl (Nat.le_of_ble_eq_true rfl) rfl dX10_itself_129 (v := 191) (pst hP 190 rfl) ?_
      refine g_aload_n cx dX10_itself_132 rfl ?_
      refine g_iload_n cx dX10_itself_133 rfl ?_
      refine g_iload_n cx dX10_itself_134 rfl ?_
      refine g_iload cx dX10_itself_135 rfl ?_
      refine g_wVi cx [.int y1, .int y2, .int y5] [.ref 191] (e_X10_leads hP h) mt_X10_leads ml_X10_271 rfl rfl rfl dX10_itself_137 rfl rfl (Nat.le_of_ble_eq_true rfl) (Nat.le_of_ble_eq_true rfl) (Nat.le_of_ble_eq_true rfl) (fun v3 I3 P3 hP h => ?_)
      obtain ⟨hc4, h⟩ := h
      refine g_iald cx dX10_itself_140 rfl hc4 (x := (I3 191 ((v3).toNatClampNeg))) rfl ?_
      refine g_iload cx dX10_itself_141 rfl ?_
      refine g_isub cx dX10_itself_143 ?_
      refine g_istore cx dX10_itself_144 (Nat.le_of_ble_eq_true rfl) (Gx.L [.ref 155, .int y1, .int y2, .float 0, .int y4, .int y5, .int ((I3 191 ((v3).toNatClampNeg)) - y4)] rfl ?_)
      refine g_aload_n cx dX10_itself_146 rfl ?_
      refine g_iload cx dX10_itself_147 rfl ?_
      refine g_bipush cx dX10_itself_149 bp_8 ?_
      refine g_ishr cx dX10_itself_151 ?_
      refine g_wVv cx [.int ((((I3 191 ((v3).toNatClampNeg)) - y4) : Int32) >>> ((8 : Int32) &&& 31))] [] (e_X10_put hP h) mt_X10_put ml_X10_344 rfl rfl rfl dX10_itself_152 rfl rfl (Nat.le_of_ble_eq_true rfl) (Nat.le_of_ble_eq_true rfl) (Nat.le_of_ble_eq_true rfl) (fun I5 P5 hP h => ?_)
      refine g_aload_n cx dX10_itself_155 rfl ?_
      refine g_iload cx dX10_itself_156 rfl ?_
      refine g_wVv cx [.int ((I3 191 ((v3).toNatClampNeg)) - y4)] [] (e_X10_put hP h) mt_X10_put ml_X10_344 rfl rfl rfl dX10_itself_158 rfl rfl (Nat.le_of_ble_eq_true rfl) (Nat.le_of_ble_eq_true rfl) (Nat.le_of_ble_eq_true rfl) (fun I6 P6 hP h => ?_)
      refine g_iinc cx (v := (y5 + 1)) dX10_itself_161 rfl rfl (Nat.le_of_ble_eq_true rfl) (Gx.L [.ref 155, .int y1, .int y2, .float 0, .int y4, .int (y5 + 1), .int ((I3 191 ((v3).toNatClampNeg)) - y4)] rfl ?_)
      refine g_goto cx (tgt := 117) dX10_itself_164 rfl ?_
      refine (Gx.unset 6 (Gx.L [.ref 155, .int y1, .int y2, .float 0, .int y4, .int (y5 + 1), .float 0] rfl ?_))
      exact ih _ _ _ _ _ _ hP h
def j_X10_itself_42 (K : zI → zP → Prop) (y1 : Int32) (y2 : Int32) (y3 : Int32) (y4 : Int32) (s0 : Int32) (I : zI) (P : zP) : Prop := if s0 = 0 then (w_X10_leads y1 y2 0 I P (fun (v2 : Int32) (I2 : zI) (P2 : zP) => (vp_in v2 401 ∧ (w_X10_jump y3 y2 (I2 191 ((v2).toNatClampNeg)) I2 P2 (fun (I4 : zI) (P4 : zP) => (j_X10_itself_209 K y2 y4 I4 P4)))))) else (w_X10_padOf y1 y2 I P (fun (v5 : Int32) (I5 : zI) (P5 : zP) => (vp_in v5 500 ∧ (w_X10_jump y3 y2 (I5 193 ((v5).toNatClampNeg)) I5 P5 (fun (I7 : zI) (P7 : zP) => (j_X10_itself_209 K y2 y4 I7 P7))))))
theorem gj_X10_itself_42 {κ : zX} (cx : Cx yX10_itself cX10_itself 7 none 3 75 κ) {K : zI → zP → Prop} (hE : zEnd (zKv K) 0 0 κ) {y1 : Int32} {y2 : Int32} {y3 : Int32} {y4 : Int32} {s0 : Int32} {I : zI} {P : zP} (hP : PSt P) (h : j_X10_itself_42 K y1 y2 y3 y4 s0 I P) : Gx κ 42 [.ref 155, .int y1, .int y2, .int y3, .int y4, .float 0, .float 0] [.int s0] SHy I P 0 0 := by
  unfold j_X10_itself_42 at h
  refine g_istore cx dX10_itself_42 (Nat.le_of_ble_eq_true rfl) (Gx.L [.ref 155, .int y1, .int y2, .int y3, .int y4, .int s0, .float 0] rfl ?_)
  refine g_aload_n cx dX10_itself_44 rfl ?_
  refine g_iload_n cx dX10_itself_45 rfl ?_
  refine g_iload_n cx dX10_itself_46 rfl ?_
  refine g_iload cx dX10_itself_47 rfl ?_
  refine g_if_eq cx (tgt := 66) dX10_itself_49 rfl (fun c1 => ?_) (fun c1 => ?_)
  · have h := zifp c1 h
    refine g_aload_n cx dX10_itself_66 rfl ?_
    refine g_getR cx lk_X10_120 rfl (Nat.le_of_ble_eq_true rfl) rfl dX10_itself_67 (v := 191) (pst hP 190 rfl) ?_
    refine g_aload_n cx dX10_itself_70 rfl ?_
    refine g_iload_n cx dX10_itself_71 rfl ?_
    refine g_iload_n cx dX10_itself_72 rfl ?_
    refine g_iconst cx dX10_itself_73 ic_0 ?_
    refine g_wVi cx [.int y1, .int y2, .int 0] [.ref 191, .int y2, .int y3, .ref 155] (e_X10_leads hP h) mt_X10_leads ml_X10_271 rfl rfl rfl dX10_itself_74 rfl rfl (Nat.le_of_ble_eq_true rfl) (Nat.le_of_ble_eq_true rfl) (Nat.le_of_ble_eq_true rfl) (fun v2 I2 P2 hP h => ?_)
    obtain ⟨hc3, h⟩ := h
    refine g_iald cx dX10_itself_77 rfl hc3 (x := (I2 191 ((v2).toNatClampNeg))) rfl ?_
    refine g_wVv cx [.int y3, .int y2, .int (I2 191 ((v2).toNatClampNeg))] [] (e_X10_jump hP h) mt_X10_jump ml_X10_382 rfl rfl rfl dX10_itself_78 rfl rfl (Nat.le_of_ble_eq_true rfl) (Nat.le_of_ble_eq_true rfl) (Nat.le_of_ble_eq_true rfl) (fun I4 P4 hP h => ?_)
    refine g_goto cx (tgt := 209) dX10_itself_81 rfl ?_
    refine (Gx.unset 1 (Gx.unset 3 (Gx.unset 5 (Gx.L [.ref 155, .float 0, .int y2, .float 0, .int y4, .float 0, .float 0] rfl ?_))))
    exact gj_X10_itself_209 cx hE hP h
  · have h := zifn c1 h
    refine g_aload_n cx dX10_itself_52 rfl ?_
    refine g_getR cx lk_X10_126 rfl (Nat.le_of_ble_eq_true rfl) rfl dX10_itself_53 (v := 193) (pst hP 192 rfl) ?_
    refine g_aload_n cx dX10_itself_56 rfl ?_
    refine g_iload_n cx dX10_itself_57 rfl ?_
    refine g_iload_n cx dX10_itself_58 rfl ?_
    refine g_wVi cx [.int y1, .int y2] [.ref 193, .int y2, .int y3, .ref 155] (e_X10_padOf hP h) mt_X10_padOf ml_X10_379 rfl rfl rfl dX10_itself_59 rfl rfl (Nat.le_of_ble_eq_true rfl) (Nat.le_of_ble_eq_true rfl) (Nat.le_of_ble_eq_true rfl) (fun v5 I5 P5 hP h => ?_)
    obtain ⟨hc6, h⟩ := h
    refine g_iald cx dX10_itself_62 rfl hc6 (x := (I5 193 ((v5).toNatClampNeg))) rfl ?_
    refine g_goto cx (tgt := 78) dX10_itself_63 rfl ?_
    refine g_wVv cx [.int y3, .int y2, .int (I5 193 ((v5).toNatClampNeg))] [] (e_X10_jump hP h) mt_X10_jump ml_X10_382 rfl rfl rfl dX10_itself_78 rfl rfl (Nat.le_of_ble_eq_true rfl) (Nat.le_of_ble_eq_true rfl) (Nat.le_of_ble_eq_true rfl) (fun I7 P7 hP h => ?_)
    refine g_goto cx (tgt := 209) dX10_itself_81 rfl ?_
    refine (Gx.unset 1 (Gx.unset 3 (Gx.unset 5 (Gx.L [.ref 155, .float 0, .int y2, .float 0, .int y4, .float 0, .float 0] rfl ?_))))
    exact gj_X10_itself_209 cx hE hP h
def w_X10_itself (x1 : Int32) (x2 : Int32) (x3 : Int32) (I : zI) (P : zP) (K : zI → zP → Prop) : Prop := vp_in x2 400 ∧ (w_X10_isJump x3 (zu I 192 ((x2).toNatClampNeg) (I 155 42)) P (fun (v2 : Int32) (I2 : zI) (P2 : zP) => (if v2 = 0 then (if x3 = 33 then (w_X10_put 33 I2 P2 (fun (I5 : zI) (P5 : zP) => (vp_in (((400 * x1) + x2) + 1) 2400 ∧ (w_X10_put (I5 160 (((((400 * x1) + x2) + 1)).toNatClampNeg)) I5 P5 (fun (I7 : zI) (P7 : zP) => (∃ n9, l_X10_itself_117 K n9 x1 x2 ((zu I 192 ((x2).toNatClampNeg) (I 155 42)) 155 42) 0 I7 P7)))))) else (∃ n9, l_X10_itself_173 K n9 x1 x2 ((zu I 192 ((x2).toNatClampNeg) (I 155 42)) 155 42) 0 I2 P2)) else (w_X10_howMany 1 x1 x2 (I2 155 17) I2 P2 (fun (v8 : Int32) (I8 : zI) (P8 : zP) => (if v8 ≤ 0 then (j_X10_itself_42 K x1 x2 x3 ((zu I 192 ((x2).toNatClampNeg) (I 155 42)) 155 42) 0 I8 P8) else (j_X10_itself_42 K x1 x2 x3 ((zu I 192 ((x2).toNatClampNeg) (I 155 42)) 155 42) 1 I8 P8)))))))
theorem e_X10_itself {x1 : Int32} {x2 : Int32} {x3 : Int32} {I : zI} {P : zP} {K : zI → zP → Prop} (hP : PSt P) (h : w_X10_itself x1 x2 x3 I P K) : Ev yX10_itself cX10_itself 7 none 3 75 0 0 [.ref 155, .int x1, .int x2, .int x3] SHy I P (zKv K) := by
  refine Ev.start [.ref 155, .int x1, .int x2, .int x3, .float 0, .float 0, .float 0] pn_X10 rfl (Nat.le_of_ble_eq_true rfl) rfl (fun κ cx hE => ?_)
  unfold w_X10_itself at h
  refine g_aload_n cx dX10_itself_0 rfl ?_
  refine g_getR cx lk_X10_123 rfl (Nat.le_of_ble_eq_true rfl) rfl dX10_itself_1 (v := 192) (pst hP 191 rfl) ?_
  refine g_iload_n cx dX10_itself_4 rfl ?_
  refine g_aload_n cx dX10_itself_5 rfl ?_
  refine g_getI cx lk_X10_341 rfl (Nat.le_of_ble_eq_true rfl) rfl dX10_itself_6 (x := (I 155 42)) rfl ?_
  obtain ⟨hc1, h⟩ := h
  refine g_iast cx dX10_itself_9 rfl hc1 ?_
  refine g_aload_n cx dX10_itself_10 rfl ?_
  refine g_getI cx lk_X10_341 rfl (Nat.le_of_ble_eq_true rfl) rfl dX10_itself_11 (x := ((zu I 192 ((x2).toNatClampNeg) (I 155 42)) 155 42)) rfl ?_
  refine g_istore cx dX10_itself_14 (Nat.le_of_ble_eq_true rfl) (Gx.L [.ref 155, .int x1, .int x2, .int x3, .int ((zu I 192 ((x2).toNatClampNeg) (I 155 42)) 155 42), .float 0, .float 0] rfl ?_)
  refine g_iload_n cx dX10_itself_16 rfl ?_
  refine g_wSi cx [.int x3] [] (e_X10_isJump hP h) mt_X10_isJump ml_X10_233 dX10_itself_17 rfl rfl (Nat.le_of_ble_eq_true rfl) (Nat.le_of_ble_eq_true rfl) (Nat.le_of_ble_eq_true rfl) (fun v2 I2 P2 hP h => ?_)
  refine g_if_eq cx (tgt := 84) dX10_itself_20 rfl (fun c3 => ?_) (fun c3 => ?_)
  · have h := zifp c3 h
    refine g_iload_n cx dX10_itself_84 rfl ?_
    refine g_bipush cx dX10_itself_85 bp_33 ?_
    refine g_icmp_ne cx (tgt := 170) dX10_itself_87 rfl (fun c4 => ?_) (fun c4 => ?_)
    · have h := zifn c4 h
      refine g_iconst cx dX10_itself_170 ic_0 ?_
      refine g_istore cx dX10_itself_171 (Nat.le_of_ble_eq_true rfl) (Gx.L [.ref 155, .int x1, .int x2, .int x3, .int ((zu I 192 ((x2).toNatClampNeg) (I 155 42)) 155 42), .int 0, .float 0] rfl ?_)
      refine (Gx.unset 3 (Gx.L [.ref 155, .int x1, .int x2, .float 0, .int ((zu I 192 ((x2).toNatClampNeg) (I 155 42)) 155 42), .int 0, .float 0] rfl ?_))
      obtain ⟨n9, h⟩ := h
      exact gl_X10_itself_173 cx hE n9 _ _ _ _ _ _ hP h
    · have h := zifp c4 h
      refine g_aload_n cx dX10_itself_90 rfl ?_
      refine g_bipush cx dX10_itself_91 bp_33 ?_
      refine g_wVv cx [.int 33] [] (e_X10_put hP h) mt_X10_put ml_X10_344 rfl rfl rfl dX10_itself_93 rfl rfl (Nat.le_of_ble_eq_true rfl) (Nat.le_of_ble_eq_true rfl) (Nat.le_of_ble_eq_true rfl) (fun I5 P5 hP h => ?_)
      refine g_aload_n cx dX10_itself_96 rfl ?_
      refine g_aload_n cx dX10_itself_97 rfl ?_
      refine g_getR cx lk_X10_26 rfl (Nat.le_of_ble_eq_true rfl) rfl dX10_itself_98 (v := 160) (pst hP 159 rfl) ?_
      refine g_sipush cx dX10_itself_101 sp_400 ?_
      refine g_iload_n cx dX10_itself_104 rfl ?_
      refine g_imul cx dX10_itself_105 ?_
      refine g_iload_n cx dX10_itself_106 rfl ?_
      refine g_iadd cx dX10_itself_107 ?_
      refine g_iconst cx dX10_itself_108 ic_1 ?_
      refine g_iadd cx dX10_itself_109 ?_
      obtain ⟨hc6, h⟩ := h
      refine g_iald cx dX10_itself_110 rfl hc6 (x := (I5 160 (((((400 * x1) + x2) + 1)).toNatClampNeg))) rfl ?_
      refine g_wVv cx [.int (I5 160 (((((400 * x1) + x2) + 1)).toNatClampNeg))] [] (e_X10_put hP h) mt_X10_put ml_X10_344 rfl rfl rfl dX10_itself_111 rfl rfl (Nat.le_of_ble_eq_true rfl) (Nat.le_of_ble_eq_true rfl) (Nat.le_of_ble_eq_true rfl) (fun I7 P7 hP h => ?_)
      refine g_iconst cx dX10_itself_114 ic_0 ?_
      refine g_istore cx dX10_itself_115 (Nat.le_of_ble_eq_true rfl) (Gx.L [.ref 155, .int x1, .int x2, .int x3, .int ((zu I 192 ((x2).toNatClampNeg) (I 155 42)) 155 42), .int 0, .float 0] rfl ?_)
      refine (Gx.unset 3 (Gx.L [.ref 155, .int x1, .int x2, .float 0, .int ((zu I 192 ((x2).toNatClampNeg) (I 155 42)) 155 42), .int 0, .float 0] rfl ?_))
      obtain ⟨n9, h⟩ := h
      exact gl_X10_itself_117 cx hE n9 _ _ _ _ _ _ hP h
  · have h := zifn c3 h
    refine g_aload_n cx dX10_itself_23 rfl ?_
    refine g_iconst cx dX10_itself_24 ic_1 ?_
    refine g_iload_n cx dX10_itself_25 rfl ?_
    refine g_iload_n cx dX10_itself_26 rfl ?_
    refine g_aload_n cx dX10_itself_27 rfl ?_
    refine g_getI cx lk_X10_335 rfl (Nat.le_of_ble_eq_true rfl) rfl dX10_itself_28 (x := (I2 155 17)) rfl ?_
    refine g_wVi cx [.int 1, .int x1, .int x2, .int (I2 155 17)] [] (e_X10_howMany hP h) mt_X10_howMany ml_X10_365 rfl rfl rfl dX10_itself_31 rfl rfl (Nat.le_of_ble_eq_true rfl) (Nat.le_of_ble_eq_true rfl) (Nat.le_of_ble_eq_true rfl) (fun v8 I8 P8 hP h => ?_)
    refine g_if_le cx (tgt := 41) dX10_itself_34 rfl (fun c9 => ?_) (fun c9 => ?_)
    · have h := zifp c9 h
      refine g_iconst cx dX10_itself_41 ic_0 ?_
      exact gj_X10_itself_42 cx hE hP h
    · have h := zifn c9 h
      refine g_iconst cx dX10_itself_37 ic_1 ?_
      refine g_goto cx (tgt := 42) dX10_itself_38 rfl ?_
      exact gj_X10_itself_42 cx hE hP h
def w_X10_probeOp (x1 : Int32) (x2 : Int32) (I : zI) (P : zP) (K : zI → zP → Prop) : Prop := w_X10_put x1 I P (fun (I1 : zI) (P1 : zP) => (w_X10_put x2 I1 P1 (fun (I2 : zI) (P2 : zP) => (K I2 P2))))
theorem e_X10_probeOp {x1 : Int32} {x2 : Int32} {I : zI} {P : zP} {K : zI → zP → Prop} (hP : PSt P) (h : w_X10_probeOp x1 x2 I P K) : Ev yX10_probeOp cX10_probeOp 3 none 1 21 0 0 [.ref 155, .int x1, .int x2] SHy I P (zKv K) := by
  refine Ev.start [.ref 155, .int x1, .int x2] pn_X10 rfl (Nat.le_of_ble_eq_true rfl) rfl (fun κ cx hE => ?_)
  unfold w_X10_probeOp at h
  refine g_aload_n cx dX10_probeOp_0 rfl ?_
  refine g_iload_n cx dX10_probeOp_1 rfl ?_
  refine g_wVv cx [.int x1] [] (e_X10_put hP h) mt_X10_put ml_X10_344 rfl rfl rfl dX10_probeOp_2 rfl rfl (Nat.le_of_ble_eq_true rfl) (Nat.le_of_ble_eq_true rfl) (Nat.le_of_ble_eq_true rfl) (fun I1 P1 hP h => ?_)
  refine g_aload_n cx dX10_probeOp_5 rfl ?_
  refine g_iload_n cx dX10_probeOp_6 rfl ?_
  refine g_wVv cx [.int x2] [] (e_X10_put hP h) mt_X10_put ml_X10_344 rfl rfl rfl dX10_probeOp_7 rfl rfl (Nat.le_of_ble_eq_true rfl) (Nat.le_of_ble_eq_true rfl) (Nat.le_of_ble_eq_true rfl) (fun I2 P2 hP h => ?_)
  exact g_wv cx hE dX10_probeOp_10 rfl hP h
def j_X10_group_248 (X190 : Int32 → Int32 → Int32 → zI → zP → Prop) (K : zI → zP → Prop) (y1 : Int32) (y2 : Int32) (y4 : Int32) (I : zI) (P : zP) : Prop := w_X10_stands y4 1 y1 y2 (I 155 17) I P (fun (v1 : Int32) (I1 : zI) (P1 : zP) => (if v1 = 0 then (X190 y1 y2 (y4 + 1) I1 P1) else (w_X10_probeOp 49 y4 I1 P1 (fun (I3 : zI) (P3 : zP) => (w_X10_put 0 I3 P3 (fun (I4 : zI) (P4 : zP) => (X190 y1 y2 (y4 + 1) I4 P4)))))))
theorem gj_X10_group_248 {κ : zX} (cx : Cx yX10_group cX10_group 5 none 4 101 κ) {K : zI → zP → Prop} (hE : zEnd (zKv K) 0 0 κ) {X190 : Int32 → Int32 → Int32 → zI → zP → Prop} (hX190 : ∀ (y1 : Int32) (y2 : Int32) (y4 : Int32) (I : zI) (P : zP), PSt P → X190 y1 y2 y4 I P → Gx κ 190 [.ref 155, .int y1, .int y2, .float 0, .int y4] [] SHy I P 0 0) {y1 : Int32} {y2 : Int32} {y4 : Int32} {I : zI} {P : zP} (hP : PSt P) (h : j_X10_group_248 X190 K y1 y2 y4 I P) : Gx κ 248 [.ref 155, .int y1, .int y2, .float 0, .int y4] [] SHy I P 0 0 := by
  unfold j_X10_group_248 at h
  refine g_aload_n cx dX10_group_248 rfl ?_
  refine g_iload cx dX10_group_249 rfl ?_
  refine g_iconst cx dX10_group_251 ic_1 ?_
  refine g_iload_n cx dX10_group_252 rfl ?_
  refine g_iload_n cx dX10_group_253 rfl ?_
  refine g_aload_n cx dX10_group_254 rfl ?_
  refine g_getI cx lk_X10_335 rfl (Nat.le_of_ble_eq_true rfl) rfl dX10_group_255 (x := (I 155 17)) rfl ?_
  refine g_wVi cx [.int y4, .int 1, .int y1, .int y2, .int (I 155 17)] [] (e_X10_stands hP h) mt_X10_stands ml_X10_338 rfl rfl rfl dX10_group_258 rfl rfl (Nat.le_of_ble_eq_true rfl) (Nat.le_of_ble_eq_true rfl) (Nat.le_of_ble_eq_true rfl) (fun v1 I1 P1 hP h => ?_)
  refine g_if_eq cx (tgt := 277) dX10_group_261 rfl (fun c2 => ?_) (fun c2 => ?_)
  · have h := zifp c2 h
    refine g_iinc cx (v := (y4 + 1)) dX10_group_277 rfl rfl (Nat.le_of_ble_eq_true rfl) (Gx.L [.ref 155, .int y1, .int y2, .float 0, .int (y4 + 1)] rfl ?_)
    refine g_goto cx (tgt := 190) dX10_group_280 rfl ?_
    exact hX190 _ _ _ _ _ hP h
  · have h := zifn c2 h
    refine g_aload_n cx dX10_group_264 rfl ?_
    refine g_bipush cx dX10_group_265 bp_49 ?_
    refine g_iload cx dX10_group_267 rfl ?_
    refine g_wVv cx [.int 49, .int y4] [] (e_X10_probeOp hP h) mt_X10_probeOp ml_X10_359 rfl rfl rfl dX10_group_269 rfl rfl (Nat.le_of_ble_eq_true rfl) (Nat.le_of_ble_eq_true rfl) (Nat.le_of_ble_eq_true rfl) (fun I3 P3 hP h => ?_)
    refine g_aload_n cx dX10_group_272 rfl ?_
    refine g_iconst cx dX10_group_273 ic_0 ?_
    refine g_wVv cx [.int 0] [] (e_X10_put hP h) mt_X10_put ml_X10_344 rfl rfl rfl dX10_group_274 rfl rfl (Nat.le_of_ble_eq_true rfl) (Nat.le_of_ble_eq_true rfl) (Nat.le_of_ble_eq_true rfl) (fun I4 P4 hP h => ?_)
    refine g_iinc cx (v := (y4 + 1)) dX10_group_277 rfl rfl (Nat.le_of_ble_eq_true rfl) (Gx.L [.ref 155, .int y1, .int y2, .float 0, .int (y4 + 1)] rfl ?_)
    refine g_goto cx (tgt := 190) dX10_group_280 rfl ?_
    exact hX190 _ _ _ _ _ hP h
def j_X10_group_223 (X190 : Int32 → Int32 → Int32 → zI → zP → Prop) (K : zI → zP → Prop) (y1 : Int32) (y2 : Int32) (y4 : Int32) (I : zI) (P : zP) : Prop := w_X10_stands y4 7 y1 y2 (I 155 17) I P (fun (v1 : Int32) (I1 : zI) (P1 : zP) => (if v1 = 0 then (j_X10_group_248 X190 K y1 y2 y4 I1 P1) else (w_X10_probeOp 57 y4 I1 P1 (fun (I3 : zI) (P3 : zP) => (j_X10_group_248 X190 K y1 y2 y4 I3 P3)))))
theorem gj_X10_group_223 {κ : zX} (cx : Cx yX10_group cX10_group 5 none 4 101 κ) {K : zI → zP → Prop} (hE : zEnd (zKv K) 0 0 κ) {X190 : Int32 → Int32 → Int32 → zI → zP → Prop} (hX190 : ∀ (y1 : Int32) (y2 : Int32) (y4 : Int32) (I : zI) (P : zP), PSt P → X190 y1 y2 y4 I P → Gx κ 190 [.ref 155, .int y1, .int y2, .float 0, .int y4] [] SHy I P 0 0) {y1 : Int32} {y2 : Int32} {y4 : Int32} {I : zI} {P : zP} (hP : PSt P) (h : j_X10_group_223 X190 K y1 y2 y4 I P) : Gx κ 223 [.ref 155, .int y1, .int y2, .float 0, .int y4] [] SHy I P 0 0 := by
  unfold j_X10_group_223 at h
  refine g_aload_n cx dX10_group_223 rfl ?_
  refine g_iload cx dX10_group_224 rfl ?_
  refine g_bipush cx dX10_group_226 bp_7 ?_
  refine g_iload_n cx dX10_group_228 rfl ?_
  refine g_iload_n cx dX10_group_229 rfl ?_
  refine g_aload_n cx dX10_group_230 rfl ?_
  refine g_getI cx lk_X10_335 rfl (Nat.le_of_ble_eq_true rfl) rfl dX10_group_231 (x := (I 155 17)) rfl ?_
  refine g_wVi cx [.int y4, .int 7, .int y1, .int y2, .int (I 155 17)] [] (e_X10_stands hP h) mt_X10_stands ml_X10_338 rfl rfl rfl dX10_group_234 rfl rfl (Nat.le_of_ble_eq_true rfl) (Nat.le_of_ble_eq_true rfl) (Nat.le_of_ble_eq_true rfl) (fun v1 I1 P1 hP h => ?_)
  refine g_if_eq cx (tgt := 248) dX10_group_237 rfl (fun c2 => ?_) (fun c2 => ?_)
  · have h := zifp c2 h
    exact gj_X10_group_248 cx hE hX190 hP h
  · have h := zifn c2 h
    refine g_aload_n cx dX10_group_240 rfl ?_
    refine g_bipush cx dX10_group_241 bp_57 ?_
    refine g_iload cx dX10_group_243 rfl ?_
    refine g_wVv cx [.int 57, .int y4] [] (e_X10_probeOp hP h) mt_X10_probeOp ml_X10_359 rfl rfl rfl dX10_group_245 rfl rfl (Nat.le_of_ble_eq_true rfl) (Nat.le_of_ble_eq_true rfl) (Nat.le_of_ble_eq_true rfl) (fun I3 P3 hP h => ?_)
    exact gj_X10_group_248 cx hE hX190 hP h
def l_X10_group_190 (K : zI → zP → Prop) : Nat → Int32 → Int32 → Int32 → zI → zP → Prop
  | 0, _, _, _, _, _ => False
  | n + 1, y1, y2, y4, I, P => if (I 155 17) ≤ y4 then (K I P) else (w_X10_stands y4 4 y1 y2 (I 155 17) I P (fun (v2 : Int32) (I2 : zI) (P2 : zP) => (if v2 = 0 then (j_X10_group_223 (l_X10_group_190 K n) K y1 y2 y4 I2 P2) else (w_X10_probeOp 54 y4 I2 P2 (fun (I4 : zI) (P4 : zP) => (j_X10_group_223 (l_X10_group_190 K n) K y1 y2 y4 I4 P4))))))
theorem gl_X10_group_190 {κ : zX} (cx : Cx yX10_group cX10_group 5 none 4 101 κ) {K : zI → zP → Prop} (hE : zEnd (zKv K) 0 0 κ) : ∀ (n : Nat) (y1 : Int32) (y2 : Int32) (y4 : Int32) (I : zI) (P : zP), PSt P → l_X10_group_190 K n y1 y2 y4 I P → Gx κ 190 [.ref 155, .int y1, .int y2, .float 0, .int y4] [] SHy I P 0 0 := by
  intro n
  induction n with
  | zero =>
    intro y1 y2 y4 I P hP h
    rw [l_X10_group_190] at h
    exact False.elim h
  | succ n ih =>
    intro y1 y2 y4 I P hP h
    rw [l_X10_group_190] at h
    refine g_iload cx dX10_group_190 rfl ?_
    refine g_aload_n cx dX10_group_192 rfl ?_
    refine g_getI cx lk_X10_335 rfl (Nat.le_of_ble_eq_true rfl) rfl dX10_group_193 (x := (I 155 17)) rfl ?_
    refine g_icmp_ge cx (tgt := 283) dX10_group_196 rfl (fun c1 => ?_) (fun c1 => ?_)
    · have h := zifp c1 h
      exact g_wv cx hE dX10_group_283 rfl hP h
    · have h := zifn c1 h
      refine g_aload_n cx dX10_group_199 rfl ?_
      refine g_iload cx dX10_group_200 rfl ?_
      refine g_iconst cx dX10_group_202 ic_4 ?_
      refine g_iload_n cx dX10_group_203 rfl ?_
      refine g_iload_n cx dX10_group_204 rfl ?_
      refine g_aload_n cx dX10_group_205 rfl ?_
      refine g_getI cx lk_X10_335 rfl (Nat.le_of_ble_eq_true rfl) rfl dX10_group_206 (x := (I 155 17)) rfl ?_
      refine g_wVi cx [.int y4, .int 4, .int y1, .int y2, .int (I 155 17)] [] (e_X10_stands hP h) mt_X10_stands ml_X10_338 rfl rfl rfl dX10_group_209 rfl rfl (Nat.le_of_ble_eq_true rfl) (Nat.le_of_ble_eq_true rfl) (Nat.le_of_ble_eq_true rfl) (fun v2 I2 P2 hP h => ?_)
      refine g_if_eq cx (tgt := 223) dX10_group_212 rfl (fun c3 => ?_) (fun c3 => ?_)
      · have h := zifp c3 h
        exact gj_X10_group_223 cx hE ih hP h
      · have h := zifn c3 h
        refine g_aload_n cx dX10_group_215 rfl ?_
        refine g_bipush cx dX10_group_216 bp_54 ?_
        refine g_iload cx dX10_group_218 rfl ?_
        refine g_wVv cx [.int 54, .int y4] [] (e_X10_probeOp hP h) mt_X10_probeOp ml_X10_359 rfl rfl rfl dX10_group_220 rfl rfl (Nat.le_of_ble_eq_true rfl) (Nat.le_of_ble_eq_true rfl) (Nat.le_of_ble_eq_true rfl) (fun I4 P4 hP h => ?_)
        exact gj_X10_group_223 cx hE ih hP h
def l_X10_group_141 (K : zI → zP → Prop) : Nat → Int32 → Int32 → Int32 → Int32 → zI → zP → Prop
  | 0, _, _, _, _, _, _ => False
  | n + 1, y1, y2, y3, y4, I, P => if (I 155 17) ≤ y4 then (w_X10_itself y1 y2 y3 I P (fun (I2 : zI) (P2 : zP) => (∃ n9, l_X10_group_190 K n9 y1 y2 0 I2 P2))) else (w_X10_stands y4 4 y1 y2 (I 155 17) I P (fun (v3 : Int32) (I3 : zI) (P3 : zP) => (if v3 = 0 then ((l_X10_group_141 K n) y1 y2 y3 (y4 + 1) I3 P3) else (w_X10_probeOp 53 y4 I3 P3 (fun (I5 : zI) (P5 : zP) => ((l_X10_group_141 K n) y1 y2 y3 (y4 + 1) I5 P5))))))
theorem gl_X10_group_141 {κ : zX} (cx : Cx yX10_group cX10_group 5 none 4 101 κ) {K : zI → zP → Prop} (hE : zEnd (zKv K) 0 0 κ) : ∀ (n : Nat) (y1 : Int32) (y2 : Int32) (y3 : Int32) (y4 : Int32) (I : zI) (P : zP), PSt P → l_X10_group_141 K n y1 y2 y3 y4 I P → Gx κ 141 [.ref 155, .int y1, .int y2, .int y3, .int y4] [] SHy I P 0 0 := by
  intro n
  induction n with
  | zero =>
    intro y1 y2 y3 y4 I P hP h
    rw [l_X10_group_141] at h
    exact False.elim h
  | succ n ih =>
    intro y1 y2 y3 y4 I P hP h
    rw [l_X10_group_141] at h
    refine g_iload cx dX10_group_141 rfl ?_
    refine g_aload_n cx dX10_group_143 rfl ?_
    refine g_getI cx lk_X10_335 rfl (Nat.le_of_ble_eq_true rfl) rfl dX10_group_144 (x := (I 155 17)) rfl ?_
    refine g_icmp_ge cx (tgt := 180) dX10_group_147 rfl (fun c1 => ?_) (fun c1 => ?_)
    · have h := zifp c1 h
      refine g_aload_n cx dX10_group_180 rfl ?_
      refine g_iload_n cx dX10_group_181 rfl ?_
      refine g_iload_n cx dX10_group_182 rfl ?_
      refine g_iload_n cx dX10_group_183 rfl ?_
      refine g_wVv cx [.int y1, .int y2, .int y3] [] (e_X10_itself hP h) mt_X10_itself ml_X10_376 rfl rfl rfl dX10_group_184 rfl rfl (Nat.le_of_ble_eq_true rfl) (Nat.le_of_ble_eq_true rfl) (Nat.le_of_ble_eq_true rfl) (fun I2 P2 hP h => ?_)
      refine g_iconst cx dX10_group_187 ic_0 ?_
      refine g_istore cx dX10_group_188 (Nat.le_of_ble_eq_true rfl) (Gx.L [.ref 155, .int y1, .int y2, .int y3, .int 0] rfl ?_)
      refine (Gx.unset 3 (Gx.L [.ref 155, .int y1, .int y2, .float 0, .int 0] rfl ?_))
      obtain ⟨n9, h⟩ := h
      exact gl_X10_group_190 cx hE n9 _ _ _ _ _ hP h
    · have h := zifn c1 h
      refine g_aload_n cx dX10_group_150 rfl ?_
      refine g_iload cx dX10_group_151 rfl ?_
      refine g_iconst cx dX10_group_153 ic_4 ?_
      refine g_iload_n cx dX10_group_154 rfl ?_
      refine g_iload_n cx dX10_group_155 rfl ?_
      refine g_aload_n cx dX10_group_156 rfl ?_
      refine g_getI cx lk_X10_335 rfl (Nat.le_of_ble_eq_true rfl) rfl dX10_group_157 (x := (I 155 17)) rfl ?_
      refine g_wVi cx [.int y4, .int 4, .int y1, .int y2, .int (I 155 17)] [] (e_X10_stands hP h) mt_X10_stands ml_X10_338 rfl rfl rfl dX10_group_160 rfl rfl (Nat.le_of_ble_eq_true rfl) (Nat.le_of_ble_eq_true rfl) (Nat.le_of_ble_eq_true rfl) (fun v3 I3 P3 hP h => ?_)
      refine g_if_eq cx (tgt := 174) dX10_group_163 rfl (fun c4 => ?_) (fun c4 => ?_)
      · have h := zifp c4 h
        refine g_iinc cx (v := (y4 + 1)) dX10_group_174 rfl rfl (Nat.le_of_ble_eq_true rfl) (Gx.L [.ref 155, .int y1, .int y2, .int y3, .int (y4 + 1)] rfl ?_)
        refine g_goto cx (tgt := 141) dX10_group_177 rfl ?_
        exact ih _ _ _ _ _ _ hP h
      · have h := zifn c4 h
        refine g_aload_n cx dX10_group_166 rfl ?_
        refine g_bipush cx dX10_group_167 bp_53 ?_
        refine g_iload cx dX10_group_169 rfl ?_
        refine g_wVv cx [.int 53, .int y4] [] (e_X10_probeOp hP h) mt_X10_probeOp ml_X10_359 rfl rfl rfl dX10_group_171 rfl rfl (Nat.le_of_ble_eq_true rfl) (Nat.le_of_ble_eq_true rfl) (Nat.le_of_ble_eq_true rfl) (fun I5 P5 hP h => ?_)
        refine g_iinc cx (v := (y4 + 1)) dX10_group_174 rfl rfl (Nat.le_of_ble_eq_true rfl) (Gx.L [.ref 155, .int y1, .int y2, .int y3, .int (y4 + 1)] rfl ?_)
        refine g_goto cx (tgt := 141) dX10_group_177 rfl ?_
        exact ih _ _ _ _ _ _ hP h
def l_X10_group_93 (K : zI → zP → Prop) : Nat → Int32 → Int32 → Int32 → Int32 → zI → zP → Prop
  | 0, _, _, _, _, _, _ => False
  | n + 1, y1, y2, y3, y4, I, P => if (I 155 17) ≤ y4 then (∃ n9, l_X10_group_141 K n9 y1 y2 y3 0 I P) else (if y3 = 42 then (w_X10_stands y4 3 y1 0 (I 155 17) I P (fun (v3 : Int32) (I3 : zI) (P3 : zP) => (if v3 = 0 then ((l_X10_group_93 K n) y1 y2 y3 (y4 + 1) I3 P3) else (w_X10_probeOp 51 y4 I3 P3 (fun (I5 : zI) (P5 : zP) => ((l_X10_group_93 K n) y1 y2 y3 (y4 + 1) I5 P5)))))) else (∃ n9, l_X10_group_141 K n9 y1 y2 y3 0 I P))
theorem gl_X10_group_93 {κ : zX} (cx : Cx yX10_group cX10_group 5 none 4 101 κ) {K : zI → zP → Prop} (hE : zEnd (zKv K) 0 0 κ) : ∀ (n : Nat) (y1 : Int32) (y2 : Int32) (y3 : Int32) (y4 : Int32) (I : zI) (P : zP), PSt P → l_X10_group_93 K n y1 y2 y3 y4 I P → Gx κ 93 [.ref 155, .int y1, .int y2, .int y3, .int y4] [] SHy I P 0 0 := by
  intro n
  induction n with
  | zero =>
    intro y1 y2 y3 y4 I P hP h
    rw [l_X10_group_93] at h
    exact False.elim h
  | succ n ih =>
    intro y1 y2 y3 y4 I P hP h
    rw [l_X10_group_93] at h
    refine g_iload cx dX10_group_93 rfl ?_
    refine g_aload_n cx dX10_group_95 rfl ?_
    refine g_getI cx lk_X10_335 rfl (Nat.le_of_ble_eq_true rfl) rfl dX10_group_96 (x := (I 155 17)) rfl ?_
    refine g_icmp_ge cx (tgt := 138) dX10_group_99 rfl (fun c1 => ?_) (fun c1 => ?_)
    · have h := zifp c1 h
      refine g_iconst cx dX10_group_138 ic_0 ?_
      refine g_istore cx dX10_group_139 (Nat.le_of_ble_eq_true rfl) (Gx.L [.ref 155, .int y1, .int y2, .int y3, .int 0] rfl ?_)
      obtain ⟨n9, h⟩ := h
      exact gl_X10_group_141 cx hE n9 _ _ _ _ _ _ hP h
    · have h := zifn c1 h
      refine g_iload_n cx dX10_group_102 rfl ?_
      refine g_bipush cx dX10_group_103 bp_42 ?_
      refine g_icmp_ne cx (tgt := 138) dX10_group_105 rfl (fun c2 => ?_) (fun c2 => ?_)
      · have h := zifn c2 h
        refine g_iconst cx dX10_group_138 ic_0 ?_
        refine g_istore cx dX10_group_139 (Nat.le_of_ble_eq_true rfl) (Gx.L [.ref 155, .int y1, .int y2, .int y3, .int 0] rfl ?_)
        obtain ⟨n9, h⟩ := h
        exact gl_X10_group_141 cx hE n9 _ _ _ _ _ _ hP h
      · have h := zifp c2 h
        refine g_aload_n cx dX10_group_108 rfl ?_
        refine g_iload cx dX10_group_109 rfl ?_
        refine g_iconst cx dX10_group_111 ic_3 ?_
        refine g_iload_n cx dX10_group_112 rfl ?_
        refine g_iconst cx dX10_group_113 ic_0 ?_
        refine g_aload_n cx dX10_group_114 rfl ?_
        refine g_getI cx lk_X10_335 rfl (Nat.le_of_ble_eq_true rfl) rfl dX10_group_115 (x := (I 155 17)) rfl ?_
        refine g_wVi cx [.int y4, .int 3, .int y1, .int 0, .int (I 155 17)] [] (e_X10_stands hP h) mt_X10_stands ml_X10_338 rfl rfl rfl dX10_group_118 rfl rfl (Nat.le_of_ble_eq_true rfl) (Nat.le_of_ble_eq_true rfl) (Nat.le_of_ble_eq_true rfl) (fun v3 I3 P3 hP h => ?_)
        refine g_if_eq cx (tgt := 132) dX10_group_121 rfl (fun c4 => ?_) (fun c4 => ?_)
        · have h := zifp c4 h
          refine g_iinc cx (v := (y4 + 1)) dX10_group_132 rfl rfl (Nat.le_of_ble_eq_true rfl) (Gx.L [.ref 155, .int y1, .int y2, .int y3, .int (y4 + 1)] rfl ?_)
          refine g_goto cx (tgt := 93) dX10_group_135 rfl ?_
          exact ih _ _ _ _ _ _ hP h
        · have h := zifn c4 h
          refine g_aload_n cx dX10_group_124 rfl ?_
          refine g_bipush cx dX10_group_125 bp_51 ?_
          refine g_iload cx dX10_group_127 rfl ?_
          refine g_wVv cx [.int 51, .int y4] [] (e_X10_probeOp hP h) mt_X10_probeOp ml_X10_359 rfl rfl rfl dX10_group_129 rfl rfl (Nat.le_of_ble_eq_true rfl) (Nat.le_of_ble_eq_true rfl) (Nat.le_of_ble_eq_true rfl) (fun I5 P5 hP h => ?_)
          refine g_iinc cx (v := (y4 + 1)) dX10_group_132 rfl rfl (Nat.le_of_ble_eq_true rfl) (Gx.L [.ref 155, .int y1, .int y2, .int y3, .int (y4 + 1)] rfl ?_)
          refine g_goto cx (tgt := 93) dX10_group_135 rfl ?_
          exact ih _ _ _ _ _ _ hP h
def j_X10_group_59 (X26 : Int32 → Int32 → Int32 → Int32 → zI → zP → Prop) (K : zI → zP → Prop) (y1 : Int32) (y2 : Int32) (y3 : Int32) (y4 : Int32) (I : zI) (P : zP) : Prop := w_X10_stands y4 6 y1 y2 (I 155 17) I P (fun (v1 : Int32) (I1 : zI) (P1 : zP) => (if v1 = 0 then (X26 y1 y2 y3 (y4 + 1) I1 P1) else (w_X10_probeOp 56 y4 I1 P1 (fun (I3 : zI) (P3 : zP) => (X26 y1 y2 y3 (y4 + 1) I3 P3)))))
theorem gj_X10_group_59 {κ : zX} (cx : Cx yX10_group cX10_group 5 none 4 101 κ) {K : zI → zP → Prop} (hE : zEnd (zKv K) 0 0 κ) {X26 : Int32 → Int32 → Int32 → Int32 → zI → zP → Prop} (hX26 : ∀ (y1 : Int32) (y2 : Int32) (y3 : Int32) (y4 : Int32) (I : zI) (P : zP), PSt P → X26 y1 y2 y3 y4 I P → Gx κ 26 [.ref 155, .int y1, .int y2, .int y3, .int y4] [] SHy I P 0 0) {y1 : Int32} {y2 : Int32} {y3 : Int32} {y4 : Int32} {I : zI} {P : zP} (hP : PSt P) (h : j_X10_group_59 X26 K y1 y2 y3 y4 I P) : Gx κ 59 [.ref 155, .int y1, .int y2, .int y3, .int y4] [] SHy I P 0 0 := by
  unfold j_X10_group_59 at h
  refine g_aload_n cx dX10_group_59 rfl ?_
  refine g_iload cx dX10_group_60 rfl ?_
  refine g_bipush cx dX10_group_62 bp_6 ?_
  refine g_iload_n cx dX10_group_64 rfl ?_
  refine g_iload_n cx dX10_group_65 rfl ?_
  refine g_aload_n cx dX10_group_66 rfl ?_
  refine g_getI cx lk_X10_335 rfl (Nat.le_of_ble_eq_true rfl) rfl dX10_group_67 (x := (I 155 17)) rfl ?_
  refine g_wVi cx [.int y4, .int 6, .int y1, .int y2, .int (I 155 17)] [] (e_X10_stands hP h) mt_X10_stands ml_X10_338 rfl rfl rfl dX10_group_70 rfl rfl (Nat.le_of_ble_eq_true rfl) (Nat.le_of_ble_eq_true rfl) (Nat.le_of_ble_eq_true rfl) (fun v1 I1 P1 hP h => ?_)
  refine g_if_eq cx (tgt := 84) dX10_group_73 rfl (fun c2 => ?_) (fun c2 => ?_)
  · have h := zifp c2 h
    refine g_iinc cx (v := (y4 + 1)) dX10_group_84 rfl rfl (Nat.le_of_ble_eq_true rfl) (Gx.L [.ref 155, .int y1, .int y2, .int y3, .int (y4 + 1)] rfl ?_)
    refine g_goto cx (tgt := 26) dX10_group_87 rfl ?_
    exact hX26 _ _ _ _ _ _ hP h
  · have h := zifn c2 h
    refine g_aload_n cx dX10_group_76 rfl ?_
    refine g_bipush cx dX10_group_77 bp_56 ?_
    refine g_iload cx dX10_group_79 rfl ?_
    refine g_wVv cx [.int 56, .int y4] [] (e_X10_probeOp hP h) mt_X10_probeOp ml_X10_359 rfl rfl rfl dX10_group_81 rfl rfl (Nat.le_of_ble_eq_true rfl) (Nat.le_of_ble_eq_true rfl) (Nat.le_of_ble_eq_true rfl) (fun I3 P3 hP h => ?_)
    refine g_iinc cx (v := (y4 + 1)) dX10_group_84 rfl rfl (Nat.le_of_ble_eq_true rfl) (Gx.L [.ref 155, .int y1, .int y2, .int y3, .int (y4 + 1)] rfl ?_)
    refine g_goto cx (tgt := 26) dX10_group_87 rfl ?_
    exact hX26 _ _ _ _ _ _ hP h
def l_X10_group_26 (K : zI → zP → Prop) : Nat → Int32 → Int32 → Int32 → Int32 → zI → zP → Prop
  | 0, _, _, _, _, _, _ => False
  | n + 1, y1, y2, y3, y4, I, P => if (I 155 17) ≤ y4 then (∃ n9, l_X10_group_93 K n9 y1 y2 y3 0 I P) else (w_X10_stands y4 0 y1 y2 (I 155 17) I P (fun (v2 : Int32) (I2 : zI) (P2 : zP) => (if v2 = 0 then (j_X10_group_59 (l_X10_group_26 K n) K y1 y2 y3 y4 I2 P2) else (w_X10_probeOp 48 y4 I2 P2 (fun (I4 : zI) (P4 : zP) => (j_X10_group_59 (l_X10_group_26 K n) K y1 y2 y3 y4 I4 P4))))))
theorem gl_X10_group_26 {κ : zX} (cx : Cx yX10_group cX10_group 5 none 4 101 κ) {K : zI → zP → Prop} (hE : zEnd (zKv K) 0 0 κ) : ∀ (n : Nat) (y1 : Int32) (y2 : Int32) (y3 : Int32) (y4 : Int32) (I : zI) (P : zP), PSt P → l_X10_group_26 K n y1 y2 y3 y4 I P → Gx κ 26 [.ref 155, .int y1, .int y2, .int y3, .int y4] [] SHy I P 0 0 := by
  intro n
  induction n with
  | zero =>
    intro y1 y2 y3 y4 I P hP h
    rw [l_X10_group_26] at h
    exact False.elim h
  | succ n ih =>
    intro y1 y2 y3 y4 I P hP h
    rw [l_X10_group_26] at h
    refine g_iload cx dX10_group_26 rfl ?_
    refine g_aload_n cx dX10_group_28 rfl ?_
    refine g_getI cx lk_X10_335 rfl (Nat.le_of_ble_eq_true rfl) rfl dX10_group_29 (x := (I 155 17)) rfl ?_
    refine g_icmp_ge cx (tgt := 90) dX10_group_32 rfl (fun c1 => ?_) (fun c1 => ?_)
    · have h := zifp c1 h
      refine g_iconst cx dX10_group_90 ic_0 ?_
      refine g_istore cx dX10_group_91 (Nat.le_of_ble_eq_true rfl) (Gx.L [.ref 155, .int y1, .int y2, .int y3, .int 0] rfl ?_)
      obtain ⟨n9, h⟩ := h
      exact gl_X10_group_93 cx hE n9 _ _ _ _ _ _ hP h
    · have h := zifn c1 h
      refine g_aload_n cx dX10_group_35 rfl ?_
      refine g_iload cx dX10_group_36 rfl ?_
      refine g_iconst cx dX10_group_38 ic_0 ?_
      refine g_iload_n cx dX10_group_39 rfl ?_
      refine g_iload_n cx dX10_group_40 rfl ?_
      refine g_aload_n cx dX10_group_41 rfl ?_
      refine g_getI cx lk_X10_335 rfl (Nat.le_of_ble_eq_true rfl) rfl dX10_group_42 (x := (I 155 17)) rfl ?_
      refine g_wVi cx [.int y4, .int 0, .int y1, .int y2, .int (I 155 17)] [] (e_X10_stands hP h) mt_X10_stands ml_X10_338 rfl rfl rfl dX10_group_45 rfl rfl (Nat.le_of_ble_eq_true rfl) (Nat.le_of_ble_eq_true rfl) (Nat.le_of_ble_eq_true rfl) (fun v2 I2 P2 hP h => ?_)
      refine g_if_eq cx (tgt := 59) dX10_group_48 rfl (fun c3 => ?_) (fun c3 => ?_)
      · have h := zifp c3 h
        exact gj_X10_group_59 cx hE ih hP h
      · have h := zifn c3 h
        refine g_aload_n cx dX10_group_51 rfl ?_
        refine g_bipush cx dX10_group_52 bp_48 ?_
        refine g_iload cx dX10_group_54 rfl ?_
        refine g_wVv cx [.int 48, .int y4] [] (e_X10_probeOp hP h) mt_X10_probeOp ml_X10_359 rfl rfl rfl dX10_group_56 rfl rfl (Nat.le_of_ble_eq_true rfl) (Nat.le_of_ble_eq_true rfl) (Nat.le_of_ble_eq_true rfl) (fun I4 P4 hP h => ?_)
        exact gj_X10_group_59 cx hE ih hP h
def w_X10_group (x1 : Int32) (x2 : Int32) (I : zI) (P : zP) (K : zI → zP → Prop) : Prop := vp_in ((400 * x1) + x2) 2400 ∧ (vp_in x2 401 ∧ (∃ n9, l_X10_group_26 K n9 x1 x2 (I 160 ((((400 * x1) + x2)).toNatClampNeg)) 0 (zu I 191 ((x2).toNatClampNeg) (I 155 42)) P))
theorem e_X10_group {x1 : Int32} {x2 : Int32} {I : zI} {P : zP} {K : zI → zP → Prop} (hP : PSt P) (h : w_X10_group x1 x2 I P K) : Ev yX10_group cX10_group 5 none 4 101 0 0 [.ref 155, .int x1, .int x2] SHy I P (zKv K) := by
  refine Ev.start [.ref 155, .int x1, .int x2, .float 0, .float 0] pn_X10 rfl (Nat.le_of_ble_eq_true rfl) rfl (fun κ cx hE => ?_)
  unfold w_X10_group at h
  refine g_aload_n cx dX10_group_0 rfl ?_
  refine g_getR cx lk_X10_26 rfl (Nat.le_of_ble_eq_true rfl) rfl dX10_group_1 (v := 160) (pst hP 159 rfl) ?_
  refine g_sipush cx dX10_group_4 sp_400 ?_
  refine g_iload_n cx dX10_group_7 rfl ?_
  refine g_imul cx dX10_group_8 ?_
  refine g_iload_n cx dX10_group_9 rfl ?_
  refine g_iadd cx dX10_group_10 ?_
  obtain ⟨hc1, h⟩ := h
  refine g_iald cx dX10_group_11 rfl hc1 (x := (I 160 ((((400 * x1) + x2)).toNatClampNeg))) rfl ?_
  refine g_istore_n cx dX10_group_12 (Nat.le_of_ble_eq_true rfl) (Gx.L [.ref 155, .int x1, .int x2, .int (I 160 ((((400 * x1) + x2)).toNatClampNeg)), .float 0] rfl ?_)
  refine g_aload_n cx dX10_group_13 rfl ?_
  refine g_getR cx lk_X10_120 rfl (Nat.le_of_ble_eq_true rfl) rfl dX10_group_14 (v := 191) (pst hP 190 rfl) ?_
  refine g_iload_n cx dX10_group_17 rfl ?_
  refine g_aload_n cx dX10_group_18 rfl ?_
  refine g_getI cx lk_X10_341 rfl (Nat.le_of_ble_eq_true rfl) rfl dX10_group_19 (x := (I 155 42)) rfl ?_
  obtain ⟨hc2, h⟩ := h
  refine g_iast cx dX10_group_22 rfl hc2 ?_
  refine g_iconst cx dX10_group_23 ic_0 ?_
  refine g_istore cx dX10_group_24 (Nat.le_of_ble_eq_true rfl) (Gx.L [.ref 155, .int x1, .int x2, .int (I 160 ((((400 * x1) + x2)).toNatClampNeg)), .int 0] rfl ?_)
  obtain ⟨n9, h⟩ := h
  exact gl_X10_group_26 cx hE n9 _ _ _ _ _ _ hP h
def j_X10_grows_61 (X4 : Int32 → Int32 → Int32 → zI → zP → Prop) (K : Int32 → zI → zP → Prop) (y1 : Int32) (y2 : Int32) (y3 : Int32) (s0 : Int32) (I : zI) (P : zP) : Prop := if s0 = 0 then (X4 y1 y2 (y3 + 1) I P) else (vp_in y3 1000 ∧ (if (I 194 ((y3).toNatClampNeg)) = 0 then (vp_in y3 1000 ∧ (w_X10_in (I 195 ((y3).toNatClampNeg)) (-128) 127 I P (fun (v5 : Int32) (I5 : zI) (P5 : zP) => (if v5 = 0 then (vp_in y3 1000 ∧ (X4 y1 1 (y3 + 1) (zu I5 194 ((y3).toNatClampNeg) (vp_nar .boolean 1)) P5)) else (X4 y1 y2 (y3 + 1) I5 P5))))) else (X4 y1 y2 (y3 + 1) I P)))
theorem gj_X10_grows_61 {κ : zX} (cx : Cx yX10_grows cX10_grows 5 (some .boolean) 2 42 κ) {K : Int32 → zI → zP → Prop} (hE : zEnd (zKi K) 0 0 κ) {X4 : Int32 → Int32 → Int32 → zI → zP → Prop} (hX4 : ∀ (y1 : Int32) (y2 : Int32) (y3 : Int32) (I : zI) (P : zP), PSt P → X4 y1 y2 y3 I P → Gx κ 4 [.ref 155, .int y1, .int y2, .int y3, .float 0] [] SHy I P 0 0) {y1 : Int32} {y2 : Int32} {y3 : Int32} {s0 : Int32} {I : zI} {P : zP} (hP : PSt P) (h : j_X10_grows_61 X4 K y1 y2 y3 s0 I P) : Gx κ 61 [.ref 155, .int y1, .int y2, .int y3, .float 0] [.int s0] SHy I P 0 0 := by
  unfold j_X10_grows_61 at h
  refine g_istore cx dX10_grows_61 (Nat.le_of_ble_eq_true rfl) (Gx.L [.ref 155, .int y1, .int y2, .int y3, .int s0] rfl ?_)
  refine g_iload cx dX10_grows_63 rfl ?_
  refine g_if_eq cx (tgt := 102) dX10_grows_65 rfl (fun c1 => ?_) (fun c1 => ?_)
  · have h := zifp c1 h
    refine g_iinc cx (v := (y3 + 1)) dX10_grows_102 rfl rfl (Nat.le_of_ble_eq_true rfl) (Gx.L [.ref 155, .int y1, .int y2, .int (y3 + 1), .int s0] rfl ?_)
    refine g_goto cx (tgt := 4) dX10_grows_105 rfl ?_
    refine (Gx.unset 4 (Gx.L [.ref 155, .int y1, .int y2, .int (y3 + 1), .float 0] rfl ?_))
    exact hX4 _ _ _ _ _ hP h
  · have h := zifn c1 h
    refine g_aload_n cx dX10_grows_68 rfl ?_
    refine g_getR cx lk_X10_129 rfl (Nat.le_of_ble_eq_true rfl) rfl dX10_grows_69 (v := 194) (pst hP 193 rfl) ?_
    refine g_iload_n cx dX10_grows_72 rfl ?_
    obtain ⟨hc2, h⟩ := h
    refine g_bald cx dX10_grows_73 rfl hc2 (x := (I 194 ((y3).toNatClampNeg))) rfl ?_
    refine g_if_ne cx (tgt := 102) dX10_grows_74 rfl (fun c3 => ?_) (fun c3 => ?_)
    · have h := zifn c3 h
      refine g_iinc cx (v := (y3 + 1)) dX10_grows_102 rfl rfl (Nat.le_of_ble_eq_true rfl) (Gx.L [.ref 155, .int y1, .int y2, .int (y3 + 1), .int s0] rfl ?_)
      refine g_goto cx (tgt := 4) dX10_grows_105 rfl ?_
      refine (Gx.unset 4 (Gx.L [.ref 155, .int y1, .int y2, .int (y3 + 1), .float 0] rfl ?_))
      exact hX4 _ _ _ _ _ hP h
    · have h := zifp c3 h
      refine g_aload_n cx dX10_grows_77 rfl ?_
      refine g_getR cx lk_X10_132 rfl (Nat.le_of_ble_eq_true rfl) rfl dX10_grows_78 (v := 195) (pst hP 194 rfl) ?_
      refine g_iload_n cx dX10_grows_81 rfl ?_
      obtain ⟨hc4, h⟩ := h
      refine g_iald cx dX10_grows_82 rfl hc4 (x := (I 195 ((y3).toNatClampNeg))) rfl ?_
      refine g_bipush cx dX10_grows_83 bp_m128 ?_
      refine g_bipush cx dX10_grows_85 bp_127 ?_
      refine g_wSi cx [.int (I 195 ((y3).toNatClampNeg)), .int (-128), .int 127] [] (e_X10_in hP h) mt_X10_in ml_X10_217 dX10_grows_87 rfl rfl (Nat.le_of_ble_eq_true rfl) (Nat.le_of_ble_eq_true rfl) (Nat.le_of_ble_eq_true rfl) (fun v5 I5 P5 hP h => ?_)
      refine g_if_ne cx (tgt := 102) dX10_grows_90 rfl (fun c6 => ?_) (fun c6 => ?_)
      · have h := zifn c6 h
        refine g_iinc cx (v := (y3 + 1)) dX10_grows_102 rfl rfl (Nat.le_of_ble_eq_true rfl) (Gx.L [.ref 155, .int y1, .int y2, .int (y3 + 1), .int s0] rfl ?_)
        refine g_goto cx (tgt := 4) dX10_grows_105 rfl ?_
        refine (Gx.unset 4 (Gx.L [.ref 155, .int y1, .int y2, .int (y3 + 1), .float 0] rfl ?_))
        exact hX4 _ _ _ _ _ hP h
      · have h := zifp c6 h
        refine g_aload_n cx dX10_grows_93 rfl ?_
        refine g_getR cx lk_X10_129 rfl (Nat.le_of_ble_eq_true rfl) rfl dX10_grows_94 (v := 194) (pst hP 193 rfl) ?_
        refine g_iload_n cx dX10_grows_97 rfl ?_
        refine g_iconst cx dX10_grows_98 ic_1 ?_
        obtain ⟨hc7, h⟩ := h
        refine g_bast cx dX10_grows_99 rfl hc7 ?_
        refine g_iconst cx dX10_grows_100 ic_1 ?_
        refine g_istore_n cx dX10_grows_101 (Nat.le_of_ble_eq_true rfl) (Gx.L [.ref 155, .int y1, .int 1, .int y3, .int s0] rfl ?_)
        refine g_iinc cx (v := (y3 + 1)) dX10_grows_102 rfl rfl (Nat.le_of_ble_eq_true rfl) (Gx.L [.ref 155, .int y1, .int 1, .int (y3 + 1), .int s0] rfl ?_)
        refine g_goto cx (tgt := 4) dX10_grows_105 rfl ?_
        refine (Gx.unset 4 (Gx.L [.ref 155, .int y1, .int 1, .int (y3 + 1), .float 0] rfl ?_))
        exact hX4 _ _ _ _ _ hP h
def j_X10_grows_60 (X4 : Int32 → Int32 → Int32 → zI → zP → Prop) (K : Int32 → zI → zP → Prop) (y1 : Int32) (y2 : Int32) (y3 : Int32) (I : zI) (P : zP) : Prop := j_X10_grows_61 X4 K y1 y2 y3 0 I P
theorem gj_X10_grows_60 {κ : zX} (cx : Cx yX10_grows cX10_grows 5 (some .boolean) 2 42 κ) {K : Int32 → zI → zP → Prop} (hE : zEnd (zKi K) 0 0 κ) {X4 : Int32 → Int32 → Int32 → zI → zP → Prop} (hX4 : ∀ (y1 : Int32) (y2 : Int32) (y3 : Int32) (I : zI) (P : zP), PSt P → X4 y1 y2 y3 I P → Gx κ 4 [.ref 155, .int y1, .int y2, .int y3, .float 0] [] SHy I P 0 0) {y1 : Int32} {y2 : Int32} {y3 : Int32} {I : zI} {P : zP} (hP : PSt P) (h : j_X10_grows_60 X4 K y1 y2 y3 I P) : Gx κ 60 [.ref 155, .int y1, .int y2, .int y3, .float 0] [] SHy I P 0 0 := by
  unfold j_X10_grows_60 at h
  refine g_iconst cx dX10_grows_60 ic_0 ?_
  exact gj_X10_grows_61 cx hE hX4 hP h
def l_X10_grows_4 (K : Int32 → zI → zP → Prop) : Nat → Int32 → Int32 → Int32 → zI → zP → Prop
  | 0, _, _, _, _, _ => False
  | n + 1, y1, y2, y3, I, P => if (400 + (I 155 47)) ≤ y3 then (zbo y2 ∧ (K y2 I P)) else (if 400 ≤ y3 then (j_X10_grows_61 (l_X10_grows_4 K n) K y1 y2 y3 1 I P) else (vp_in ((400 * y1) + y3) 2400 ∧ (if (I 166 ((((400 * y1) + y3)).toNatClampNeg)) = 0 then (j_X10_grows_60 (l_X10_grows_4 K n) K y1 y2 y3 I P) else (vp_in ((400 * y1) + y3) 2400 ∧ (w_X10_isJump (I 160 ((((400 * y1) + y3)).toNatClampNeg)) I P (fun (v7 : Int32) (I7 : zI) (P7 : zP) => (if v7 = 0 then (j_X10_grows_60 (l_X10_grows_4 K n) K y1 y2 y3 I7 P7) else (j_X10_grows_61 (l_X10_grows_4 K n) K y1 y2 y3 1 I7 P7))))))))
theorem gl_X10_grows_4 {κ : zX} (cx : Cx yX10_grows cX10_grows 5 (some .boolean) 2 42 κ) {K : Int32 → zI → zP → Prop} (hE : zEnd (zKi K) 0 0 κ) : ∀ (n : Nat) (y1 : Int32) (y2 : Int32) (y3 : Int32) (I : zI) (P : zP), PSt P → l_X10_grows_4 K n y1 y2 y3 I P → Gx κ 4 [.ref 155, .int y1, .int y2, .int y3, .float 0] [] SHy I P 0 0 := by
  intro n
  induction n with
  | zero =>
    intro y1 y2 y3 I P hP h
    rw [l_X10_grows_4] at h
    exact False.elim h
  | succ n ih =>
    intro y1 y2 y3 I P hP h
    rw [l_X10_grows_4] at h
    refine g_iload_n cx dX10_grows_4 rfl ?_
    refine g_sipush cx dX10_grows_5 sp_400 ?_
    refine g_aload_n cx dX10_grows_8 rfl ?_
    refine g_getI cx lk_X10_356 rfl (Nat.le_of_ble_eq_true rfl) rfl dX10_grows_9 (x := (I 155 47)) rfl ?_
    refine g_iadd cx dX10_grows_12 ?_
    refine g_icmp_ge cx (tgt := 108) dX10_grows_13 rfl (fun c1 => ?_) (fun c1 => ?_)
    · have h := zifp c1 h
      refine g_iload_n cx dX10_grows_108 rfl ?_
      obtain ⟨hc2, h⟩ := h
      exact g_wi cx hE dX10_grows_109 rfl (zbo_n hc2) hP h
    · have h := zifn c1 h
      refine g_iload_n cx dX10_grows_16 rfl ?_
      refine g_sipush cx dX10_grows_17 sp_400 ?_
      refine g_icmp_ge cx (tgt := 56) dX10_grows_20 rfl (fun c3 => ?_) (fun c3 => ?_)
      · have h := zifp c3 h
        refine g_iconst cx dX10_grows_56 ic_1 ?_
        refine g_goto cx (tgt := 61) dX10_grows_57 rfl ?_
        exact gj_X10_grows_61 cx hE ih hP h
      · have h := zifn c3 h
        refine g_aload_n cx dX10_grows_23 rfl ?_
        refine g_getR cx lk_X10_44 rfl (Nat.le_of_ble_eq_true rfl) rfl dX10_grows_24 (v := 166) (pst hP 165 rfl) ?_
        refine g_sipush cx dX10_grows_27 sp_400 ?_
        refine g_iload_n cx dX10_grows_30 rfl ?_
        refine g_imul cx dX10_grows_31 ?_
        refine g_iload_n cx dX10_grows_32 rfl ?_
        refine g_iadd cx dX10_grows_33 ?_
        obtain ⟨hc4, h⟩ := h
        refine g_bald cx dX10_grows_34 rfl hc4 (x := (I 166 ((((400 * y1) + y3)).toNatClampNeg))) rfl ?_
        refine g_if_eq cx (tgt := 60) dX10_grows_35 rfl (fun c5 => ?_) (fun c5 => ?_)
        · have h := zifp c5 h
          exact gj_X10_grows_60 cx hE ih hP h
        · have h := zifn c5 h
          refine g_aload_n cx dX10_grows_38 rfl ?_
          refine g_getR cx lk_X10_26 rfl (Nat.le_of_ble_eq_true rfl) rfl dX10_grows_39 (v := 160) (pst hP 159 rfl) ?_
          refine g_sipush cx dX10_grows_42 sp_400 ?_
          refine g_iload_n cx dX10_grows_45 rfl ?_
          refine g_imul cx dX10_grows_46 ?_
          refine g_iload_n cx dX10_grows_47 rfl ?_
          refine g_iadd cx dX10_grows_48 ?_
          obtain ⟨hc6, h⟩ := h
          refine g_iald cx dX10_grows_49 rfl hc6 (x := (I 160 ((((400 * y1) + y3)).toNatClampNeg))) rfl ?_
          refine g_wSi cx [.int (I 160 ((((400 * y1) + y3)).toNatClampNeg))] [] (e_X10_isJump hP h) mt_X10_isJump ml_X10_233 dX10_grows_50 rfl rfl (Nat.le_of_ble_eq_true rfl) (Nat.le_of_ble_eq_true rfl) (Nat.le_of_ble_eq_true rfl) (fun v7 I7 P7 hP h => ?_)
          refine g_if_eq cx (tgt := 60) dX10_grows_53 rfl (fun c8 => ?_) (fun c8 => ?_)
          · have h := zifp c8 h
            exact gj_X10_grows_60 cx hE ih hP h
          · have h := zifn c8 h
            refine g_iconst cx dX10_grows_56 ic_1 ?_
            refine g_goto cx (tgt := 61) dX10_grows_57 rfl ?_
            exact gj_X10_grows_61 cx hE ih hP h
def w_X10_grows (x1 : Int32) (I : zI) (P : zP) (K : Int32 → zI → zP → Prop) : Prop := ∃ n9, l_X10_grows_4 K n9 x1 0 0 I P
theorem e_X10_grows {x1 : Int32} {I : zI} {P : zP} {K : Int32 → zI → zP → Prop} (hP : PSt P) (h : w_X10_grows x1 I P K) : Ev yX10_grows cX10_grows 5 (some .boolean) 2 42 0 0 [.ref 155, .int x1] SHy I P (zKi K) := by
  refine Ev.start [.ref 155, .int x1, .float 0, .float 0, .float 0] pn_X10 rfl (Nat.le_of_ble_eq_true rfl) rfl (fun κ cx hE => ?_)
  unfold w_X10_grows at h
  refine g_iconst cx dX10_grows_0 ic_0 ?_
  refine g_istore_n cx dX10_grows_1 (Nat.le_of_ble_eq_true rfl) (Gx.L [.ref 155, .int x1, .int 0, .float 0, .float 0] rfl ?_)
  refine g_iconst cx dX10_grows_2 ic_0 ?_
  refine g_istore_n cx dX10_grows_3 (Nat.le_of_ble_eq_true rfl) (Gx.L [.ref 155, .int x1, .int 0, .int 0, .float 0] rfl ?_)
  obtain ⟨n9, h⟩ := h
  exact gl_X10_grows_4 cx hE n9 _ _ _ _ _ hP h
def w_X10_isMethod (x1 : Int32) (I : zI) (P : zP) (K : Int32 → zI → zP → Prop) : Prop := w_X10_in x1 0 ((I 155 3) - 1) I P (fun (v1 : Int32) (I1 : zI) (P1 : zP) => (zbo v1 ∧ (K v1 I1 P1)))
theorem e_X10_isMethod {x1 : Int32} {I : zI} {P : zP} {K : Int32 → zI → zP → Prop} (hP : PSt P) (h : w_X10_isMethod x1 I P K) : Ev yX10_isMethod cX10_isMethod 2 (some .boolean) 1 22 0 0 [.ref 155, .int x1] SHy I P (zKi K) := by
  refine Ev.start [.ref 155, .int x1] pn_X10 rfl (Nat.le_of_ble_eq_true rfl) rfl (fun κ cx hE => ?_)
  unfold w_X10_isMethod at h
  refine g_iload_n cx dX10_isMethod_0 rfl ?_
  refine g_iconst cx dX10_isMethod_1 ic_0 ?_
  refine g_aload_n cx dX10_isMethod_2 rfl ?_
  refine g_getI cx lk_X10_237 rfl (Nat.le_of_ble_eq_true rfl) rfl dX10_isMethod_3 (x := (I 155 3)) rfl ?_
  refine g_iconst cx dX10_isMethod_6 ic_1 ?_
  refine g_isub cx dX10_isMethod_7 ?_
  refine g_wSi cx [.int x1, .int 0, .int ((I 155 3) - 1)] [] (e_X10_in hP h) mt_X10_in ml_X10_217 dX10_isMethod_8 rfl rfl (Nat.le_of_ble_eq_true rfl) (Nat.le_of_ble_eq_true rfl) (Nat.le_of_ble_eq_true rfl) (fun v1 I1 P1 hP h => ?_)
  obtain ⟨hc2, h⟩ := h
  exact g_wi cx hE dX10_isMethod_11 rfl (zbo_n hc2) hP h
