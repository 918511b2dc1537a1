def l_X10_layAll_243 (K : zI → zP → Prop) : Nat → Int32 → Int32 → zI → zP → Prop
  | 0, _, _, _, _ => False
  | n + 1, y1, y2, I, P => if (I 155 17) ≤ y2 then (if (I 155 42) ≤ (I 155 48) then (K I P) else (w_X10_put 58 I P (fun (I3 : zI) (P3 : zP) => (K I3 P3)))) else (w_X10_stands y2 3 y1 0 (I 155 17) I P (fun (v4 : Int32) (I4 : zI) (P4 : zP) => (if v4 = 0 then ((l_X10_layAll_243 K n) y1 (y2 + 1) I4 P4) else (w_X10_probeOp 52 y2 I4 P4 (fun (I6 : zI) (P6 : zP) => ((l_X10_layAll_243 K n) y1 (y2 + 1) I6 P6))))))
theorem gl_X10_layAll_243 {κ : zX} (cx : Cx yX10_layAll cX10_layAll 3 none 5 125 κ) {K : zI → zP → Prop} (hE : zEnd (zKv K) 0 0 κ) : ∀ (n : Nat) (y1 : Int32) (y2 : Int32) (I : zI) (P : zP), PSt P → l_X10_layAll_243 K n y1 y2 I P → Gx κ 243 [.ref 155, .int y1, .int y2] [] SHy I P 0 0 := by
  intro n
  induction n with
  | zero =>
    intro y1 y2 I P hP h
    rw [l_X10_layAll_243] at h
    exact False.elim h
  | succ n ih =>
    intro y1 y2 I P hP h
    rw [l_X10_layAll_243] at h
    refine g_iload_n cx dX10_layAll_243 rfl ?_
    refine g_aload_n cx dX10_layAll_244 rfl ?_
    refine g_getI cx lk_X10_335 rfl (Nat.le_of_ble_eq_true rfl) rfl dX10_layAll_245 (x := (I 155 17)) rfl ?_
    refine g_icmp_ge cx (tgt := 279) dX10_layAll_248 rfl (fun c1 => ?_) (fun c1 => ?_)
    · have h := zifp c1 h
      refine g_aload_n cx dX10_layAll_279 rfl ?_
      refine g_getI cx lk_X10_341 rfl (Nat.le_of_ble_eq_true rfl) rfl dX10_layAll_280 (x := (I 155 42)) rfl ?_
      refine g_aload_n cx dX10_layAll_283 rfl ?_
      refine g_getI cx lk_X10_373 rfl (Nat.le_of_ble_eq_true rfl) rfl dX10_layAll_284 (x := (I 155 48)) rfl ?_
      refine g_icmp_le cx (tgt := 296) dX10_layAll_287 rfl (fun c2 => ?_) (fun c2 => ?_)
      · have h := zifp c2 h
        exact g_wv cx hE dX10_layAll_296 rfl hP h
      · have h := zifn c2 h
        refine g_aload_n cx dX10_layAll_290 rfl ?_
        refine g_bipush cx dX10_layAll_291 bp_58 ?_
        refine g_wVv cx [.int 58] [] (e_X10_put hP h) mt_X10_put ml_X10_344 rfl rfl rfl dX10_layAll_293 rfl rfl (Nat.le_of_ble_eq_true rfl) (Nat.le_of_ble_eq_true rfl) (Nat.le_of_ble_eq_true rfl) (fun I3 P3 hP h => ?_)
        exact g_wv cx hE dX10_layAll_296 rfl hP h
    · have h := zifn c1 h
      refine g_aload_n cx dX10_layAll_251 rfl ?_
      refine g_iload_n cx dX10_layAll_252 rfl ?_
      refine g_iconst cx dX10_layAll_253 ic_3 ?_
      refine g_iload_n cx dX10_layAll_254 rfl ?_
      refine g_iconst cx dX10_layAll_255 ic_0 ?_
      refine g_aload_n cx dX10_layAll_256 rfl ?_
      refine g_getI cx lk_X10_335 rfl (Nat.le_of_ble_eq_true rfl) rfl dX10_layAll_257 (x := (I 155 17)) rfl ?_
      refine g_wVi cx [.int y2, .int 3, .int y1, .int 0, .int (I 155 17)] [] (e_X10_stands hP h) mt_X10_stands ml_X10_338 rfl rfl rfl dX10_layAll_260 rfl rfl (Nat.le_of_ble_eq_true rfl) (Nat.le_of_ble_eq_true rfl) (Nat.le_of_ble_eq_true rfl) (fun v4 I4 P4 hP h => ?_)
      refine g_if_eq cx (tgt := 273) dX10_layAll_263 rfl (fun c5 => ?_) (fun c5 => ?_)
      · have h := zifp c5 h
        refine g_iinc cx (v := (y2 + 1)) dX10_layAll_273 rfl rfl (Nat.le_of_ble_eq_true rfl) (Gx.L [.ref 155, .int y1, .int (y2 + 1)] rfl ?_)
        refine g_goto cx (tgt := 243) dX10_layAll_276 rfl ?_
        exact ih _ _ _ _ hP h
      · have h := zifn c5 h
        refine g_aload_n cx dX10_layAll_266 rfl ?_
        refine g_bipush cx dX10_layAll_267 bp_52 ?_
        refine g_iload_n cx dX10_layAll_269 rfl ?_
        refine g_wVv cx [.int 52, .int y2] [] (e_X10_probeOp hP h) mt_X10_probeOp ml_X10_359 rfl rfl rfl dX10_layAll_270 rfl rfl (Nat.le_of_ble_eq_true rfl) (Nat.le_of_ble_eq_true rfl) (Nat.le_of_ble_eq_true rfl) (fun I6 P6 hP h => ?_)
        refine g_iinc cx (v := (y2 + 1)) dX10_layAll_273 rfl rfl (Nat.le_of_ble_eq_true rfl) (Gx.L [.ref 155, .int y1, .int (y2 + 1)] rfl ?_)
        refine g_goto cx (tgt := 243) dX10_layAll_276 rfl ?_
        exact ih _ _ _ _ hP h
def l_X10_layAll_165 (K : zI → zP → Prop) : Nat → Int32 → Int32 → zI → zP → Prop
  | 0, _, _, _, _ => False
  | n + 1, y1, y2, I, P => vp_in y1 6 ∧ (if (I 161 ((y1).toNatClampNeg)) ≤ y2 then (∃ n9, l_X10_layAll_243 K n9 y1 0 (zu I 155 48 (I 155 42)) P) else (vp_in ((8 * y1) + y2) 48 ∧ (w_X10_howMany 5 y1 (I 164 ((((8 * y1) + y2)).toNatClampNeg)) (I 155 17) I P (fun (v4 : Int32) (I4 : zI) (P4 : zP) => (if v4 ≤ 0 then ((l_X10_layAll_165 K n) y1 (y2 + 1) I4 P4) else (vp_in ((8 * y1) + y2) 48 ∧ (vp_in ((8 * y1) + y2) 48 ∧ (w_X10_pad y1 5 (I4 164 ((((8 * y1) + y2)).toNatClampNeg)) (I4 164 ((((8 * y1) + y2)).toNatClampNeg)) I4 P4 (fun (I8 : zI) (P8 : zP) => ((l_X10_layAll_165 K n) y1 (y2 + 1) I8 P8))))))))))
theorem gl_X10_layAll_165 {κ : zX} (cx : Cx yX10_layAll cX10_layAll 3 none 5 125 κ) {K : zI → zP → Prop} (hE : zEnd (zKv K) 0 0 κ) : ∀ (n : Nat) (y1 : Int32) (y2 : Int32) (I : zI) (P : zP), PSt P → l_X10_layAll_165 K n y1 y2 I P → Gx κ 165 [.ref 155, .int y1, .int y2] [] SHy I P 0 0 := by
  intro n
  induction n with
  | zero =>
    intro y1 y2 I P hP h
    rw [l_X10_layAll_165] at h
    exact False.elim h
  | succ n ih =>
    intro y1 y2 I P hP h
    rw [l_X10_layAll_165] at h
    refine g_iload_n cx dX10_layAll_165 rfl ?_
    refine g_aload_n cx dX10_layAll_166 rfl ?_
    refine g_getR cx lk_X10_29 rfl (Nat.le_of_ble_eq_true rfl) rfl dX10_layAll_167 (v := 161) (pst hP 160 rfl) ?_
    refine g_iload_n cx dX10_layAll_170 rfl ?_
    obtain ⟨hc1, h⟩ := h
    refine g_iald cx dX10_layAll_171 rfl hc1 (x := (I 161 ((y1).toNatClampNeg))) rfl ?_
    refine g_icmp_ge cx (tgt := 233) dX10_layAll_172 rfl (fun c2 => ?_) (fun c2 => ?_)
    · have h := zifp c2 h
      refine g_aload_n cx dX10_layAll_233 rfl ?_
      refine g_aload_n cx dX10_layAll_234 rfl ?_
      refine g_getI cx lk_X10_341 rfl (Nat.le_of_ble_eq_true rfl) rfl dX10_layAll_235 (x := (I 155 42)) rfl ?_
      refine g_pI cx lk_X10_373 rfl (Nat.le_of_ble_eq_true rfl) rfl dX10_layAll_238 fi_10_48 rfl rfl ?_
      refine g_iconst cx dX10_layAll_241 ic_0 ?_
      refine g_istore_n cx dX10_layAll_242 (Nat.le_of_ble_eq_true rfl) (Gx.L [.ref 155, .int y1, .int 0] rfl ?_)
      obtain ⟨n9, h⟩ := h
      exact gl_X10_layAll_243 cx hE n9 _ _ _ _ hP h
    · have h := zifn c2 h
      refine g_aload_n cx dX10_layAll_175 rfl ?_
      refine g_iconst cx dX10_layAll_176 ic_5 ?_
      refine g_iload_n cx dX10_layAll_177 rfl ?_
      refine g_aload_n cx dX10_layAll_178 rfl ?_
      refine g_getR cx lk_X10_38 rfl (Nat.le_of_ble_eq_true rfl) rfl dX10_layAll_179 (v := 164) (pst hP 163 rfl) ?_
      refine g_bipush cx dX10_layAll_182 bp_8 ?_
      refine g_iload_n cx dX10_layAll_184 rfl ?_
      refine g_imul cx dX10_layAll_185 ?_
      refine g_iload_n cx dX10_layAll_186 rfl ?_
      refine g_iadd cx dX10_layAll_187 ?_
      obtain ⟨hc3, h⟩ := h
      refine g_iald cx dX10_layAll_188 rfl hc3 (x := (I 164 ((((8 * y1) + y2)).toNatClampNeg))) rfl ?_
      refine g_aload_n cx dX10_layAll_189 rfl ?_
      refine g_getI cx lk_X10_335 rfl (Nat.le_of_ble_eq_true rfl) rfl dX10_layAll_190 (x := (I 155 17)) rfl ?_
      refine g_wVi cx [.int 5, .int y1, .int (I 164 ((((8 * y1) + y2)).toNatClampNeg)), .int (I 155 17)] [] (e_X10_howMany hP h) mt_X10_howMany ml_X10_365 rfl rfl rfl dX10_layAll_193 rfl rfl (Nat.le_of_ble_eq_true rfl) (Nat.le_of_ble_eq_true rfl) (Nat.le_of_ble_eq_true rfl) (fun v4 I4 P4 hP h => ?_)
      refine g_if_le cx (tgt := 227) dX10_layAll_196 rfl (fun c5 => ?_) (fun c5 => ?_)
      · have h := zifp c5 h
        refine g_iinc cx (v := (y2 + 1)) dX10_layAll_227 rfl rfl (Nat.le_of_ble_eq_true rfl) (Gx.L [.ref 155, .int y1, .int (y2 + 1)] rfl ?_)
        refine g_goto cx (tgt := 165) dX10_layAll_230 rfl ?_
        exact ih _ _ _ _ hP h
      · have h := zifn c5 h
        refine g_aload_n cx dX10_layAll_199 rfl ?_
        refine g_iload_n cx dX10_layAll_200 rfl ?_
        refine g_iconst cx dX10_layAll_201 ic_5 ?_
        refine g_aload_n cx dX10_layAll_202 rfl ?_
        refine g_getR cx lk_X10_38 rfl (Nat.le_of_ble_eq_true rfl) rfl dX10_layAll_203 (v := 164) (pst hP 163 rfl) ?_
        refine g_bipush cx dX10_layAll_206 bp_8 ?_
        refine g_iload_n cx dX10_layAll_208 rfl ?_
        refine g_imul cx dX10_layAll_209 ?_
        refine g_iload_n cx dX10_layAll_210 rfl ?_
        refine g_iadd cx dX10_layAll_211 ?_
        obtain ⟨hc6, h⟩ := h
        refine g_iald cx dX10_layAll_212 rfl hc6 (x := (I4 164 ((((8 * y1) + y2)).toNatClampNeg))) rfl ?_
        refine g_aload_n cx dX10_layAll_213 rfl ?_
        refine g_getR cx lk_X10_38 rfl (Nat.le_of_ble_eq_true rfl) rfl dX10_layAll_214 (v := 164) (pst hP 163 rfl) ?_
        refine g_bipush cx dX10_layAll_217 bp_8 ?_
        refine g_iload_n cx dX10_layAll_219 rfl ?_
        refine g_imul cx dX10_layAll_220 ?_
        refine g_iload_n cx dX10_layAll_221 rfl ?_
        refine g_iadd cx dX10_layAll_222 ?_
        obtain ⟨hc7, h⟩ := h
        refine g_iald cx dX10_layAll_223 rfl hc7 (x := (I4 164 ((((8 * y1) + y2)).toNatClampNeg))) rfl ?_
        refine g_wVv cx [.int y1, .int 5, .int (I4 164 ((((8 * y1) + y2)).toNatClampNeg)), .int (I4 164 ((((8 * y1) + y2)).toNatClampNeg))] [] (e_X10_pad hP h) mt_X10_pad ml_X10_369 rfl rfl rfl dX10_layAll_224 rfl rfl (Nat.le_of_ble_eq_true rfl) (Nat.le_of_ble_eq_true rfl) (Nat.le_of_ble_eq_true rfl) (fun I8 P8 hP h => ?_)
        refine g_iinc cx (v := (y2 + 1)) dX10_layAll_227 rfl rfl (Nat.le_of_ble_eq_true rfl) (Gx.L [.ref 155, .int y1, .int (y2 + 1)] rfl ?_)
        refine g_goto cx (tgt := 165) dX10_layAll_230 rfl ?_
        exact ih _ _ _ _ hP h
def l_X10_layAll_104 (K : zI → zP → Prop) : Nat → Int32 → Int32 → zI → zP → Prop
  | 0, _, _, _, _ => False
  | n + 1, y1, y2, I, P => vp_in y1 6 ∧ (if (I 159 ((y1).toNatClampNeg)) ≤ y2 then (∃ n9, l_X10_layAll_165 K n9 y1 0 I P) else (vp_in ((400 * y1) + y2) 2400 ∧ (if (I 166 ((((400 * y1) + y2)).toNatClampNeg)) = 0 then ((l_X10_layAll_104 K n) y1 (y2 + 1) I P) else (w_X10_howMany 1 y1 y2 (I 155 17) I P (fun (v5 : Int32) (I5 : zI) (P5 : zP) => (if v5 ≤ 0 then ((l_X10_layAll_104 K n) y1 (y2 + 1) I5 P5) else (w_X10_leads y1 y2 0 I5 P5 (fun (v7 : Int32) (I7 : zI) (P7 : zP) => (w_X10_pad y1 1 y2 v7 I7 P7 (fun (I8 : zI) (P8 : zP) => ((l_X10_layAll_104 K n) y1 (y2 + 1) I8 P8)))))))))))
theorem gl_X10_layAll_104 {κ : zX} (cx : Cx yX10_layAll cX10_layAll 3 none 5 125 κ) {K : zI → zP → Prop} (hE : zEnd (zKv K) 0 0 κ) : ∀ (n : Nat) (y1 : Int32) (y2 : Int32) (I : zI) (P : zP), PSt P → l_X10_layAll_104 K n y1 y2 I P → Gx κ 104 [.ref 155, .int y1, .int y2] [] SHy I P 0 0 := by
  intro n
  induction n with
  | zero =>
    intro y1 y2 I P hP h
    rw [l_X10_layAll_104] at h
    exact False.elim h
  | succ n ih =>
    intro y1 y2 I P hP h
    rw [l_X10_layAll_104] at h
    refine g_iload_n cx dX10_layAll_104 rfl ?_
    refine g_aload_n cx dX10_layAll_105 rfl ?_
    refine g_getR cx lk_X10_23 rfl (Nat.le_of_ble_eq_true rfl) rfl dX10_layAll_106 (v := 159) (pst hP 158 rfl) ?_
    refine g_iload_n cx dX10_layAll_109 rfl ?_
    obtain ⟨hc1, h⟩ := h
    refine g_iald cx dX10_layAll_110 rfl hc1 (x := (I 159 ((y1).toNatClampNeg))) rfl ?_
    refine g_icmp_ge cx (tgt := 163) dX10_layAll_111 rfl (fun c2 => ?_) (fun c2 => ?_)
    · have h := zifp c2 h
      refine g_iconst cx dX10_layAll_163 ic_0 ?_
      refine g_istore_n cx dX10_layAll_164 (Nat.le_of_ble_eq_true rfl) (Gx.L [.ref 155, .int y1, .int 0] rfl ?_)
      obtain ⟨n9, h⟩ := h
      exact gl_X10_layAll_165 cx hE n9 _ _ _ _ hP h
    · have h := zifn c2 h
      refine g_aload_n cx dX10_layAll_114 rfl ?_
      refine g_getR cx lk_X10_44 rfl (Nat.le_of_ble_eq_true rfl) rfl dX10_layAll_115 (v := 166) (pst hP 165 rfl) ?_
      refine g_sipush cx dX10_layAll_118 sp_400 ?_
      refine g_iload_n cx dX10_layAll_121 rfl ?_
      refine g_imul cx dX10_layAll_122 ?_
      refine g_iload_n cx dX10_layAll_123 rfl ?_
      refine g_iadd cx dX10_layAll_124 ?_
      obtain ⟨hc3, h⟩ := h
      refine g_bald cx dX10_layAll_125 rfl hc3 (x := (I 166 ((((400 * y1) + y2)).toNatClampNeg))) rfl ?_
      refine g_if_eq cx (tgt := 157) dX10_layAll_126 rfl (fun c4 => ?_) (fun c4 => ?_)
      · have h := zifp c4 h
        refine g_iinc cx (v := (y2 + 1)) dX10_layAll_157 rfl rfl (Nat.le_of_ble_eq_true rfl) (Gx.L [.ref 155, .int y1, .int (y2 + 1)] rfl ?_)
        refine g_goto cx (tgt := 104) dX10_layAll_160 rfl ?_
        exact ih _ _ _ _ hP h
      · have h := zifn c4 h
        refine g_aload_n cx dX10_layAll_129 rfl ?_
        refine g_iconst cx dX10_layAll_130 ic_1 ?_
        refine g_iload_n cx dX10_layAll_131 rfl ?_
        refine g_iload_n cx dX10_layAll_132 rfl ?_
        refine g_aload_n cx dX10_layAll_133 rfl ?_
        refine g_getI cx lk_X10_335 rfl (Nat.le_of_ble_eq_true rfl) rfl dX10_layAll_134 (x := (I 155 17)) rfl ?_
        refine g_wVi cx [.int 1, .int y1, .int y2, .int (I 155 17)] [] (e_X10_howMany hP h) mt_X10_howMany ml_X10_365 rfl rfl rfl dX10_layAll_137 rfl rfl (Nat.le_of_ble_eq_true rfl) (Nat.le_of_ble_eq_true rfl) (Nat.le_of_ble_eq_true rfl) (fun v5 I5 P5 hP h => ?_)
        refine g_if_le cx (tgt := 157) dX10_layAll_140 rfl (fun c6 => ?_) (fun c6 => ?_)
        · have h := zifp c6 h
          refine g_iinc cx (v := (y2 + 1)) dX10_layAll_157 rfl rfl (Nat.le_of_ble_eq_true rfl) (Gx.L [.ref 155, .int y1, .int (y2 + 1)] rfl ?_)
          refine g_goto cx (tgt := 104) dX10_layAll_160 rfl ?_
          exact ih _ _ _ _ hP h
        · have h := zifn c6 h
          refine g_aload_n cx dX10_layAll_143 rfl ?_
          refine g_iload_n cx dX10_layAll_144 rfl ?_
          refine g_iconst cx dX10_layAll_145 ic_1 ?_
          refine g_iload_n cx dX10_layAll_146 rfl ?_
          refine g_aload_n cx dX10_layAll_147 rfl ?_
          refine g_iload_n cx dX10_layAll_148 rfl ?_
          refine g_iload_n cx dX10_layAll_149 rfl ?_
          refine g_iconst cx dX10_layAll_150 ic_0 ?_
          refine g_wVi cx [.int y1, .int y2, .int 0] [.int y2, .int 1, .int y1, .ref 155] (e_X10_leads hP h) mt_X10_leads ml_X10_271 rfl rfl rfl dX10_layAll_151 rfl rfl (Nat.le_of_ble_eq_true rfl) (Nat.le_of_ble_eq_true rfl) (Nat.le_of_ble_eq_true rfl) (fun v7 I7 P7 hP h => ?_)
          refine g_wVv cx [.int y1, .int 1, .int y2, .int v7] [] (e_X10_pad hP h) mt_X10_pad ml_X10_369 rfl rfl rfl dX10_layAll_154 rfl rfl (Nat.le_of_ble_eq_true rfl) (Nat.le_of_ble_eq_true rfl) (Nat.le_of_ble_eq_true rfl) (fun I8 P8 hP h => ?_)
          refine g_iinc cx (v := (y2 + 1)) dX10_layAll_157 rfl rfl (Nat.le_of_ble_eq_true rfl) (Gx.L [.ref 155, .int y1, .int (y2 + 1)] rfl ?_)
          refine g_goto cx (tgt := 104) dX10_layAll_160 rfl ?_
          exact ih _ _ _ _ hP h
def l_X10_layAll_50 (K : zI → zP → Prop) : Nat → Int32 → Int32 → zI → zP → Prop
  | 0, _, _, _, _ => False
  | n + 1, y1, y2, I, P => vp_in y1 6 ∧ (if (I 159 ((y1).toNatClampNeg)) ≤ y2 then (vp_in y1 6 ∧ (vp_in (I 159 ((y1).toNatClampNeg)) 401 ∧ (∃ n9, l_X10_layAll_104 K n9 y1 0 (zu I 191 (((I 159 ((y1).toNatClampNeg))).toNatClampNeg) (I 155 42)) P))) else (vp_in ((400 * y1) + y2) 2400 ∧ (if (I 166 ((((400 * y1) + y2)).toNatClampNeg)) = 0 then ((l_X10_layAll_50 K n) y1 (y2 + 1) I P) else (w_X10_group y1 y2 I P (fun (I7 : zI) (P7 : zP) => ((l_X10_layAll_50 K n) y1 (y2 + 1) I7 P7))))))
theorem gl_X10_layAll_50 {κ : zX} (cx : Cx yX10_layAll cX10_layAll 3 none 5 125 κ) {K : zI → zP → Prop} (hE : zEnd (zKv K) 0 0 κ) : ∀ (n : Nat) (y1 : Int32) (y2 : Int32) (I : zI) (P : zP), PSt P → l_X10_layAll_50 K n y1 y2 I P → Gx κ 50 [.ref 155, .int y1, .int y2] [] SHy I P 0 0 := by
  intro n
  induction n with
  | zero =>
    intro y1 y2 I P hP h
    rw [l_X10_layAll_50] at h
    exact False.elim h
  | succ n ih =>
    intro y1 y2 I P hP h
    rw [l_X10_layAll_50] at h
    refine g_iload_n cx dX10_layAll_50 rfl ?_
    refine g_aload_n cx dX10_layAll_51 rfl ?_
    refine g_getR cx lk_X10_23 rfl (Nat.le_of_ble_eq_true rfl) rfl dX10_layAll_52 (v := 159) (pst hP 158 rfl) ?_
    refine g_iload_n cx dX10_layAll_55 rfl ?_
    obtain ⟨hc1, h⟩ := h
    refine g_iald cx dX10_layAll_56 rfl hc1 (x := (I 159 ((y1).toNatClampNeg))) rfl ?_
    refine g_icmp_ge cx (tgt := 87) dX10_layAll_57 rfl (fun c2 => ?_) (fun c2 => ?_)
    · have h := zifp c2 h
      refine g_aload_n cx dX10_layAll_87 rfl ?_
      refine g_getR cx lk_X10_120 rfl (Nat.le_of_ble_eq_true rfl) rfl dX10_layAll_88 (v := 191) (pst hP 190 rfl) ?_
      refine g_aload_n cx dX10_layAll_91 rfl ?_
      refine g_getR cx lk_X10_23 rfl (Nat.le_of_ble_eq_true rfl) rfl dX10_layAll_92 (v := 159) (pst hP 158 rfl) ?_
      refine g_iload_n cx dX10_layAll_95 rfl ?_
      obtain ⟨hc3, h⟩ := h
      refine g_iald cx dX10_layAll_96 rfl hc3 (x := (I 159 ((y1).toNatClampNeg))) rfl ?_
      refine g_aload_n cx dX10_layAll_97 rfl ?_
      refine g_getI cx lk_X10_341 rfl (Nat.le_of_ble_eq_true rfl) rfl dX10_layAll_98 (x := (I 155 42)) rfl ?_
      obtain ⟨hc4, h⟩ := h
      refine g_iast cx dX10_layAll_101 rfl hc4 ?_
      refine g_iconst cx dX10_layAll_102 ic_0 ?_
      refine g_istore_n cx dX10_layAll_103 (Nat.le_of_ble_eq_true rfl) (Gx.L [.ref 155, .int y1, .int 0] rfl ?_)
      obtain ⟨n9, h⟩ := h
      exact gl_X10_layAll_104 cx hE n9 _ _ _ _ hP h
    · have h := zifn c2 h
      refine g_aload_n cx dX10_layAll_60 rfl ?_
      refine g_getR cx lk_X10_44 rfl (Nat.le_of_ble_eq_true rfl) rfl dX10_layAll_61 (v := 166) (pst hP 165 rfl) ?_
      refine g_sipush cx dX10_layAll_64 sp_400 ?_
      refine g_iload_n cx dX10_layAll_67 rfl ?_
      refine g_imul cx dX10_layAll_68 ?_
      refine g_iload_n cx dX10_layAll_69 rfl ?_
      refine g_iadd cx dX10_layAll_70 ?_
      obtain ⟨hc5, h⟩ := h
      refine g_bald cx dX10_layAll_71 rfl hc5 (x := (I 166 ((((400 * y1) + y2)).toNatClampNeg))) rfl ?_
      refine g_if_eq cx (tgt := 81) dX10_layAll_72 rfl (fun c6 => ?_) (fun c6 => ?_)
      · have h := zifp c6 h
        refine g_iinc cx (v := (y2 + 1)) dX10_layAll_81 rfl rfl (Nat.le_of_ble_eq_true rfl) (Gx.L [.ref 155, .int y1, .int (y2 + 1)] rfl ?_)
        refine g_goto cx (tgt := 50) dX10_layAll_84 rfl ?_
        exact ih _ _ _ _ hP h
      · have h := zifn c6 h
        refine g_aload_n cx dX10_layAll_75 rfl ?_
        refine g_iload_n cx dX10_layAll_76 rfl ?_
        refine g_iload_n cx dX10_layAll_77 rfl ?_
        refine g_wVv cx [.int y1, .int y2] [] (e_X10_group hP h) mt_X10_group ml_X10_362 rfl rfl rfl dX10_layAll_78 rfl rfl (Nat.le_of_ble_eq_true rfl) (Nat.le_of_ble_eq_true rfl) (Nat.le_of_ble_eq_true rfl) (fun I7 P7 hP h => ?_)
        refine g_iinc cx (v := (y2 + 1)) dX10_layAll_81 rfl rfl (Nat.le_of_ble_eq_true rfl) (Gx.L [.ref 155, .int y1, .int (y2 + 1)] rfl ?_)
        refine g_goto cx (tgt := 50) dX10_layAll_84 rfl ?_
        exact ih _ _ _ _ hP h
def l_X10_layAll_12 (K : zI → zP → Prop) : Nat → Int32 → Int32 → zI → zP → Prop
  | 0, _, _, _, _ => False
  | n + 1, y1, y2, I, P => if (I 155 17) ≤ y2 then (∃ n9, l_X10_layAll_50 K n9 y1 0 I P) else (w_X10_stands y2 2 y1 0 (I 155 17) I P (fun (v2 : Int32) (I2 : zI) (P2 : zP) => (if v2 = 0 then ((l_X10_layAll_12 K n) y1 (y2 + 1) I2 P2) else (w_X10_probeOp 50 y2 I2 P2 (fun (I4 : zI) (P4 : zP) => ((l_X10_layAll_12 K n) y1 (y2 + 1) I4 P4))))))
theorem gl_X10_layAll_12 {κ : zX} (cx : Cx yX10_layAll cX10_layAll 3 none 5 125 κ) {K : zI → zP → Prop} (hE : zEnd (zKv K) 0 0 κ) : ∀ (n : Nat) (y1 : Int32) (y2 : Int32) (I : zI) (P : zP), PSt P → l_X10_layAll_12 K n y1 y2 I P → Gx κ 12 [.ref 155, .int y1, .int y2] [] SHy I P 0 0 := by
  intro n
  induction n with
  | zero =>
    intro y1 y2 I P hP h
    rw [l_X10_layAll_12] at h
    exact False.elim h
  | succ n ih =>
    intro y1 y2 I P hP h
    rw [l_X10_layAll_12] at h
    refine g_iload_n cx dX10_layAll_12 rfl ?_
    refine g_aload_n cx dX10_layAll_13 rfl ?_
    refine g_getI cx lk_X10_335 rfl (Nat.le_of_ble_eq_true rfl) rfl dX10_layAll_14 (x := (I 155 17)) rfl ?_
    refine g_icmp_ge cx (tgt := 48) dX10_layAll_17 rfl (fun c1 => ?_) (fun c1 => ?_)
    · have h := zifp c1 h
      refine g_iconst cx dX10_layAll_48 ic_0 ?_
      refine g_istore_n cx dX10_layAll_49 (Nat.le_of_ble_eq_true rfl) (Gx.L [.ref 155, .int y1, .int 0] rfl ?_)
      obtain ⟨n9, h⟩ := h
      exact gl_X10_layAll_50 cx hE n9 _ _ _ _ hP h
    · have h := zifn c1 h
      refine g_aload_n cx dX10_layAll_20 rfl ?_
      refine g_iload_n cx dX10_layAll_21 rfl ?_
      refine g_iconst cx dX10_layAll_22 ic_2 ?_
      refine g_iload_n cx dX10_layAll_23 rfl ?_
      refine g_iconst cx dX10_layAll_24 ic_0 ?_
      refine g_aload_n cx dX10_layAll_25 rfl ?_
      refine g_getI cx lk_X10_335 rfl (Nat.le_of_ble_eq_true rfl) rfl dX10_layAll_26 (x := (I 155 17)) rfl ?_
      refine g_wVi cx [.int y2, .int 2, .int y1, .int 0, .int (I 155 17)] [] (e_X10_stands hP h) mt_X10_stands ml_X10_338 rfl rfl rfl dX10_layAll_29 rfl rfl (Nat.le_of_ble_eq_true rfl) (Nat.le_of_ble_eq_true rfl) (Nat.le_of_ble_eq_true rfl) (fun v2 I2 P2 hP h => ?_)
      refine g_if_eq cx (tgt := 42) dX10_layAll_32 rfl (fun c3 => ?_) (fun c3 => ?_)
      · have h := zifp c3 h
        refine g_iinc cx (v := (y2 + 1)) dX10_layAll_42 rfl rfl (Nat.le_of_ble_eq_true rfl) (Gx.L [.ref 155, .int y1, .int (y2 + 1)] rfl ?_)
        refine g_goto cx (tgt := 12) dX10_layAll_45 rfl ?_
        exact ih _ _ _ _ hP h
      · have h := zifn c3 h
        refine g_aload_n cx dX10_layAll_35 rfl ?_
        refine g_bipush cx dX10_layAll_36 bp_50 ?_
        refine g_iload_n cx dX10_layAll_38 rfl ?_
        refine g_wVv cx [.int 50, .int y2] [] (e_X10_probeOp hP h) mt_X10_probeOp ml_X10_359 rfl rfl rfl dX10_layAll_39 rfl rfl (Nat.le_of_ble_eq_true rfl) (Nat.le_of_ble_eq_true rfl) (Nat.le_of_ble_eq_true rfl) (fun I4 P4 hP h => ?_)
        refine g_iinc cx (v := (y2 + 1)) dX10_layAll_42 rfl rfl (Nat.le_of_ble_eq_true rfl) (Gx.L [.ref 155, .int y1, .int (y2 + 1)] rfl ?_)
        refine g_goto cx (tgt := 12) dX10_layAll_45 rfl ?_
        exact ih _ _ _ _ hP h
def w_X10_layAll (x1 : Int32) (I : zI) (P : zP) (K : zI → zP → Prop) : Prop := ∃ n9, l_X10_layAll_12 K n9 x1 0 (zu (zu I 155 42 0) 155 47 0) P
theorem e_X10_layAll {x1 : Int32} {I : zI} {P : zP} {K : zI → zP → Prop} (hP : PSt P) (h : w_X10_layAll x1 I P K) : Ev yX10_layAll cX10_layAll 3 none 5 125 0 0 [.ref 155, .int x1] SHy I P (zKv K) := by
  refine Ev.start [.ref 155, .int x1, .float 0] pn_X10 rfl (Nat.le_of_ble_eq_true rfl) rfl (fun κ cx hE => ?_)
  unfold w_X10_layAll at h
  refine g_aload_n cx dX10_layAll_0 rfl ?_
  refine g_iconst cx dX10_layAll_1 ic_0 ?_
  refine g_pI cx lk_X10_341 rfl (Nat.le_of_ble_eq_true rfl) rfl dX10_layAll_2 fi_10_42 rfl rfl ?_
  refine g_aload_n cx dX10_layAll_5 rfl ?_
  refine g_iconst cx dX10_layAll_6 ic_0 ?_
  refine g_pI cx lk_X10_356 rfl (Nat.le_of_ble_eq_true rfl) rfl dX10_layAll_7 fi_10_47 rfl rfl ?_
  refine g_iconst cx dX10_layAll_10 ic_0 ?_
  refine g_istore_n cx dX10_layAll_11 (Nat.le_of_ble_eq_true rfl) (Gx.L [.ref 155, .int x1, .int 0] rfl ?_)
  obtain ⟨n9, h⟩ := h
  exact gl_X10_layAll_12 cx hE n9 _ _ _ _ hP h
def w_X10_leaves (I : zI) (P : zP) (K : zI → zP → Prop) : Prop := if ((I 155 54) - 1) = 0 then (K (zu (zu I 155 54 ((I 155 54) - 1)) 155 52 1) P) else (w_X10_isThrown (zu I 155 54 ((I 155 54) - 1)) P (fun (I2 : zI) (P2 : zP) => (K I2 P2)))
theorem e_X10_leaves {I : zI} {P : zP} {K : zI → zP → Prop} (hP : PSt P) (h : w_X10_leaves I P K) : Ev yX10_leaves cX10_leaves 1 none 4 96 0 0 [.ref 155] SHy I P (zKv K) := by
  refine Ev.start [.ref 155] pn_X10 rfl (Nat.le_of_ble_eq_true rfl) rfl (fun κ cx hE => ?_)
  unfold w_X10_leaves at h
  refine g_aload_n cx dX10_leaves_0 rfl ?_
  refine g_dup cx dX10_leaves_1 rfl ?_
  refine g_getI cx lk_X10_415 rfl (Nat.le_of_ble_eq_true rfl) rfl dX10_leaves_2 (x := (I 155 54)) rfl ?_
  refine g_iconst cx dX10_leaves_5 ic_1 ?_
  refine g_isub cx dX10_leaves_6 ?_
  refine g_pI cx lk_X10_415 rfl (Nat.le_of_ble_eq_true rfl) rfl dX10_leaves_7 fi_10_54 rfl rfl ?_
  refine g_aload_n cx dX10_leaves_10 rfl ?_
  refine g_getI cx lk_X10_415 rfl (Nat.le_of_ble_eq_true rfl) rfl dX10_leaves_11 (x := ((I 155 54) - 1)) rfl ?_
  refine g_if_ne cx (tgt := 25) dX10_leaves_14 rfl (fun c1 => ?_) (fun c1 => ?_)
  · have h := zifn c1 h
    refine g_aload_n cx dX10_leaves_25 rfl ?_
    refine g_wVv cx [] [] (e_X10_isThrown hP h) mt_X10_isThrown ml_X10_464 rfl rfl rfl dX10_leaves_26 rfl rfl (Nat.le_of_ble_eq_true rfl) (Nat.le_of_ble_eq_true rfl) (Nat.le_of_ble_eq_true rfl) (fun I2 P2 hP h => ?_)
    exact g_wv cx hE dX10_leaves_29 rfl hP h
  · have h := zifp c1 h
    refine g_aload_n cx dX10_leaves_17 rfl ?_
    refine g_iconst cx dX10_leaves_18 ic_1 ?_
    refine g_pI cx lk_X10_403 rfl (Nat.le_of_ble_eq_true rfl) rfl dX10_leaves_19 fi_10_52 rfl rfl ?_
    refine g_goto cx (tgt := 29) dX10_leaves_22 rfl ?_
    exact g_wv cx hE dX10_leaves_29 rfl hP h
def j_X10_passes_180 (K : zI → zP → Prop) (y1 : Int32) (y2 : Int32) (s0 : Int32) (I : zI) (P : zP) : Prop := if s0 = 0 then (K I P) else (w_X10_size y1 y2 I P (fun (v2 : Int32) (I2 : zI) (P2 : zP) => (w_X10_comes y1 (y2 + v2) I2 P2 (fun (I3 : zI) (P3 : zP) => (K I3 P3)))))
theorem gj_X10_passes_180 {κ : zX} (cx : Cx yX10_passes cX10_passes 5 none 4 92 κ) {K : zI → zP → Prop} (hE : zEnd (zKv K) 0 0 κ) {y1 : Int32} {y2 : Int32} {s0 : Int32} {I : zI} {P : zP} (hP : PSt P) (h : j_X10_passes_180 K y1 y2 s0 I P) : Gx κ 180 [.ref 155, .int y1, .int y2, .float 0, .float 0] [.int s0] SHy I P 0 0 := by
  unfold j_X10_passes_180 at h
  refine g_istore cx dX10_passes_180 (Nat.le_of_ble_eq_true rfl) (Gx.L [.ref 155, .int y1, .int y2, .float 0, .int s0] rfl ?_)
  refine g_iload cx dX10_passes_182 rfl ?_
  refine g_if_eq cx (tgt := 200) dX10_passes_184 rfl (fun c1 => ?_) (fun c1 => ?_)
  · have h := zifp c1 h
    exact g_wv cx hE dX10_passes_200 rfl hP h
  · have h := zifn c1 h
    refine g_aload_n cx dX10_passes_187 rfl ?_
    refine g_iload_n cx dX10_passes_188 rfl ?_
    refine g_iload_n cx dX10_passes_189 rfl ?_
    refine g_aload_n cx dX10_passes_190 rfl ?_
    refine g_iload_n cx dX10_passes_191 rfl ?_
    refine g_iload_n cx dX10_passes_192 rfl ?_
    refine g_wVi cx [.int y1, .int y2] [.int y2, .int y1, .ref 155] (e_X10_size hP h) mt_X10_size ml_X10_259 rfl rfl rfl dX10_passes_193 rfl rfl (Nat.le_of_ble_eq_true rfl) (Nat.le_of_ble_eq_true rfl) (Nat.le_of_ble_eq_true rfl) (fun v2 I2 P2 hP h => ?_)
    refine g_iadd cx dX10_passes_196 ?_
    refine g_wVv cx [.int y1, .int (y2 + v2)] [] (e_X10_comes hP h) mt_X10_comes ml_X10_285 rfl rfl rfl dX10_passes_197 rfl rfl (Nat.le_of_ble_eq_true rfl) (Nat.le_of_ble_eq_true rfl) (Nat.le_of_ble_eq_true rfl) (fun I3 P3 hP h => ?_)
    exact g_wv cx hE dX10_passes_200 rfl hP h
def j_X10_passes_179 (K : zI → zP → Prop) (y1 : Int32) (y2 : Int32) (I : zI) (P : zP) : Prop := j_X10_passes_180 K y1 y2 0 I P
theorem gj_X10_passes_179 {κ : zX} (cx : Cx yX10_passes cX10_passes 5 none 4 92 κ) {K : zI → zP → Prop} (hE : zEnd (zKv K) 0 0 κ) {y1 : Int32} {y2 : Int32} {I : zI} {P : zP} (hP : PSt P) (h : j_X10_passes_179 K y1 y2 I P) : Gx κ 179 [.ref 155, .int y1, .int y2, .float 0, .float 0] [] SHy I P 0 0 := by
  unfold j_X10_passes_179 at h
  refine g_iconst cx dX10_passes_179 ic_0 ?_
  exact gj_X10_passes_180 cx hE hP h
def l_X10_passes_115 (K : zI → zP → Prop) : Nat → Int32 → Int32 → Int32 → Int32 → zI → zP → Prop
  | 0, _, _, _, _, _, _ => False
  | n + 1, y1, y2, y3, y4, I, P => w_X10_jumps y1 y2 I P (fun (v1 : Int32) (I1 : zI) (P1 : zP) => (if v1 ≤ y4 then (if y3 = 20 then (j_X10_passes_179 K y1 y2 I1 P1) else (if y3 = 84 then (j_X10_passes_179 K y1 y2 I1 P1) else (if y3 = 33 then (j_X10_passes_179 K y1 y2 I1 P1) else (if y3 = 41 then (j_X10_passes_179 K y1 y2 I1 P1) else (if y3 = 42 then (j_X10_passes_179 K y1 y2 I1 P1) else (j_X10_passes_180 K y1 y2 1 I1 P1)))))) else (w_X10_leads y1 y2 y4 I1 P1 (fun (v8 : Int32) (I8 : zI) (P8 : zP) => (w_X10_comes y1 v8 I8 P8 (fun (I9 : zI) (P9 : zP) => ((l_X10_passes_115 K n) y1 y2 y3 (y4 + 1) I9 P9)))))))
theorem gl_X10_passes_115 {κ : zX} (cx : Cx yX10_passes cX10_passes 5 none 4 92 κ) {K : zI → zP → Prop} (hE : zEnd (zKv K) 0 0 κ) : ∀ (n : Nat) (y1 : Int32) (y2 : Int32) (y3 : Int32) (y4 : Int32) (I : zI) (P : zP), PSt P → l_X10_passes_115 K n y1 y2 y3 y4 I P → Gx κ 115 [.ref 155, .int y1, .int y2, .int y3, .int y4] [] SHy I P 0 0 := by
  intro n
  induction n with
  | zero =>
    intro y1 y2 y3 y4 I P hP h
    rw [l_X10_passes_115] at h
    exact False.elim h
  | succ n ih =>
    intro y1 y2 y3 y4 I P hP h
    rw [l_X10_passes_115] at h
    refine g_iload cx dX10_passes_115 rfl ?_
    refine g_aload_n cx dX10_passes_117 rfl ?_
    refine g_iload_n cx dX10_passes_118 rfl ?_
    refine g_iload_n cx dX10_passes_119 rfl ?_
    refine g_wVi cx [.int y1, .int y2] [.int y4] (e_X10_jumps hP h) mt_X10_jumps ml_X10_268 rfl rfl rfl dX10_passes_120 rfl rfl (Nat.le_of_ble_eq_true rfl) (Nat.le_of_ble_eq_true rfl) (Nat.le_of_ble_eq_true rfl) (fun v1 I1 P1 hP h => ?_)
    refine g_icmp_ge cx (tgt := 145) dX10_passes_123 rfl (fun c2 => ?_) (fun c2 => ?_)
    · have h := zifp c2 h
      refine g_iload_n cx dX10_passes_145 rfl ?_
      refine g_bipush cx dX10_passes_146 bp_20 ?_
      refine g_icmp_eq cx (tgt := 179) dX10_passes_148 rfl (fun c3 => ?_) (fun c3 => ?_)
      · have h := zifp c3 h
        refine (Gx.unset 3 (Gx.unset 4 (Gx.L [.ref 155, .int y1, .int y2, .float 0, .float 0] rfl ?_)))
        exact gj_X10_passes_179 cx hE hP h
      · have h := zifn c3 h
        refine g_iload_n cx dX10_passes_151 rfl ?_
        refine g_bipush cx dX10_passes_152 bp_84 ?_
        refine g_icmp_eq cx (tgt := 179) dX10_passes_154 rfl (fun c4 => ?_) (fun c4 => ?_)
        · have h := zifp c4 h
          refine (Gx.unset 3 (Gx.unset 4 (Gx.L [.ref 155, .int y1, .int y2, .float 0, .float 0] rfl ?_)))
          exact gj_X10_passes_179 cx hE hP h
        · have h := zifn c4 h
          refine g_iload_n cx dX10_passes_157 rfl ?_
          refine g_bipush cx dX10_passes_158 bp_33 ?_
          refine g_icmp_eq cx (tgt := 179) dX10_passes_160 rfl (fun c5 => ?_) (fun c5 => ?_)
          · have h := zifp c5 h
            refine (Gx.unset 3 (Gx.unset 4 (Gx.L [.ref 155, .int y1, .int y2, .float 0, .float 0] rfl ?_)))
            exact gj_X10_passes_179 cx hE hP h
          · have h := zifn c5 h
            refine g_iload_n cx dX10_passes_163 rfl ?_
            refine g_bipush cx dX10_passes_164 bp_41 ?_
            refine g_icmp_eq cx (tgt := 179) dX10_passes_166 rfl (fun c6 => ?_) (fun c6 => ?_)
            · have h := zifp c6 h
              refine (Gx.unset 3 (Gx.unset 4 (Gx.L [.ref 155, .int y1, .int y2, .float 0, .float 0] rfl ?_)))
              exact gj_X10_passes_179 cx hE hP h
            · have h := zifn c6 h
              refine g_iload_n cx dX10_passes_169 rfl ?_
              refine g_bipush cx dX10_passes_170 bp_42 ?_
              refine g_icmp_eq cx (tgt := 179) dX10_passes_172 rfl (fun c7 => ?_) (fun c7 => ?_)
              · have h := zifp c7 h
                refine (Gx.unset 3 (Gx.unset 4 (Gx.L [.ref 155, .int y1, .int y2, .float 0, .float 0] rfl ?_)))
                exact gj_X10_passes_179 cx hE hP h
              · have h := zifn c7 h
                refine g_iconst cx dX10_passes_175 ic_1 ?_
                refine g_goto cx (tgt := 180) dX10_passes_176 rfl ?_
                refine (Gx.unset 3 (Gx.unset 4 (Gx.L [.ref 155, .int y1, .int y2, .float 0, .float 0] rfl ?_)))
                exact gj_X10_passes_180 cx hE hP h
    · have h := zifn c2 h
      refine g_aload_n cx dX10_passes_126 rfl ?_
      refine g_iload_n cx dX10_passes_127 rfl ?_
      refine g_aload_n cx dX10_passes_128 rfl ?_
      refine g_iload_n cx dX10_passes_129 rfl ?_
      refine g_iload_n cx dX10_passes_130 rfl ?_
      refine g_iload cx dX10_passes_131 rfl ?_
      refine g_wVi cx [.int y1, .int y2, .int y4] [.int y1, .ref 155] (e_X10_leads hP h) mt_X10_leads ml_X10_271 rfl rfl rfl dX10_passes_133 rfl rfl (Nat.le_of_ble_eq_true rfl) (Nat.le_of_ble_eq_true rfl) (Nat.le_of_ble_eq_true rfl) (fun v8 I8 P8 hP h => ?_)
      refine g_wVv cx [.int y1, .int v8] [] (e_X10_comes hP h) mt_X10_comes ml_X10_285 rfl rfl rfl dX10_passes_136 rfl rfl (Nat.le_of_ble_eq_true rfl) (Nat.le_of_ble_eq_true rfl) (Nat.le_of_ble_eq_true rfl) (fun I9 P9 hP h => ?_)
      refine g_iinc cx (v := (y4 + 1)) dX10_passes_139 rfl rfl (Nat.le_of_ble_eq_true rfl) (Gx.L [.ref 155, .int y1, .int y2, .int y3, .int (y4 + 1)] rfl ?_)
      refine g_goto cx (tgt := 115) dX10_passes_142 rfl ?_
      exact ih _ _ _ _ _ _ hP h
def l_X10_passes_8 (K : zI → zP → Prop) : Nat → Int32 → Int32 → Int32 → zI → zP → Prop
  | 0, _, _, _, _, _ => False
  | n + 1, y1, y2, y3, I, P => vp_in y1 6 ∧ (if (I 161 ((y1).toNatClampNeg)) ≤ y3 then (w_X10_lay y1 y2 I P (fun (I3 : zI) (P3 : zP) => (vp_in ((400 * y1) + y2) 2400 ∧ (w_X10_effect y1 y2 (I3 160 ((((400 * y1) + y2)).toNatClampNeg)) I3 P3 (fun (I5 : zI) (P5 : zP) => (if (I5 155 38) = 0 then (K I5 P5) else (∃ n9, l_X10_passes_115 K n9 y1 y2 (I3 160 ((((400 * y1) + y2)).toNatClampNeg)) 0 I5 P5))))))) else (vp_in ((8 * y1) + y3) 48 ∧ (if y2 < (I 162 ((((8 * y1) + y3)).toNatClampNeg)) then ((l_X10_passes_8 K n) y1 y2 (y3 + 1) I P) else (vp_in ((8 * y1) + y3) 48 ∧ (if (I 163 ((((8 * y1) + y3)).toNatClampNeg)) ≤ y2 then ((l_X10_passes_8 K n) y1 y2 (y3 + 1) I P) else (vp_in 0 16 ∧ (vp_in ((8 * y1) + y3) 48 ∧ (w_X10_comes y1 ((zu (zu I 155 37 1) 188 ((0 : Int32).toNatClampNeg) 1) 164 ((((8 * y1) + y3)).toNatClampNeg)) (zu (zu I 155 37 1) 188 ((0 : Int32).toNatClampNeg) 1) P (fun (I13 : zI) (P13 : zP) => ((l_X10_passes_8 K n) y1 y2 (y3 + 1) I13 P13))))))))))
theorem gl_X10_passes_8 {κ : zX} (cx : Cx yX10_passes cX10_passes 5 none 4 92 κ) {K : zI → zP → Prop} (hE : zEnd (zKv K) 0 0 κ) : ∀ (n : Nat) (y1 : Int32) (y2 : Int32) (y3 : Int32) (I : zI) (P : zP), PSt P → l_X10_passes_8 K n y1 y2 y3 I P → Gx κ 8 [.ref 155, .int y1, .int y2, .int y3, .float 0] [] SHy I P 0 0 := by
  intro n
  induction n with
  | zero =>
    intro y1 y2 y3 I P hP h
    rw [l_X10_passes_8] at h
    exact False.elim h
  | succ n ih =>
    intro y1 y2 y3 I P hP h
    rw [l_X10_passes_8] at h
    refine g_iload_n cx dX10_passes_8 rfl ?_
    refine g_aload_n cx dX10_passes_9 rfl ?_
    refine g_getR cx lk_X10_29 rfl (Nat.le_of_ble_eq_true rfl) rfl dX10_passes_10 (v := 161) (pst hP 160 rfl) ?_
    refine g_iload_n cx dX10_passes_13 rfl ?_
    obtain ⟨hc1, h⟩ := h
    refine g_iald cx dX10_passes_14 rfl hc1 (x := (I 161 ((y1).toNatClampNeg))) rfl ?_
    refine g_icmp_ge cx (tgt := 78) dX10_passes_15 rfl (fun c2 => ?_) (fun c2 => ?_)
    · have h := zifp c2 h
      refine g_aload_n cx dX10_passes_78 rfl ?_
      refine g_iload_n cx dX10_passes_79 rfl ?_
      refine g_iload_n cx dX10_passes_80 rfl ?_
      refine g_wVv cx [.int y1, .int y2] [] (e_X10_lay hP h) mt_X10_lay ml_X10_295 rfl rfl rfl dX10_passes_81 rfl rfl (Nat.le_of_ble_eq_true rfl) (Nat.le_of_ble_eq_true rfl) (Nat.le_of_ble_eq_true rfl) (fun I3 P3 hP h => ?_)
      refine g_aload_n cx dX10_passes_84 rfl ?_
      refine g_getR cx lk_X10_26 rfl (Nat.le_of_ble_eq_true rfl) rfl dX10_passes_85 (v := 160) (pst hP 159 rfl) ?_
      refine g_sipush cx dX10_passes_88 sp_400 ?_
      refine g_iload_n cx dX10_passes_91 rfl ?_
      refine g_imul cx dX10_passes_92 ?_
      refine g_iload_n cx dX10_passes_93 rfl ?_
      refine g_iadd cx dX10_passes_94 ?_
      obtain ⟨hc4, h⟩ := h
      refine g_iald cx dX10_passes_95 rfl hc4 (x := (I3 160 ((((400 * y1) + y2)).toNatClampNeg))) rfl ?_
      refine g_istore_n cx dX10_passes_96 (Nat.le_of_ble_eq_true rfl) (Gx.L [.ref 155, .int y1, .int y2, .int (I3 160 ((((400 * y1) + y2)).toNatClampNeg)), .float 0] rfl ?_)
      refine g_aload_n cx dX10_passes_97 rfl ?_
      refine g_iload_n cx dX10_passes_98 rfl ?_
      refine g_iload_n cx dX10_passes_99 rfl ?_
      refine g_iload_n cx dX10_passes_100 rfl ?_
      refine g_wVv cx [.int y1, .int y2, .int (I3 160 ((((400 * y1) + y2)).toNatClampNeg))] [] (e_X10_effect hP h) mt_X10_effect ml_X10_298 rfl rfl rfl dX10_passes_101 rfl rfl (Nat.le_of_ble_eq_true rfl) (Nat.le_of_ble_eq_true rfl) (Nat.le_of_ble_eq_true rfl) (fun I5 P5 hP h => ?_)
      refine g_aload_n cx dX10_passes_104 rfl ?_
      refine g_getI cx lk_X10_278 rfl (Nat.le_of_ble_eq_true rfl) rfl dX10_passes_105 (x := (I5 155 38)) rfl ?_
      refine g_if_ne cx (tgt := 112) dX10_passes_108 rfl (fun c6 => ?_) (fun c6 => ?_)
      · have h := zifn c6 h
        refine g_iconst cx dX10_passes_112 ic_0 ?_
        refine g_istore cx dX10_passes_113 (Nat.le_of_ble_eq_true rfl) (Gx.L [.ref 155, .int y1, .int y2, .int (I3 160 ((((400 * y1) + y2)).toNatClampNeg)), .int 0] rfl ?_)
        obtain ⟨n9, h⟩ := h
        exact gl_X10_passes_115 cx hE n9 _ _ _ _ _ _ hP h
      · have h := zifp c6 h
        exact g_wv cx hE dX10_passes_111 rfl hP h
    · have h := zifn c2 h
      refine g_bipush cx dX10_passes_18 bp_8 ?_
      refine g_iload_n cx dX10_passes_20 rfl ?_
      refine g_imul cx dX10_passes_21 ?_
      refine g_iload_n cx dX10_passes_22 rfl ?_
      refine g_iadd cx dX10_passes_23 ?_
      refine g_istore cx dX10_passes_24 (Nat.le_of_ble_eq_true rfl) (Gx.L [.ref 155, .int y1, .int y2, .int y3, .int ((8 * y1) + y3)] rfl ?_)
      refine g_aload_n cx dX10_passes_26 rfl ?_
      refine g_getR cx lk_X10_32 rfl (Nat.le_of_ble_eq_true rfl) rfl dX10_passes_27 (v := 162) (pst hP 161 rfl) ?_
      refine g_iload cx dX10_passes_30 rfl ?_
      obtain ⟨hc7, h⟩ := h
      refine g_iald cx dX10_passes_32 rfl hc7 (x := (I 162 ((((8 * y1) + y3)).toNatClampNeg))) rfl ?_
      refine g_iload_n cx dX10_passes_33 rfl ?_
      refine g_icmp_gt cx (tgt := 72) dX10_passes_34 rfl (fun c8 => ?_) (fun c8 => ?_)
      · have h := zifp c8 h
        refine g_iinc cx (v := (y3 + 1)) dX10_passes_72 rfl rfl (Nat.le_of_ble_eq_true rfl) (Gx.L [.ref 155, .int y1, .int y2, .int (y3 + 1), .int ((8 * y1) + y3)] rfl ?_)
        refine g_goto cx (tgt := 8) dX10_passes_75 rfl ?_
        refine (Gx.unset 4 (Gx.L [.ref 155, .int y1, .int y2, .int (y3 + 1), .float 0] rfl ?_))
        exact ih _ _ _ _ _ hP h
      · have h := zifn c8 h
        refine g_iload_n cx dX10_passes_37 rfl ?_
        refine g_aload_n cx dX10_passes_38 rfl ?_
        refine g_getR cx lk_X10_35 rfl (Nat.le_of_ble_eq_true rfl) rfl dX10_passes_39 (v := 163) (pst hP 162 rfl) ?_
        refine g_iload cx dX10_passes_42 rfl ?_
        obtain ⟨hc9, h⟩ := h
        refine g_iald cx dX10_passes_44 rfl hc9 (x := (I 163 ((((8 * y1) + y3)).toNatClampNeg))) rfl ?_
        refine g_icmp_ge cx (tgt := 72) dX10_passes_45 rfl (fun c10 => ?_) (fun c10 => ?_)
        · have h := zifp c10 h
          refine g_iinc cx (v := (y3 + 1)) dX10_passes_72 rfl rfl (Nat.le_of_ble_eq_true rfl) (Gx.L [.ref 155, .int y1, .int y2, .int (y3 + 1), .int ((8 * y1) + y3)] rfl ?_)
          refine g_goto cx (tgt := 8) dX10_passes_75 rfl ?_
          refine (Gx.unset 4 (Gx.L [.ref 155, .int y1, .int y2, .int (y3 + 1), .float 0] rfl ?_))
          exact ih _ _ _ _ _ hP h
        · have h := zifn c10 h
          refine g_aload_n cx dX10_passes_48 rfl ?_
          refine g_iconst cx dX10_passes_49 ic_1 ?_
          refine g_pI cx lk_X10_282 rfl (Nat.le_of_ble_eq_true rfl) rfl dX10_passes_50 fi_10_37 rfl rfl ?_
          refine g_aload_n cx dX10_passes_53 rfl ?_
          refine g_getR cx lk_X10_111 rfl (Nat.le_of_ble_eq_true rfl) rfl dX10_passes_54 (v := 188) (pst hP 187 rfl) ?_
          refine g_iconst cx dX10_passes_57 ic_0 ?_
          refine g_iconst cx dX10_passes_58 ic_1 ?_
          obtain ⟨hc11, h⟩ := h
          refine g_iast cx dX10_passes_59 rfl hc11 ?_
          refine g_aload_n cx dX10_passes_60 rfl ?_
          refine g_iload_n cx dX10_passes_61 rfl ?_
          refine g_aload_n cx dX10_passes_62 rfl ?_
          refine g_getR cx lk_X10_38 rfl (Nat.le_of_ble_eq_true rfl) rfl dX10_passes_63 (v := 164) (pst hP 163 rfl) ?_
          refine g_iload cx dX10_passes_66 rfl ?_
          obtain ⟨hc12, h⟩ := h
          refine g_iald cx dX10_passes_68 rfl hc12 (x := ((zu (zu I 155 37 1) 188 ((0 : Int32).toNatClampNeg) 1) 164 ((((8 * y1) + y3)).toNatClampNeg))) rfl ?_
          refine g_wVv cx [.int y1, .int ((zu (zu I 155 37 1) 188 ((0 : Int32).toNatClampNeg) 1) 164 ((((8 * y1) + y3)).toNatClampNeg))] [] (e_X10_comes hP h) mt_X10_comes ml_X10_285 rfl rfl rfl dX10_passes_69 rfl rfl (Nat.le_of_ble_eq_true rfl) (Nat.le_of_ble_eq_true rfl) (Nat.le_of_ble_eq_true rfl) (fun I13 P13 hP h => ?_)
          refine g_iinc cx (v := (y3 + 1)) dX10_passes_72 rfl rfl (Nat.le_of_ble_eq_true rfl) (Gx.L [.ref 155, .int y1, .int y2, .int (y3 + 1), .int ((8 * y1) + y3)] rfl ?_)
          refine g_goto cx (tgt := 8) dX10_passes_75 rfl ?_
          refine (Gx.unset 4 (Gx.L [.ref 155, .int y1, .int y2, .int (y3 + 1), .float 0] rfl ?_))
          exact ih _ _ _ _ _ hP h
def w_X10_passes (x1 : Int32) (x2 : Int32) (I : zI) (P : zP) (K : zI → zP → Prop) : Prop := w_X10_lay x1 x2 I P (fun (I1 : zI) (P1 : zP) => (∃ n9, l_X10_passes_8 K n9 x1 x2 0 I1 P1))
theorem e_X10_passes {x1 : Int32} {x2 : Int32} {I : zI} {P : zP} {K : zI → zP → Prop} (hP : PSt P) (h : w_X10_passes x1 x2 I P K) : Ev yX10_passes cX10_passes 5 none 4 92 0 0 [.ref 155, .int x1, .int x2] SHy I P (zKv K) := by
  refine Ev.start [.ref 155, .int x1, .int x2, .float 0, .float 0] pn_X10 rfl (Nat.le_of_ble_eq_true rfl) rfl (fun κ cx hE => ?_)
  unfold w_X10_passes at h
  refine g_aload_n cx dX10_passes_0 rfl ?_
  refine g_iload_n cx dX10_passes_1 rfl ?_
  refine g_iload_n cx dX10_passes_2 rfl ?_
  refine g_wVv cx [.int x1, .int x2] [] (e_X10_lay hP h) mt_X10_lay ml_X10_295 rfl rfl rfl dX10_passes_3 rfl rfl (Nat.le_of_ble_eq_true rfl) (Nat.le_of_ble_eq_true rfl) (Nat.le_of_ble_eq_true rfl) (fun I1 P1 hP h => ?_)
  refine g_iconst cx dX10_passes_6 ic_0 ?_
  refine g_istore_n cx dX10_passes_7 (Nat.le_of_ble_eq_true rfl) (Gx.L [.ref 155, .int x1, .int x2, .int 0, .float 0] rfl ?_)
  obtain ⟨n9, h⟩ := h
  exact gl_X10_passes_8 cx hE n9 _ _ _ _ _ hP h
def l_X10_types_105 (X84 : Int32 → zI → zP → Prop) (K : Int32 → zI → zP → Prop) : Nat → Int32 → Int32 → zI → zP → Prop
  | 0, _, _, _, _ => False
  | n + 1, y1, y2, I, P => vp_in y1 6 ∧ (if (I 159 ((y1).toNatClampNeg)) ≤ y2 then (X84 y1 I P) else (vp_in ((400 * y1) + y2) 2400 ∧ (if (I 166 ((((400 * y1) + y2)).toNatClampNeg)) = 0 then ((l_X10_types_105 X84 K n) y1 (y2 + 1) I P) else (vp_in ((400 * y1) + y2) 2400 ∧ (if (I 167 ((((400 * y1) + y2)).toNatClampNeg)) < 0 then ((l_X10_types_105 X84 K n) y1 (y2 + 1) I P) else (if (I 155 38) = 0 then ((l_X10_types_105 X84 K n) y1 (y2 + 1) I P) else (w_X10_passes y1 y2 I P (fun (I8 : zI) (P8 : zP) => ((l_X10_types_105 X84 K n) y1 (y2 + 1) I8 P8)))))))))
theorem gl_X10_types_105 {κ : zX} (cx : Cx yX10_types cX10_types 3 (some .boolean) 5 116 κ) {K : Int32 → zI → zP → Prop} (hE : zEnd (zKi K) 0 0 κ) {X84 : Int32 → zI → zP → Prop} (hX84 : ∀ (y1 : Int32) (I : zI) (P : zP), PSt P → X84 y1 I P → Gx κ 84 [.ref 155, .int y1, .float 0] [] SHy I P 0 0) : ∀ (n : Nat) (y1 : Int32) (y2 : Int32) (I : zI) (P : zP), PSt P → l_X10_types_105 X84 K n y1 y2 I P → Gx κ 105 [.ref 155, .int y1, .int y2] [] SHy I P 0 0 := by
  intro n
  induction n with
  | zero =>
    intro y1 y2 I P hP h
    rw [l_X10_types_105] at h
    exact False.elim h
  | succ n ih =>
    intro y1 y2 I P hP h
    rw [l_X10_types_105] at h
    refine g_iload_n cx dX10_types_105 rfl ?_
    refine g_aload_n cx dX10_types_106 rfl ?_
    refine g_getR cx lk_X10_23 rfl (Nat.le_of_ble_eq_true rfl) rfl dX10_types_107 (v := 159) (pst hP 158 rfl) ?_
    refine g_iload_n cx dX10_types_110 rfl ?_
    obtain ⟨hc1, h⟩ := h
    refine g_iald cx dX10_types_111 rfl hc1 (x := (I 159 ((y1).toNatClampNeg))) rfl ?_
    refine g_icmp_ge cx (tgt := 164) dX10_types_112 rfl (fun c2 => ?_) (fun c2 => ?_)
    · have h := zifp c2 h
      refine g_goto cx (tgt := 84) dX10_types_164 rfl ?_
      refine (Gx.unset 2 (Gx.L [.ref 155, .int y1, .float 0] rfl ?_))
      exact hX84 _ _ _ hP h
    · have h := zifn c2 h
      refine g_aload_n cx dX10_types_115 rfl ?_
      refine g_getR cx lk_X10_44 rfl (Nat.le_of_ble_eq_true rfl) rfl dX10_types_116 (v := 166) (pst hP 165 rfl) ?_
      refine g_sipush cx dX10_types_119 sp_400 ?_
      refine g_iload_n cx dX10_types_122 rfl ?_
      refine g_imul cx dX10_types_123 ?_
      refine g_iload_n cx dX10_types_124 rfl ?_
      refine g_iadd cx dX10_types_125 ?_
      obtain ⟨hc3, h⟩ := h
      refine g_bald cx dX10_types_126 rfl hc3 (x := (I 166 ((((400 * y1) + y2)).toNatClampNeg))) rfl ?_
      refine g_if_eq cx (tgt := 158) dX10_types_127 rfl (fun c4 => ?_) (fun c4 => ?_)
      · have h := zifp c4 h
        refine g_iinc cx (v := (y2 + 1)) dX10_types_158 rfl rfl (Nat.le_of_ble_eq_true rfl) (Gx.L [.ref 155, .int y1, .int (y2 + 1)] rfl ?_)
        refine g_goto cx (tgt := 105) dX10_types_161 rfl ?_
        exact ih _ _ _ _ hP h
      · have h := zifn c4 h
        refine g_aload_n cx dX10_types_130 rfl ?_
        refine g_getR cx lk_X10_48 rfl (Nat.le_of_ble_eq_true rfl) rfl dX10_types_131 (v := 167) (pst hP 166 rfl) ?_
        refine g_sipush cx dX10_types_134 sp_400 ?_
        refine g_iload_n cx dX10_types_137 rfl ?_
        refine g_imul cx dX10_types_138 ?_
        refine g_iload_n cx dX10_types_139 rfl ?_
        refine g_iadd cx dX10_types_140 ?_
        obtain ⟨hc5, h⟩ := h
        refine g_iald cx dX10_types_141 rfl hc5 (x := (I 167 ((((400 * y1) + y2)).toNatClampNeg))) rfl ?_
        refine g_if_lt cx (tgt := 158) dX10_types_142 rfl (fun c6 => ?_) (fun c6 => ?_)
        · have h := zifp c6 h
          refine g_iinc cx (v := (y2 + 1)) dX10_types_158 rfl rfl (Nat.le_of_ble_eq_true rfl) (Gx.L [.ref 155, .int y1, .int (y2 + 1)] rfl ?_)
          refine g_goto cx (tgt := 105) dX10_types_161 rfl ?_
          exact ih _ _ _ _ hP h
        · have h := zifn c6 h
          refine g_aload_n cx dX10_types_145 rfl ?_
          refine g_getI cx lk_X10_278 rfl (Nat.le_of_ble_eq_true rfl) rfl dX10_types_146 (x := (I 155 38)) rfl ?_
          refine g_if_eq cx (tgt := 158) dX10_types_149 rfl (fun c7 => ?_) (fun c7 => ?_)
          · have h := zifp c7 h
            refine g_iinc cx (v := (y2 + 1)) dX10_types_158 rfl rfl (Nat.le_of_ble_eq_true rfl) (Gx.L [.ref 155, .int y1, .int (y2 + 1)] rfl ?_)
            refine g_goto cx (tgt := 105) dX10_types_161 rfl ?_
            exact ih _ _ _ _ hP h
          · have h := zifn c7 h
            refine g_aload_n cx dX10_types_152 rfl ?_
            refine g_iload_n cx dX10_types_153 rfl ?_
            refine g_iload_n cx dX10_types_154 rfl ?_
            refine g_wVv cx [.int y1, .int y2] [] (e_X10_passes hP h) mt_X10_passes ml_X10_292 rfl rfl rfl dX10_types_155 rfl rfl (Nat.le_of_ble_eq_true rfl) (Nat.le_of_ble_eq_true rfl) (Nat.le_of_ble_eq_true rfl) (fun I8 P8 hP h => ?_)
            refine g_iinc cx (v := (y2 + 1)) dX10_types_158 rfl rfl (Nat.le_of_ble_eq_true rfl) (Gx.L [.ref 155, .int y1, .int (y2 + 1)] rfl ?_)
            refine g_goto cx (tgt := 105) dX10_types_161 rfl ?_
            exact ih _ _ _ _ hP h
def l_X10_types_84 (K : Int32 → zI → zP → Prop) : Nat → Int32 → zI → zP → Prop
  | 0, _, _, _ => False
  | n + 1, y1, I, P => if (I 155 39) = 0 then (zbo (I 155 38) ∧ (K (I 155 38) I P)) else (if (I 155 38) = 0 then (zbo (I 155 38) ∧ (K (I 155 38) I P)) else (∃ n9, l_X10_types_105 (l_X10_types_84 K n) K n9 y1 0 (zu I 155 39 0) P))
theorem gl_X10_types_84 {κ : zX} (cx : Cx yX10_types cX10_types 3 (some .boolean) 5 116 κ) {K : Int32 → zI → zP → Prop} (hE : zEnd (zKi K) 0 0 κ) : ∀ (n : Nat) (y1 : Int32) (I : zI) (P : zP), PSt P → l_X10_types_84 K n y1 I P → Gx κ 84 [.ref 155, .int y1, .float 0] [] SHy I P 0 0 := by
  intro n
  induction n with
  | zero =>
    intro y1 I P hP h
    rw [l_X10_types_84] at h
    exact False.elim h
  | succ n ih =>
    intro y1 I P hP h
    rw [l_X10_types_84] at h
    refine g_aload_n cx dX10_types_84 rfl ?_
    refine g_getI cx lk_X10_289 rfl (Nat.le_of_ble_eq_true rfl) rfl dX10_types_85 (x := (I 155 39)) rfl ?_
    refine g_if_eq cx (tgt := 167) dX10_types_88 rfl (fun c1 => ?_) (fun c1 => ?_)
    · have h := zifp c1 h
      refine g_aload_n cx dX10_types_167 rfl ?_
      refine g_getI cx lk_X10_278 rfl (Nat.le_of_ble_eq_true rfl) rfl dX10_types_168 (x := (I 155 38)) rfl ?_
      obtain ⟨hc2, h⟩ := h
      exact g_wi cx hE dX10_types_171 rfl (zbo_n hc2) hP h
    · have h := zifn c1 h
      refine g_aload_n cx dX10_types_91 rfl ?_
      refine g_getI cx lk_X10_278 rfl (Nat.le_of_ble_eq_true rfl) rfl dX10_types_92 (x := (I 155 38)) rfl ?_
      refine g_if_eq cx (tgt := 167) dX10_types_95 rfl (fun c3 => ?_) (fun c3 => ?_)
      · have h := zifp c3 h
        refine g_aload_n cx dX10_types_167 rfl ?_
        refine g_getI cx lk_X10_278 rfl (Nat.le_of_ble_eq_true rfl) rfl dX10_types_168 (x := (I 155 38)) rfl ?_
        obtain ⟨hc4, h⟩ := h
        exact g_wi cx hE dX10_types_171 rfl (zbo_n hc4) hP h
      · have h := zifn c3 h
        refine g_aload_n cx dX10_types_98 rfl ?_
        refine g_iconst cx dX10_types_99 ic_0 ?_
        refine g_pI cx lk_X10_289 rfl (Nat.le_of_ble_eq_true rfl) rfl dX10_types_100 fi_10_39 rfl rfl ?_
        refine g_iconst cx dX10_types_103 ic_0 ?_
        refine g_istore_n cx dX10_types_104 (Nat.le_of_ble_eq_true rfl) (Gx.L [.ref 155, .int y1, .int 0] rfl ?_)
        obtain ⟨n9, h⟩ := h
        exact gl_X10_types_105 cx hE ih n9 _ _ _ _ hP h
def l_X10_types_40 (K : Int32 → zI → zP → Prop) : Nat → Int32 → Int32 → zI → zP → Prop
  | 0, _, _, _, _ => False
  | n + 1, y1, y2, I, P => if 12 ≤ y2 then (w_X10_comes y1 0 I P (fun (I2 : zI) (P2 : zP) => (∃ n9, l_X10_types_84 K n9 y1 (zu I2 155 39 1) P2))) else (vp_in y1 6 ∧ (if (I 157 ((y1).toNatClampNeg)) ≤ y2 then (vp_in y2 12 ∧ ((l_X10_types_40 K n) y1 (y2 + 1) (zu I 187 ((y2).toNatClampNeg) 0) P)) else (vp_in y2 12 ∧ ((l_X10_types_40 K n) y1 (y2 + 1) (zu I 187 ((y2).toNatClampNeg) 1) P))))
theorem gl_X10_types_40 {κ : zX} (cx : Cx yX10_types cX10_types 3 (some .boolean) 5 116 κ) {K : Int32 → zI → zP → Prop} (hE : zEnd (zKi K) 0 0 κ) : ∀ (n : Nat) (y1 : Int32) (y2 : Int32) (I : zI) (P : zP), PSt P → l_X10_types_40 K n y1 y2 I P → Gx κ 40 [.ref 155, .int y1, .int y2] [] SHy I P 0 0 := by
  intro n
  induction n with
  | zero =>
    intro y1 y2 I P hP h
    rw [l_X10_types_40] at h
    exact False.elim h
  | succ n ih =>
    intro y1 y2 I P hP h
    rw [l_X10_types_40] at h
    refine g_iload_n cx dX10_types_40 rfl ?_
    refine g_bipush cx dX10_types_41 bp_12 ?_
    refine g_icmp_ge cx (tgt := 73) dX10_types_43 rfl (fun c1 => ?_) (fun c1 => ?_)
    · have h := zifp c1 h
      refine g_aload_n cx dX10_types_73 rfl ?_
      refine g_iload_n cx dX10_types_74 rfl ?_
      refine g_iconst cx dX10_types_75 ic_0 ?_
      refine g_wVv cx [.int y1, .int 0] [] (e_X10_comes hP h) mt_X10_comes ml_X10_285 rfl rfl rfl dX10_types_76 rfl rfl (Nat.le_of_ble_eq_true rfl) (Nat.le_of_ble_eq_true rfl) (Nat.le_of_ble_eq_true rfl) (fun I2 P2 hP h => ?_)
      refine g_aload_n cx dX10_types_79 rfl ?_
      refine g_iconst cx dX10_types_80 ic_1 ?_
      refine g_pI cx lk_X10_289 rfl (Nat.le_of_ble_eq_true rfl) rfl dX10_types_81 fi_10_39 rfl rfl ?_
      refine (Gx.unset 2 (Gx.L [.ref 155, .int y1, .float 0] rfl ?_))
      obtain ⟨n9, h⟩ := h
      exact gl_X10_types_84 cx hE n9 _ _ _ hP h
    · have h := zifn c1 h
      refine g_aload_n cx dX10_types_46 rfl ?_
      refine g_getR cx lk_X10_108 rfl (Nat.le_of_ble_eq_true rfl) rfl dX10_types_47 (v := 187) (pst hP 186 rfl) ?_
      refine g_iload_n cx dX10_types_50 rfl ?_
      refine g_iload_n cx dX10_types_51 rfl ?_
      refine g_aload_n cx dX10_types_52 rfl ?_
      refine g_getR cx lk_X10_17 rfl (Nat.le_of_ble_eq_true rfl) rfl dX10_types_53 (v := 157) (pst hP 156 rfl) ?_
      refine g_iload_n cx dX10_types_56 rfl ?_
      obtain ⟨hc3, h⟩ := h
      refine g_iald cx dX10_types_57 rfl hc3 (x := (I 157 ((y1).toNatClampNeg))) rfl ?_
      refine g_icmp_ge cx (tgt := 65) dX10_types_58 rfl (fun c4 => ?_) (fun c4 => ?_)
      · have h := zifp c4 h
        refine g_iconst cx dX10_types_65 ic_0 ?_
        obtain ⟨hc5, h⟩ := h
        refine g_iast cx dX10_types_66 rfl hc5 ?_
        refine g_iinc cx (v := (y2 + 1)) dX10_types_67 rfl rfl (Nat.le_of_ble_eq_true rfl) (Gx.L [.ref 155, .int y1, .int (y2 + 1)] rfl ?_)
        refine g_goto cx (tgt := 40) dX10_types_70 rfl ?_
        exact ih _ _ _ _ hP h
      · have h := zifn c4 h
        refine g_iconst cx dX10_types_61 ic_1 ?_
        refine g_goto cx (tgt := 66) dX10_types_62 rfl ?_
        obtain ⟨hc6, h⟩ := h
        refine g_iast cx dX10_types_66 rfl hc6 ?_
        refine g_iinc cx (v := (y2 + 1)) dX10_types_67 rfl rfl (Nat.le_of_ble_eq_true rfl) (Gx.L [.ref 155, .int y1, .int (y2 + 1)] rfl ?_)
        refine g_goto cx (tgt := 40) dX10_types_70 rfl ?_
        exact ih _ _ _ _ hP h
def l_X10_types_2 (K : Int32 → zI → zP → Prop) : Nat → Int32 → Int32 → zI → zP → Prop
  | 0, _, _, _, _ => False
  | n + 1, y1, y2, I, P => if 400 ≤ y2 then (∃ n9, l_X10_types_40 K n9 y1 0 (zu (zu I 155 38 1) 155 37 0) P) else (vp_in ((400 * y1) + y2) 2400 ∧ ((l_X10_types_2 K n) y1 (y2 + 1) (zu I 167 ((((400 * y1) + y2)).toNatClampNeg) (-1)) P))
theorem gl_X10_types_2 {κ : zX} (cx : Cx yX10_types cX10_types 3 (some .boolean) 5 116 κ) {K : Int32 → zI → zP → Prop} (hE : zEnd (zKi K) 0 0 κ) : ∀ (n : Nat) (y1 : Int32) (y2 : Int32) (I : zI) (P : zP), PSt P → l_X10_types_2 K n y1 y2 I P → Gx κ 2 [.ref 155, .int y1, .int y2] [] SHy I P 0 0 := by
  intro n
  induction n with
  | zero =>
    intro y1 y2 I P hP h
    rw [l_X10_types_2] at h
    exact False.elim h
  | succ n ih =>
    intro y1 y2 I P hP h
    rw [l_X10_types_2] at h
    refine g_iload_n cx dX10_types_2 rfl ?_
    refine g_sipush cx dX10_types_3 sp_400 ?_
    refine g_icmp_ge cx (tgt := 28) dX10_types_6 rfl (fun c1 => ?_) (fun c1 => ?_)
    · have h := zifp c1 h
      refine g_aload_n cx dX10_types_28 rfl ?_
      refine g_iconst cx dX10_types_29 ic_1 ?_
      refine g_pI cx lk_X10_278 rfl (Nat.le_of_ble_eq_true rfl) rfl dX10_types_30 fi_10_38 rfl rfl ?_
      refine g_aload_n cx dX10_types_33 rfl ?_
      refine g_iconst cx dX10_types_34 ic_0 ?_
      refine g_pI cx lk_X10_282 rfl (Nat.le_of_ble_eq_true rfl) rfl dX10_types_35 fi_10_37 rfl rfl ?_
      refine g_iconst cx dX10_types_38 ic_0 ?_
      refine g_istore_n cx dX10_types_39 (Nat.le_of_ble_eq_true rfl) (Gx.L [.ref 155, .int y1, .int 0] rfl ?_)
      obtain ⟨n9, h⟩ := h
      exact gl_X10_types_40 cx hE n9 _ _ _ _ hP h
    · have h := zifn c1 h
      refine g_aload_n cx dX10_types_9 rfl ?_
      refine g_getR cx lk_X10_48 rfl (Nat.le_of_ble_eq_true rfl) rfl dX10_types_10 (v := 167) (pst hP 166 rfl) ?_
      refine g_sipush cx dX10_types_13 sp_400 ?_
      refine g_iload_n cx dX10_types_16 rfl ?_
      refine g_imul cx dX10_types_17 ?_
      refine g_iload_n cx dX10_types_18 rfl ?_
      refine g_iadd cx dX10_types_19 ?_
      refine g_iconst cx dX10_types_20 ic_m1 ?_
      obtain ⟨hc2, h⟩ := h
      refine g_iast cx dX10_types_21 rfl hc2 ?_
      refine g_iinc cx (v := (y2 + 1)) dX10_types_22 rfl rfl (Nat.le_of_ble_eq_true rfl) (Gx.L [.ref 155, .int y1, .int (y2 + 1)] rfl ?_)
      refine g_goto cx (tgt := 2) dX10_types_25 rfl ?_
      exact ih _ _ _ _ hP h
def w_X10_types (x1 : Int32) (I : zI) (P : zP) (K : Int32 → zI → zP → Prop) : Prop := ∃ n9, l_X10_types_2 K n9 x1 0 I P
theorem e_X10_types {x1 : Int32} {I : zI} {P : zP} {K : Int32 → zI → zP → Prop} (hP : PSt P) (h : w_X10_types x1 I P K) : Ev yX10_types cX10_types 3 (some .boolean) 5 116 0 0 [.ref 155, .int x1] SHy I P (zKi K) := by
  refine Ev.start [.ref 155, .int x1, .float 0] pn_X10 rfl (Nat.le_of_ble_eq_true rfl) rfl (fun κ cx hE => ?_)
  unfold w_X10_types at h
  refine g_iconst cx dX10_types_0 ic_0 ?_
  refine g_istore_n cx dX10_types_1 (Nat.le_of_ble_eq_true rfl) (Gx.L [.ref 155, .int x1, .int 0] rfl ?_)
  obtain ⟨n9, h⟩ := h
  exact gl_X10_types_2 cx hE n9 _ _ _ _ hP h
def j_X10_wrongHandler_96 (X2 : Int32 → Int32 → zI → zP → Prop) (K : Int32 → zI → zP → Prop) (y1 : Int32) (y2 : Int32) (s0 : Int32) (I : zI) (P : zP) : Prop := if s0 = 0 then (vp_in y1 6 ∧ (K (((4 + (I 159 ((y1).toNatClampNeg))) + 1) + (7 * y2)) I P)) else (X2 y1 (y2 + 1) I P)
theorem gj_X10_wrongHandler_96 {κ : zX} (cx : Cx yX10_wrongHandler cX10_wrongHandler 5 (some .int) 2 44 κ) {K : Int32 → zI → zP → Prop} (hE : zEnd (zKi K) 0 0 κ) {X2 : Int32 → Int32 → zI → zP → Prop} (hX2 : ∀ (y1 : Int32) (y2 : Int32) (I : zI) (P : zP), PSt P → X2 y1 y2 I P → Gx κ 2 [.ref 155, .int y1, .int y2, .float 0, .float 0] [] SHy I P 0 0) {y1 : Int32} {y2 : Int32} {s0 : Int32} {I : zI} {P : zP} (hP : PSt P) (h : j_X10_wrongHandler_96 X2 K y1 y2 s0 I P) : Gx κ 96 [.ref 155, .int y1, .int y2, .float 0, .float 0] [.int s0] SHy I P 0 0 := by
  unfold j_X10_wrongHandler_96 at h
  refine g_istore cx dX10_wrongHandler_96 (Nat.le_of_ble_eq_true rfl) (Gx.L [.ref 155, .int y1, .int y2, .float 0, .int s0] rfl ?_)
  refine g_iload cx dX10_wrongHandler_98 rfl ?_
  refine g_if_ne cx (tgt := 119) dX10_wrongHandler_100 rfl (fun c1 => ?_) (fun c1 => ?_)
  · have h := zifn c1 h
    refine g_iinc cx (v := (y2 + 1)) dX10_wrongHandler_119 rfl rfl (Nat.le_of_ble_eq_true rfl) (Gx.L [.ref 155, .int y1, .int (y2 + 1), .float 0, .int s0] rfl ?_)
    refine g_goto cx (tgt := 2) dX10_wrongHandler_122 rfl ?_
    refine (Gx.unset 4 (Gx.L [.ref 155, .int y1, .int (y2 + 1), .float 0, .float 0] rfl ?_))
    exact hX2 _ _ _ _ hP h
  · have h := zifp c1 h
    refine g_iconst cx dX10_wrongHandler_103 ic_4 ?_
    refine g_aload_n cx dX10_wrongHandler_104 rfl ?_
    refine g_getR cx lk_X10_23 rfl (Nat.le_of_ble_eq_true rfl) rfl dX10_wrongHandler_105 (v := 159) (pst hP 158 rfl) ?_
    refine g_iload_n cx dX10_wrongHandler_108 rfl ?_
    obtain ⟨hc2, h⟩ := h
    refine g_iald cx dX10_wrongHandler_109 rfl hc2 (x := (I 159 ((y1).toNatClampNeg))) rfl ?_
    refine g_iadd cx dX10_wrongHandler_110 ?_
    refine g_iconst cx dX10_wrongHandler_111 ic_1 ?_
    refine g_iadd cx dX10_wrongHandler_112 ?_
    refine g_bipush cx dX10_wrongHandler_113 bp_7 ?_
    refine g_iload_n cx dX10_wrongHandler_115 rfl ?_
    refine g_imul cx dX10_wrongHandler_116 ?_
    refine g_iadd cx dX10_wrongHandler_117 ?_
    exact g_wi cx hE dX10_wrongHandler_118 rfl rfl hP h
def j_X10_wrongHandler_95 (X2 : Int32 → Int32 → zI → zP → Prop) (K : Int32 → zI → zP → Prop) (y1 : Int32) (y2 : Int32) (I : zI) (P : zP) : Prop := j_X10_wrongHandler_96 X2 K y1 y2 0 I P
theorem gj_X10_wrongHandler_95 {κ : zX} (cx : Cx yX10_wrongHandler cX10_wrongHandler 5 (some .int) 2 44 κ) {K : Int32 → zI → zP → Prop} (hE : zEnd (zKi K) 0 0 κ) {X2 : Int32 → Int32 → zI → zP → Prop} (hX2 : ∀ (y1 : Int32) (y2 : Int32) (I : zI) (P : zP), PSt P → X2 y1 y2 I P → Gx κ 2 [.ref 155, .int y1, .int y2, .float 0, .float 0] [] SHy I P 0 0) {y1 : Int32} {y2 : Int32} {I : zI} {P : zP} (hP : PSt P) (h : j_X10_wrongHandler_95 X2 K y1 y2 I P) : Gx κ 95 [.ref 155, .int y1, .int y2, .float 0, .float 0] [] SHy I P 0 0 := by
  unfold j_X10_wrongHandler_95 at h
  refine g_iconst cx dX10_wrongHandler_95 ic_0 ?_
  exact gj_X10_wrongHandler_96 cx hE hX2 hP h
def j_X10_wrongHandler_76 (X2 : Int32 → Int32 → zI → zP → Prop) (K : Int32 → zI → zP → Prop) (y1 : Int32) (y2 : Int32) (y3 : Int32) (I : zI) (P : zP) : Prop := vp_in y3 48 ∧ (vp_in y3 48 ∧ (if (I 163 ((y3).toNatClampNeg)) ≤ (I 162 ((y3).toNatClampNeg)) then (j_X10_wrongHandler_95 X2 K y1 y2 I P) else (j_X10_wrongHandler_96 X2 K y1 y2 1 I P)))
theorem gj_X10_wrongHandler_76 {κ : zX} (cx : Cx yX10_wrongHandler cX10_wrongHandler 5 (some .int) 2 44 κ) {K : Int32 → zI → zP → Prop} (hE : zEnd (zKi K) 0 0 κ) {X2 : Int32 → Int32 → zI → zP → Prop} (hX2 : ∀ (y1 : Int32) (y2 : Int32) (I : zI) (P : zP), PSt P → X2 y1 y2 I P → Gx κ 2 [.ref 155, .int y1, .int y2, .float 0, .float 0] [] SHy I P 0 0) {y1 : Int32} {y2 : Int32} {y3 : Int32} {I : zI} {P : zP} (hP : PSt P) (h : j_X10_wrongHandler_76 X2 K y1 y2 y3 I P) : Gx κ 76 [.ref 155, .int y1, .int y2, .int y3, .float 0] [] SHy I P 0 0 := by
  unfold j_X10_wrongHandler_76 at h
  refine g_aload_n cx dX10_wrongHandler_76 rfl ?_
  refine g_getR cx lk_X10_32 rfl (Nat.le_of_ble_eq_true rfl) rfl dX10_wrongHandler_77 (v := 162) (pst hP 161 rfl) ?_
  refine g_iload_n cx dX10_wrongHandler_80 rfl ?_
  obtain ⟨hc1, h⟩ := h
  refine g_iald cx dX10_wrongHandler_81 rfl hc1 (x := (I 162 ((y3).toNatClampNeg))) rfl ?_
  refine g_aload_n cx dX10_wrongHandler_82 rfl ?_
  refine g_getR cx lk_X10_35 rfl (Nat.le_of_ble_eq_true rfl) rfl dX10_wrongHandler_83 (v := 163) (pst hP 162 rfl) ?_
  refine g_iload_n cx dX10_wrongHandler_86 rfl ?_
  obtain ⟨hc2, h⟩ := h
  refine g_iald cx dX10_wrongHandler_87 rfl hc2 (x := (I 163 ((y3).toNatClampNeg))) rfl ?_
  refine g_icmp_ge cx (tgt := 95) dX10_wrongHandler_88 rfl (fun c3 => ?_) (fun c3 => ?_)
  · have h := zifp c3 h
    refine (Gx.unset 3 (Gx.L [.ref 155, .int y1, .int y2, .float 0, .float 0] rfl ?_))
    exact gj_X10_wrongHandler_95 cx hE hX2 hP h
  · have h := zifn c3 h
    refine g_iconst cx dX10_wrongHandler_91 ic_1 ?_
    refine g_goto cx (tgt := 96) dX10_wrongHandler_92 rfl ?_
    refine (Gx.unset 3 (Gx.L [.ref 155, .int y1, .int y2, .float 0, .float 0] rfl ?_))
    exact gj_X10_wrongHandler_96 cx hE hX2 hP h
def l_X10_wrongHandler_2 (K : Int32 → zI → zP → Prop) : Nat → Int32 → Int32 → zI → zP → Prop
  | 0, _, _, _, _ => False
  | n + 1, y1, y2, I, P => vp_in y1 6 ∧ (if (I 161 ((y1).toNatClampNeg)) ≤ y2 then (K (-1) I P) else (vp_in ((8 * y1) + y2) 48 ∧ (w_X10_isBegin y1 (I 162 ((((8 * y1) + y2)).toNatClampNeg)) I P (fun (v4 : Int32) (I4 : zI) (P4 : zP) => (if v4 = 0 then (j_X10_wrongHandler_95 (l_X10_wrongHandler_2 K n) K y1 y2 I4 P4) else (vp_in ((8 * y1) + y2) 48 ∧ (w_X10_isBegin y1 (I4 164 ((((8 * y1) + y2)).toNatClampNeg)) I4 P4 (fun (v7 : Int32) (I7 : zI) (P7 : zP) => (if v7 = 0 then (j_X10_wrongHandler_95 (l_X10_wrongHandler_2 K n) K y1 y2 I7 P7) else (vp_in ((8 * y1) + y2) 48 ∧ (vp_in y1 6 ∧ (if (I7 163 ((((8 * y1) + y2)).toNatClampNeg)) = (I7 159 ((y1).toNatClampNeg)) then (j_X10_wrongHandler_76 (l_X10_wrongHandler_2 K n) K y1 y2 ((8 * y1) + y2) I7 P7) else (vp_in ((8 * y1) + y2) 48 ∧ (w_X10_isBegin y1 (I7 163 ((((8 * y1) + y2)).toNatClampNeg)) I7 P7 (fun (v13 : Int32) (I13 : zI) (P13 : zP) => (if v13 = 0 then (j_X10_wrongHandler_95 (l_X10_wrongHandler_2 K n) K y1 y2 I13 P13) else (j_X10_wrongHandler_76 (l_X10_wrongHandler_2 K n) K y1 y2 ((8 * y1) + y2) I13 P13)))))))))))))))))
theorem gl_X10_wrongHandler_2 {κ : zX} (cx : Cx yX10_wrongHandler cX10_wrongHandler 5 (some .int) 2 44 κ) {K : Int32 → zI → zP → Prop} (hE : zEnd (zKi K) 0 0 κ) : ∀ (n : Nat) (y1 : Int32) (y2 : Int32) (I : zI) (P : zP), PSt P → l_X10_wrongHandler_2 K n y1 y2 I P → Gx κ 2 [.ref 155, .int y1, .int y2, .float 0, .float 0] [] SHy I P 0 0 := by
  intro n
  induction n with
  | zero =>
    intro y1 y2 I P hP h
    rw [l_X10_wrongHandler_2] at h
    exact False.elim h
  | succ n ih =>
    intro y1 y2 I P hP h
    rw [l_X10_wrongHandler_2] at h
    refine g_iload_n cx dX10_wrongHandler_2 rfl ?_
    refine g_aload_n cx dX10_wrongHandler_3 rfl ?_
    refine g_getR cx lk_X10_29 rfl (Nat.le_of_ble_eq_true rfl) rfl dX10_wrongHandler_4 (v := 161) (pst hP 160 rfl) ?_
    refine g_iload_n cx dX10_wrongHandler_7 rfl ?_
    obtain ⟨hc1, h⟩ := h
    refine g_iald cx dX10_wrongHandler_8 rfl hc1 (x := (I 161 ((y1).toNatClampNeg))) rfl ?_
    refine g_icmp_ge cx (tgt := 125) dX10_wrongHandler_9 rfl (fun c2 => ?_) (fun c2 => ?_)
    · have h := zifp c2 h
      refine g_iconst cx dX10_wrongHandler_125 ic_m1 ?_
      exact g_wi cx hE dX10_wrongHandler_126 rfl rfl hP h
    · have h := zifn c2 h
      refine g_bipush cx dX10_wrongHandler_12 bp_8 ?_
      refine g_iload_n cx dX10_wrongHandler_14 rfl ?_
      refine g_imul cx dX10_wrongHandler_15 ?_
      refine g_iload_n cx dX10_wrongHandler_16 rfl ?_
      refine g_iadd cx dX10_wrongHandler_17 ?_
      refine g_istore_n cx dX10_wrongHandler_18 (Nat.le_of_ble_eq_true rfl) (Gx.L [.ref 155, .int y1, .int y2, .int ((8 * y1) + y2), .float 0] rfl ?_)
      refine g_aload_n cx dX10_wrongHandler_19 rfl ?_
      refine g_iload_n cx dX10_wrongHandler_20 rfl ?_
      refine g_aload_n cx dX10_wrongHandler_21 rfl ?_
      refine g_getR cx lk_X10_32 rfl (Nat.le_of_ble_eq_true rfl) rfl dX10_wrongHandler_22 (v := 162) (pst hP 161 rfl) ?_
      refine g_iload_n cx dX10_wrongHandler_25 rfl ?_
      obtain ⟨hc3, h⟩ := h
      refine g_iald cx dX10_wrongHandler_26 rfl hc3 (x := (I 162 ((((8 * y1) + y2)).toNatClampNeg))) rfl ?_
      refine g_wVi cx [.int y1, .int (I 162 ((((8 * y1) + y2)).toNatClampNeg))] [] (e_X10_isBegin hP h) mt_X10_isBegin ml_X10_274 rfl rfl rfl dX10_wrongHandler_27 rfl rfl (Nat.le_of_ble_eq_true rfl) (Nat.le_of_ble_eq_true rfl) (Nat.le_of_ble_eq_true rfl) (fun v4 I4 P4 hP h => ?_)
      refine g_if_eq cx (tgt := 95) dX10_wrongHandler_30 rfl (fun c5 => ?_) (fun c5 => ?_)
      · have h := zifp c5 h
        refine (Gx.unset 3 (Gx.L [.ref 155, .int y1, .int y2, .float 0, .float 0] rfl ?_))
        exact gj_X10_wrongHandler_95 cx hE ih hP h
      · have h := zifn c5 h
        refine g_aload_n cx dX10_wrongHandler_33 rfl ?_
        refine g_iload_n cx dX10_wrongHandler_34 rfl ?_
        refine g_aload_n cx dX10_wrongHandler_35 rfl ?_
        refine g_getR cx lk_X10_38 rfl (Nat.le_of_ble_eq_true rfl) rfl dX10_wrongHandler_36 (v := 164) (pst hP 163 rfl) ?_
        refine g_iload_n cx dX10_wrongHandler_39 rfl ?_
        obtain ⟨hc6, h⟩ := h
        refine g_iald cx dX10_wrongHandler_40 rfl hc6 (x := (I4 164 ((((8 * y1) + y2)).toNatClampNeg))) rfl ?_
        refine g_wVi cx [.int y1, .int (I4 164 ((((8 * y1) + y2)).toNatClampNeg))] [] (e_X10_isBegin hP h) mt_X10_isBegin ml_X10_274 rfl rfl rfl dX10_wrongHandler_41 rfl rfl (Nat.le_of_ble_eq_true rfl) (Nat.le_of_ble_eq_true rfl) (Nat.le_of_ble_eq_true rfl) (fun v7 I7 P7 hP h => ?_)
        refine g_if_eq cx (tgt := 95) dX10_wrongHandler_44 rfl (fun c8 => ?_) (fun c8 => ?_)
        · have h := zifp c8 h
          refine (Gx.unset 3 (Gx.L [.ref 155, .int y1, .int y2, .float 0, .float 0] rfl ?_))
          exact gj_X10_wrongHandler_95 cx hE ih hP h
        · have h := zifn c8 h
          refine g_aload_n cx dX10_wrongHandler_47 rfl ?_
          refine g_getR cx lk_X10_35 rfl (Nat.le_of_ble_eq_true rfl) rfl dX10_wrongHandler_48 (v := 163) (pst hP 162 rfl) ?_
          refine g_iload_n cx dX10_wrongHandler_51 rfl ?_
          obtain ⟨hc9, h⟩ := h
          refine g_iald cx dX10_wrongHandler_52 rfl hc9 (x := (I7 163 ((((8 * y1) + y2)).toNatClampNeg))) rfl ?_
          refine g_aload_n cx dX10_wrongHandler_53 rfl ?_
          refine g_getR cx lk_X10_23 rfl (Nat.le_of_ble_eq_true rfl) rfl dX10_wrongHandler_54 (v := 159) (pst hP 158 rfl) ?_
          refine g_iload_n cx dX10_wrongHandler_57 rfl ?_
          obtain ⟨hc10, h⟩ := h
          refine g_iald cx dX10_wrongHandler_58 rfl hc10 (x := (I7 159 ((y1).toNatClampNeg))) rfl ?_
          refine g_icmp_eq cx (tgt := 76) dX10_wrongHandler_59 rfl (fun c11 => ?_) (fun c11 => ?_)
          · have h := zifp c11 h
            exact gj_X10_wrongHandler_76 cx hE ih hP h
          · have h := zifn c11 h
            refine g_aload_n cx dX10_wrongHandler_62 rfl ?_
            refine g_iload_n cx dX10_wrongHandler_63 rfl ?_
            refine g_aload_n cx dX10_wrongHandler_64 rfl ?_
            refine g_getR cx lk_X10_35 rfl (Nat.le_of_ble_eq_true rfl) rfl dX10_wrongHandler_65 (v := 163) (pst hP 162 rfl) ?_
            refine g_iload_n cx dX10_wrongHandler_68 rfl ?_
            obtain ⟨hc12, h⟩ := h
            refine g_iald cx dX10_wrongHandler_69 rfl hc12 (x := (I7 163 ((((8 * y1) + y2)).toNatClampNeg))) rfl ?_
            refine g_wVi cx [.int y1, .int (I7 163 ((((8 * y1) + y2)).toNatClampNeg))] [] (e_X10_isBegin hP h) mt_X10_isBegin ml_X10_274 rfl rfl rfl dX10_wrongHandler_70 rfl rfl (Nat.le_of_ble_eq_true rfl) (Nat.le_of_ble_eq_true rfl) (Nat.le_of_ble_eq_true rfl) (fun v13 I13 P13 hP h => ?_)
            refine g_if_eq cx (tgt := 95) dX10_wrongHandler_73 rfl (fun c14 => ?_) (fun c14 => ?_)
            · have h := zifp c14 h
              refine (Gx.unset 3 (Gx.L [.ref 155, .int y1, .int y2, .float 0, .float 0] rfl ?_))
              exact gj_X10_wrongHandler_95 cx hE ih hP h
            · have h := zifn c14 h
              exact gj_X10_wrongHandler_76 cx hE ih hP h
def w_X10_wrongHandler (x1 : Int32) (I : zI) (P : zP) (K : Int32 → zI → zP → Prop) : Prop := ∃ n9, l_X10_wrongHandler_2 K n9 x1 0 I P
theorem e_X10_wrongHandler {x1 : Int32} {I : zI} {P : zP} {K : Int32 → zI → zP → Prop} (hP : PSt P) (h : w_X10_wrongHandler x1 I P K) : Ev yX10_wrongHandler cX10_wrongHandler 5 (some .int) 2 44 0 0 [.ref 155, .int x1] SHy I P (zKi K) := by
  refine Ev.start [.ref 155, .int x1, .float 0, .float 0, .float 0] pn_X10 rfl (Nat.le_of_ble_eq_true rfl) rfl (fun κ cx hE => ?_)
  unfold w_X10_wrongHandler at h
  refine g_iconst cx dX10_wrongHandler_0 ic_0 ?_
  refine g_istore_n cx dX10_wrongHandler_1 (Nat.le_of_ble_eq_true rfl) (Gx.L [.ref 155, .int x1, .int 0, .float 0, .float 0] rfl ?_)
  obtain ⟨n9, h⟩ := h
  exact gl_X10_wrongHandler_2 cx hE n9 _ _ _ _ hP h
def l_X10_wrongJump_14 (X2 : Int32 → Int32 → zI → zP → Prop) (K : Int32 → zI → zP → Prop) : Nat → Int32 → Int32 → Int32 → zI → zP → Prop
  | 0, _, _, _, _, _ => False
  | n + 1, y1, y2, y3, I, P => vp_in ((400 * y1) + y2) 2400 ∧ (if (I 166 ((((400 * y1) + y2)).toNatClampNeg)) = 0 then (X2 y1 (y2 + 1) I P) else (w_X10_jumps y1 y2 I P (fun (v3 : Int32) (I3 : zI) (P3 : zP) => (if v3 ≤ y3 then (X2 y1 (y2 + 1) I3 P3) else (w_X10_leads y1 y2 y3 I3 P3 (fun (v5 : Int32) (I5 : zI) (P5 : zP) => (w_X10_isBegin y1 v5 I5 P5 (fun (v6 : Int32) (I6 : zI) (P6 : zP) => (if v6 = 0 then (K (4 + y2) I6 P6) else ((l_X10_wrongJump_14 X2 K n) y1 y2 (y3 + 1) I6 P6))))))))))
theorem gl_X10_wrongJump_14 {κ : zX} (cx : Cx yX10_wrongJump cX10_wrongJump 4 (some .int) 3 65 κ) {K : Int32 → zI → zP → Prop} (hE : zEnd (zKi K) 0 0 κ) {X2 : Int32 → Int32 → zI → zP → Prop} (hX2 : ∀ (y1 : Int32) (y2 : Int32) (I : zI) (P : zP), PSt P → X2 y1 y2 I P → Gx κ 2 [.ref 155, .int y1, .int y2, .float 0] [] SHy I P 0 0) : ∀ (n : Nat) (y1 : Int32) (y2 : Int32) (y3 : Int32) (I : zI) (P : zP), PSt P → l_X10_wrongJump_14 X2 K n y1 y2 y3 I P → Gx κ 14 [.ref 155, .int y1, .int y2, .int y3] [] SHy I P 0 0 := by
  intro n
  induction n with
  | zero =>
    intro y1 y2 y3 I P hP h
    rw [l_X10_wrongJump_14] at h
    exact False.elim h
  | succ n ih =>
    intro y1 y2 y3 I P hP h
    rw [l_X10_wrongJump_14] at h
    refine g_aload_n cx dX10_wrongJump_14 rfl ?_
    refine g_getR cx lk_X10_44 rfl (Nat.le_of_ble_eq_true rfl) rfl dX10_wrongJump_15 (v := 166) (pst hP 165 rfl) ?_
    refine g_sipush cx dX10_wrongJump_18 sp_400 ?_
    refine g_iload_n cx dX10_wrongJump_21 rfl ?_
    refine g_imul cx dX10_wrongJump_22 ?_
    refine g_iload_n cx dX10_wrongJump_23 rfl ?_
    refine g_iadd cx dX10_wrongJump_24 ?_
    obtain ⟨hc1, h⟩ := h
    refine g_bald cx dX10_wrongJump_25 rfl hc1 (x := (I 166 ((((400 * y1) + y2)).toNatClampNeg))) rfl ?_
    refine g_if_eq cx (tgt := 64) dX10_wrongJump_26 rfl (fun c2 => ?_) (fun c2 => ?_)
    · have h := zifp c2 h
      refine g_iinc cx (v := (y2 + 1)) dX10_wrongJump_64 rfl rfl (Nat.le_of_ble_eq_true rfl) (Gx.L [.ref 155, .int y1, .int (y2 + 1), .int y3] rfl ?_)
      refine g_goto cx (tgt := 2) dX10_wrongJump_67 rfl ?_
      refine (Gx.unset 3 (Gx.L [.ref 155, .int y1, .int (y2 + 1), .float 0] rfl ?_))
      exact hX2 _ _ _ _ hP h
    · have h := zifn c2 h
      refine g_iload_n cx dX10_wrongJump_29 rfl ?_
      refine g_aload_n cx dX10_wrongJump_30 rfl ?_
      refine g_iload_n cx dX10_wrongJump_31 rfl ?_
      refine g_iload_n cx dX10_wrongJump_32 rfl ?_
      refine g_wVi cx [.int y1, .int y2] [.int y3] (e_X10_jumps hP h) mt_X10_jumps ml_X10_268 rfl rfl rfl dX10_wrongJump_33 rfl rfl (Nat.le_of_ble_eq_true rfl) (Nat.le_of_ble_eq_true rfl) (Nat.le_of_ble_eq_true rfl) (fun v3 I3 P3 hP h => ?_)
      refine g_icmp_ge cx (tgt := 64) dX10_wrongJump_36 rfl (fun c4 => ?_) (fun c4 => ?_)
      · have h := zifp c4 h
        refine g_iinc cx (v := (y2 + 1)) dX10_wrongJump_64 rfl rfl (Nat.le_of_ble_eq_true rfl) (Gx.L [.ref 155, .int y1, .int (y2 + 1), .int y3] rfl ?_)
        refine g_goto cx (tgt := 2) dX10_wrongJump_67 rfl ?_
        refine (Gx.unset 3 (Gx.L [.ref 155, .int y1, .int (y2 + 1), .float 0] rfl ?_))
        exact hX2 _ _ _ _ hP h
      · have h := zifn c4 h
        refine g_aload_n cx dX10_wrongJump_39 rfl ?_
        refine g_iload_n cx dX10_wrongJump_40 rfl ?_
        refine g_aload_n cx dX10_wrongJump_41 rfl ?_
        refine g_iload_n cx dX10_wrongJump_42 rfl ?_
        refine g_iload_n cx dX10_wrongJump_43 rfl ?_
        refine g_iload_n cx dX10_wrongJump_44 rfl ?_
        refine g_wVi cx [.int y1, .int y2, .int y3] [.int y1, .ref 155] (e_X10_leads hP h) mt_X10_leads ml_X10_271 rfl rfl rfl dX10_wrongJump_45 rfl rfl (Nat.le_of_ble_eq_true rfl) (Nat.le_of_ble_eq_true rfl) (Nat.le_of_ble_eq_true rfl) (fun v5 I5 P5 hP h => ?_)
        refine g_wVi cx [.int y1, .int v5] [] (e_X10_isBegin hP h) mt_X10_isBegin ml_X10_274 rfl rfl rfl dX10_wrongJump_48 rfl rfl (Nat.le_of_ble_eq_true rfl) (Nat.le_of_ble_eq_true rfl) (Nat.le_of_ble_eq_true rfl) (fun v6 I6 P6 hP h => ?_)
        refine g_if_ne cx (tgt := 58) dX10_wrongJump_51 rfl (fun c7 => ?_) (fun c7 => ?_)
        · have h := zifn c7 h
          refine g_iinc cx (v := (y3 + 1)) dX10_wrongJump_58 rfl rfl (Nat.le_of_ble_eq_true rfl) (Gx.L [.ref 155, .int y1, .int y2, .int (y3 + 1)] rfl ?_)
          refine g_goto cx (tgt := 14) dX10_wrongJump_61 rfl ?_
          exact ih _ _ _ _ _ hP h
        · have h := zifp c7 h
          refine g_iconst cx dX10_wrongJump_54 ic_4 ?_
          refine g_iload_n cx dX10_wrongJump_55 rfl ?_
          refine g_iadd cx dX10_wrongJump_56 ?_
          exact g_wi cx hE dX10_wrongJump_57 rfl rfl hP h
def l_X10_wrongJump_2 (K : Int32 → zI → zP → Prop) : Nat → Int32 → Int32 → zI → zP → Prop
  | 0, _, _, _, _ => False
  | n + 1, y1, y2, I, P => vp_in y1 6 ∧ (if (I 159 ((y1).toNatClampNeg)) ≤ y2 then (K (-1) I P) else (∃ n9, l_X10_wrongJump_14 (l_X10_wrongJump_2 K n) K n9 y1 y2 0 I P))
theorem gl_X10_wrongJump_2 {κ : zX} (cx : Cx yX10_wrongJump cX10_wrongJump 4 (some .int) 3 65 κ) {K : Int32 → zI → zP → Prop} (hE : zEnd (zKi K) 0 0 κ) : ∀ (n : Nat) (y1 : Int32) (y2 : Int32) (I : zI) (P : zP), PSt P → l_X10_wrongJump_2 K n y1 y2 I P → Gx κ 2 [.ref 155, .int y1, .int y2, .float 0] [] SHy I P 0 0 := by
  intro n
  induction n with
  | zero =>
    intro y1 y2 I P hP h
    rw [l_X10_wrongJump_2] at h
    exact False.elim h
  | succ n ih =>
    intro y1 y2 I P hP h
    rw [l_X10_wrongJump_2] at h
    refine g_iload_n cx dX10_wrongJump_2 rfl ?_
    refine g_aload_n cx dX10_wrongJump_3 rfl ?_
    refine g_getR cx lk_X10_23 rfl (Nat.le_of_ble_eq_true rfl) rfl dX10_wrongJump_4 (v := 159) (pst hP 158 rfl) ?_
    refine g_iload_n cx dX10_wrongJump_7 rfl ?_
    obtain ⟨hc1, h⟩ := h
    refine g_iald cx dX10_wrongJump_8 rfl hc1 (x := (I 159 ((y1).toNatClampNeg))) rfl ?_
    refine g_icmp_ge cx (tgt := 70) dX10_wrongJump_9 rfl (fun c2 => ?_) (fun c2 => ?_)
    · have h := zifp c2 h
      refine g_iconst cx dX10_wrongJump_70 ic_m1 ?_
      exact g_wi cx hE dX10_wrongJump_71 rfl rfl hP h
    · have h := zifn c2 h
      refine g_iconst cx dX10_wrongJump_12 ic_0 ?_
      refine g_istore_n cx dX10_wrongJump_13 (Nat.le_of_ble_eq_true rfl) (Gx.L [.ref 155, .int y1, .int y2, .int 0] rfl ?_)
      obtain ⟨n9, h⟩ := h
      exact gl_X10_wrongJump_14 cx hE ih n9 _ _ _ _ _ hP h
def w_X10_wrongJump (x1 : Int32) (I : zI) (P : zP) (K : Int32 → zI → zP → Prop) : Prop := ∃ n9, l_X10_wrongJump_2 K n9 x1 0 I P
theorem e_X10_wrongJump {x1 : Int32} {I : zI} {P : zP} {K : Int32 → zI → zP → Prop} (hP : PSt P) (h : w_X10_wrongJump x1 I P K) : Ev yX10_wrongJump cX10_wrongJump 4 (some .int) 3 65 0 0 [.ref 155, .int x1] SHy I P (zKi K) := by
  refine Ev.start [.ref 155, .int x1, .float 0, .float 0] pn_X10 rfl (Nat.le_of_ble_eq_true rfl) rfl (fun κ cx hE => ?_)
  unfold w_X10_wrongJump at h
  refine g_iconst cx dX10_wrongJump_0 ic_0 ?_
  refine g_istore_n cx dX10_wrongJump_1 (Nat.le_of_ble_eq_true rfl) (Gx.L [.ref 155, .int x1, .int 0, .float 0] rfl ?_)
  obtain ⟨n9, h⟩ := h
  exact gl_X10_wrongJump_2 cx hE n9 _ _ _ _ hP h
def w_X10_make (I : zI) (P : zP) (K : Int32 → zI → zP → Prop) : Prop := if (I 155 3) = 6 then (K (-3) (zu (zu I 155 1 0) 155 2 (-1)) P) else (w_X10_form (I 155 3) (I 155 1) (zu (zu I 155 1 0) 155 2 (-1)) P (fun (v2 : Int32) (I2 : zI) (P2 : zP) => (if v2 = (-1) then (w_X10_wrongJump (I 155 3) I2 P2 (fun (v4 : Int32) (I4 : zI) (P4 : zP) => (if v4 = (-1) then (w_X10_wrongHandler (I 155 3) I4 P4 (fun (v6 : Int32) (I6 : zI) (P6 : zP) => (if v6 = (-1) then (w_X10_types (I 155 3) I6 P6 (fun (v8 : Int32) (I8 : zI) (P8 : zP) => (if v8 = 0 then (w_X10_fault 4 0 I8 P8 (fun (v11 : Int32) (I11 : zI) (P11 : zP) => (K v11 I11 P11))) else (vp_in (I 155 3) 6 ∧ (K (I 155 3) (zu (zu I8 175 (((I 155 3)).toNatClampNeg) (-1)) 155 3 (((zu I8 175 (((I 155 3)).toNatClampNeg) (-1)) 155 3) + 1)) P8))))) else (w_X10_fault 3 v6 I6 P6 (fun (v12 : Int32) (I12 : zI) (P12 : zP) => (K v12 I12 P12)))))) else (w_X10_fault 2 v4 I4 P4 (fun (v13 : Int32) (I13 : zI) (P13 : zP) => (K v13 I13 P13)))))) else (w_X10_fault 1 v2 I2 P2 (fun (v14 : Int32) (I14 : zI) (P14 : zP) => (K v14 I14 P14))))))
theorem e_X10_make {I : zI} {P : zP} {K : Int32 → zI → zP → Prop} (hP : PSt P) (h : w_X10_make I P K) : Ev yX10_make cX10_make 4 (some .int) 6 138 0 0 [.ref 155] SHy I P (zKi K) := by
  refine Ev.start [.ref 155, .float 0, .float 0, .float 0] pn_X10 rfl (Nat.le_of_ble_eq_true rfl) rfl (fun κ cx hE => ?_)
  unfold w_X10_make at h
  refine g_aload_n cx dX10_make_0 rfl ?_
  refine g_getI cx lk_X10_210 rfl (Nat.le_of_ble_eq_true rfl) rfl dX10_make_1 (x := (I 155 1)) rfl ?_
  refine g_istore_n cx dX10_make_4 (Nat.le_of_ble_eq_true rfl) (Gx.L [.ref 155, .int (I 155 1), .float 0, .float 0] rfl ?_)
  refine g_aload_n cx dX10_make_5 rfl ?_
  refine g_iconst cx dX10_make_6 ic_0 ?_
  refine g_pI cx lk_X10_210 rfl (Nat.le_of_ble_eq_true rfl) rfl dX10_make_7 fi_10_1 rfl rfl ?_
  refine g_aload_n cx dX10_make_10 rfl ?_
  refine g_iconst cx dX10_make_11 ic_m1 ?_
  refine g_pI cx lk_X10_13 rfl (Nat.le_of_ble_eq_true rfl) rfl dX10_make_12 fi_10_2 rfl rfl ?_
  refine g_aload_n cx dX10_make_15 rfl ?_
  refine g_getI cx lk_X10_237 rfl (Nat.le_of_ble_eq_true rfl) rfl dX10_make_16 (x := (I 155 3)) rfl ?_
  refine g_bipush cx dX10_make_19 bp_6 ?_
  refine g_icmp_ne cx (tgt := 27) dX10_make_21 rfl (fun c1 => ?_) (fun c1 => ?_)
  · have h := zifn c1 h
    refine g_aload_n cx dX10_make_27 rfl ?_
    refine g_getI cx lk_X10_237 rfl (Nat.le_of_ble_eq_true rfl) rfl dX10_make_28 (x := (I 155 3)) rfl ?_
    refine g_istore_n cx dX10_make_31 (Nat.le_of_ble_eq_true rfl) (Gx.L [.ref 155, .int (I 155 1), .int (I 155 3), .float 0] rfl ?_)
    refine g_aload_n cx dX10_make_32 rfl ?_
    refine g_iload_n cx dX10_make_33 rfl ?_
    refine g_iload_n cx dX10_make_34 rfl ?_
    refine g_wVi cx [.int (I 155 3), .int (I 155 1)] [] (e_X10_form hP h) mt_X10_form ml_X10_240 rfl rfl rfl dX10_make_35 rfl rfl (Nat.le_of_ble_eq_true rfl) (Nat.le_of_ble_eq_true rfl) (Nat.le_of_ble_eq_true rfl) (fun v2 I2 P2 hP h => ?_)
    refine g_istore_n cx dX10_make_38 (Nat.le_of_ble_eq_true rfl) (Gx.L [.ref 155, .int (I 155 1), .int (I 155 3), .int v2] rfl ?_)
    refine g_iload_n cx dX10_make_39 rfl ?_
    refine g_iconst cx dX10_make_40 ic_m1 ?_
    refine g_icmp_eq cx (tgt := 51) dX10_make_41 rfl (fun c3 => ?_) (fun c3 => ?_)
    · have h := zifp c3 h
      refine g_aload_n cx dX10_make_51 rfl ?_
      refine g_iload_n cx dX10_make_52 rfl ?_
      refine g_wVi cx [.int (I 155 3)] [] (e_X10_wrongJump hP h) mt_X10_wrongJump ml_X10_246 rfl rfl rfl dX10_make_53 rfl rfl (Nat.le_of_ble_eq_true rfl) (Nat.le_of_ble_eq_true rfl) (Nat.le_of_ble_eq_true rfl) (fun v4 I4 P4 hP h => ?_)
      refine g_istore_n cx dX10_make_56 (Nat.le_of_ble_eq_true rfl) (Gx.L [.ref 155, .int (I 155 1), .int (I 155 3), .int v4] rfl ?_)
      refine g_iload_n cx dX10_make_57 rfl ?_
      refine g_iconst cx dX10_make_58 ic_m1 ?_
      refine g_icmp_eq cx (tgt := 69) dX10_make_59 rfl (fun c5 => ?_) (fun c5 => ?_)
      · have h := zifp c5 h
        refine g_aload_n cx dX10_make_69 rfl ?_
        refine g_iload_n cx dX10_make_70 rfl ?_
        refine g_wVi cx [.int (I 155 3)] [] (e_X10_wrongHandler hP h) mt_X10_wrongHandler ml_X10_249 rfl rfl rfl dX10_make_71 rfl rfl (Nat.le_of_ble_eq_true rfl) (Nat.le_of_ble_eq_true rfl) (Nat.le_of_ble_eq_true rfl) (fun v6 I6 P6 hP h => ?_)
        refine g_istore_n cx dX10_make_74 (Nat.le_of_ble_eq_true rfl) (Gx.L [.ref 155, .int (I 155 1), .int (I 155 3), .int v6] rfl ?_)
        refine g_iload_n cx dX10_make_75 rfl ?_
        refine g_iconst cx dX10_make_76 ic_m1 ?_
        refine g_icmp_eq cx (tgt := 87) dX10_make_77 rfl (fun c7 => ?_) (fun c7 => ?_)
        · have h := zifp c7 h
          refine g_aload_n cx dX10_make_87 rfl ?_
          refine g_iload_n cx dX10_make_88 rfl ?_
          refine g_wVi cx [.int (I 155 3)] [] (e_X10_types hP h) mt_X10_types ml_X10_252 rfl rfl rfl dX10_make_89 rfl rfl (Nat.le_of_ble_eq_true rfl) (Nat.le_of_ble_eq_true rfl) (Nat.le_of_ble_eq_true rfl) (fun v8 I8 P8 hP h => ?_)
          refine g_if_ne cx (tgt := 102) dX10_make_92 rfl (fun c9 => ?_) (fun c9 => ?_)
          · have h := zifn c9 h
            refine g_aload_n cx dX10_make_102 rfl ?_
            refine g_getR cx lk_X10_72 rfl (Nat.le_of_ble_eq_true rfl) rfl dX10_make_103 (v := 175) (pst hP 174 rfl) ?_
            refine g_iload_n cx dX10_make_106 rfl ?_
            refine g_iconst cx dX10_make_107 ic_m1 ?_
            obtain ⟨hc10, h⟩ := h
            refine g_iast cx dX10_make_108 rfl hc10 ?_
            refine g_aload_n cx dX10_make_109 rfl ?_
            refine g_dup cx dX10_make_110 rfl ?_
            refine g_getI cx lk_X10_237 rfl (Nat.le_of_ble_eq_true rfl) rfl dX10_make_111 (x := ((zu I8 175 (((I 155 3)).toNatClampNeg) (-1)) 155 3)) rfl ?_
            refine g_iconst cx dX10_make_114 ic_1 ?_
            refine g_iadd cx dX10_make_115 ?_
            refine g_pI cx lk_X10_237 rfl (Nat.le_of_ble_eq_true rfl) rfl dX10_make_116 fi_10_3 rfl rfl ?_
            refine g_iload_n cx dX10_make_119 rfl ?_
            exact g_wi cx hE dX10_make_120 rfl rfl hP h
          · have h := zifp c9 h
            refine g_aload_n cx dX10_make_95 rfl ?_
            refine g_iconst cx dX10_make_96 ic_4 ?_
            refine g_iconst cx dX10_make_97 ic_0 ?_
            refine g_wVi cx [.int 4, .int 0] [] (e_X10_fault hP h) mt_X10_fault ml_X10_243 rfl rfl rfl dX10_make_98 rfl rfl (Nat.le_of_ble_eq_true rfl) (Nat.le_of_ble_eq_true rfl) (Nat.le_of_ble_eq_true rfl) (fun v11 I11 P11 hP h => ?_)
            exact g_wi cx hE dX10_make_101 rfl rfl hP h
        · have h := zifn c7 h
          refine g_aload_n cx dX10_make_80 rfl ?_
          refine g_iconst cx dX10_make_81 ic_3 ?_
          refine g_iload_n cx dX10_make_82 rfl ?_
          refine g_wVi cx [.int 3, .int v6] [] (e_X10_fault hP h) mt_X10_fault ml_X10_243 rfl rfl rfl dX10_make_83 rfl rfl (Nat.le_of_ble_eq_true rfl) (Nat.le_of_ble_eq_true rfl) (Nat.le_of_ble_eq_true rfl) (fun v12 I12 P12 hP h => ?_)
          exact g_wi cx hE dX10_make_86 rfl rfl hP h
      · have h := zifn c5 h
        refine g_aload_n cx dX10_make_62 rfl ?_
        refine g_iconst cx dX10_make_63 ic_2 ?_
        refine g_iload_n cx dX10_make_64 rfl ?_
        refine g_wVi cx [.int 2, .int v4] [] (e_X10_fault hP h) mt_X10_fault ml_X10_243 rfl rfl rfl dX10_make_65 rfl rfl (Nat.le_of_ble_eq_true rfl) (Nat.le_of_ble_eq_true rfl) (Nat.le_of_ble_eq_true rfl) (fun v13 I13 P13 hP h => ?_)
        exact g_wi cx hE dX10_make_68 rfl rfl hP h
    · have h := zifn c3 h
      refine g_aload_n cx dX10_make_44 rfl ?_
      refine g_iconst cx dX10_make_45 ic_1 ?_
      refine g_iload_n cx dX10_make_46 rfl ?_
      refine g_wVi cx [.int 1, .int v2] [] (e_X10_fault hP h) mt_X10_fault ml_X10_243 rfl rfl rfl dX10_make_47 rfl rfl (Nat.le_of_ble_eq_true rfl) (Nat.le_of_ble_eq_true rfl) (Nat.le_of_ble_eq_true rfl) (fun v14 I14 P14 hP h => ?_)
      exact g_wi cx hE dX10_make_50 rfl rfl hP h
  · have h := zifp c1 h
    refine g_bipush cx dX10_make_24 bp_m3 ?_
    exact g_wi cx hE dX10_make_26 rfl rfl hP h
def w_X10_mark (x1 : Int32) (x2 : Int32) (I : zI) (P : zP) (K : Int32 → zI → zP → Prop) : Prop := w_X10_isRun x1 I P (fun (v1 : Int32) (I1 : zI) (P1 : zP) => (if v1 = 0 then (K 0 I1 P1) else (vp_in x1 3 ∧ (w_X10_in x2 0 ((I1 211 ((x1).toNatClampNeg)) - 1) I1 P1 (fun (v4 : Int32) (I4 : zI) (P4 : zP) => (if v4 = 0 then (K 0 I4 P4) else (vp_in ((60 * x1) + x2) 180 ∧ (K (I4 217 ((((60 * x1) + x2)).toNatClampNeg)) I4 P4))))))))
theorem e_X10_mark {x1 : Int32} {x2 : Int32} {I : zI} {P : zP} {K : Int32 → zI → zP → Prop} (hP : PSt P) (h : w_X10_mark x1 x2 I P K) : Ev yX10_mark cX10_mark 3 (some .int) 2 43 0 0 [.ref 155, .int x1, .int x2] SHy I P (zKi K) := by
  refine Ev.start [.ref 155, .int x1, .int x2] pn_X10 rfl (Nat.le_of_ble_eq_true rfl) rfl (fun κ cx hE => ?_)
  unfold w_X10_mark at h
  refine g_aload_n cx dX10_mark_0 rfl ?_
  refine g_iload_n cx dX10_mark_1 rfl ?_
  refine g_wVi cx [.int x1] [] (e_X10_isRun hP h) mt_X10_isRun ml_X10_542 rfl rfl rfl dX10_mark_2 rfl rfl (Nat.le_of_ble_eq_true rfl) (Nat.le_of_ble_eq_true rfl) (Nat.le_of_ble_eq_true rfl) (fun v1 I1 P1 hP h => ?_)
  refine g_if_eq cx (tgt := 38) dX10_mark_5 rfl (fun c2 => ?_) (fun c2 => ?_)
  · have h := zifp c2 h
    refine g_iconst cx dX10_mark_38 ic_0 ?_
    exact g_wi cx hE dX10_mark_39 rfl rfl hP h
  · have h := zifn c2 h
    refine g_iload_n cx dX10_mark_8 rfl ?_
    refine g_iconst cx dX10_mark_9 ic_0 ?_
    refine g_aload_n cx dX10_mark_10 rfl ?_
    refine g_getR cx lk_X10_180 rfl (Nat.le_of_ble_eq_true rfl) rfl dX10_mark_11 (v := 211) (pst hP 210 rfl) ?_
    refine g_iload_n cx dX10_mark_14 rfl ?_
    obtain ⟨hc3, h⟩ := h
    refine g_iald cx dX10_mark_15 rfl hc3 (x := (I1 211 ((x1).toNatClampNeg))) rfl ?_
    refine g_iconst cx dX10_mark_16 ic_1 ?_
    refine g_isub cx dX10_mark_17 ?_
    refine g_wSi cx [.int x2, .int 0, .int ((I1 211 ((x1).toNatClampNeg)) - 1)] [] (e_X10_in hP h) mt_X10_in ml_X10_217 dX10_mark_18 rfl rfl (Nat.le_of_ble_eq_true rfl) (Nat.le_of_ble_eq_true rfl) (Nat.le_of_ble_eq_true rfl) (fun v4 I4 P4 hP h => ?_)
    refine g_if_eq cx (tgt := 38) dX10_mark_21 rfl (fun c5 => ?_) (fun c5 => ?_)
    · have h := zifp c5 h
      refine g_iconst cx dX10_mark_38 ic_0 ?_
      exact g_wi cx hE dX10_mark_39 rfl rfl hP h
    · have h := zifn c5 h
      refine g_aload_n cx dX10_mark_24 rfl ?_
      refine g_getR cx lk_X10_198 rfl (Nat.le_of_ble_eq_true rfl) rfl dX10_mark_25 (v := 217) (pst hP 216 rfl) ?_
      refine g_bipush cx dX10_mark_28 bp_60 ?_
      refine g_iload_n cx dX10_mark_30 rfl ?_
      refine g_imul cx dX10_mark_31 ?_
      refine g_iload_n cx dX10_mark_32 rfl ?_
      refine g_iadd cx dX10_mark_33 ?_
      obtain ⟨hc6, h⟩ := h
      refine g_iald cx dX10_mark_34 rfl hc6 (x := (I4 217 ((((60 * x1) + x2)).toNatClampNeg))) rfl ?_
      refine g_goto cx (tgt := 39) dX10_mark_35 rfl ?_
      exact g_wi cx hE dX10_mark_39 rfl rfl hP h
def w_X10_method (x1 : Int32) (x2 : Int32) (I : zI) (P : zP) (K : Int32 → zI → zP → Prop) : Prop := w_X10_isMethod x1 I P (fun (v1 : Int32) (I1 : zI) (P1 : zP) => (if v1 = 0 then (K (-2) I1 P1) else (w_X10_in x2 0 9 I1 P1 (fun (v3 : Int32) (I3 : zI) (P3 : zP) => (if v3 = 0 then (K (-2) I3 P3) else (if x2 = 0 then (vp_in x1 6 ∧ (K (I3 157 ((x1).toNatClampNeg)) I3 P3)) else (if x2 = 1 then (vp_in x1 6 ∧ (K (I3 158 ((x1).toNatClampNeg)) I3 P3)) else (if x2 = 2 then (vp_in x1 6 ∧ (K (I3 159 ((x1).toNatClampNeg)) I3 P3)) else (if x2 = 3 then (vp_in x1 6 ∧ (K (I3 161 ((x1).toNatClampNeg)) I3 P3)) else (if x2 = 4 then (if x2 = 5 then (w_X10_instructions x1 1 I3 P3 (fun (v16 : Int32) (I16 : zI) (P16 : zP) => (K v16 I16 P16))) else (w_X10_instructions x1 0 I3 P3 (fun (v15 : Int32) (I15 : zI) (P15 : zP) => (K v15 I15 P15)))) else (if x2 = 5 then (if x2 = 5 then (w_X10_instructions x1 1 I3 P3 (fun (v20 : Int32) (I20 : zI) (P20 : zP) => (K v20 I20 P20))) else (w_X10_instructions x1 0 I3 P3 (fun (v19 : Int32) (I19 : zI) (P19 : zP) => (K v19 I19 P19)))) else (w_X10_isWoven x1 I3 P3 (fun (v21 : Int32) (I21 : zI) (P21 : zP) => (if v21 = 0 then (K (-1) I21 P21) else (if x2 = 6 then (vp_in x1 6 ∧ (K (I21 177 ((x1).toNatClampNeg)) I21 P21)) else (if x2 = 7 then (vp_in x1 6 ∧ (K (I21 179 ((x1).toNatClampNeg)) I21 P21)) else (if x2 = 8 then (vp_in x1 6 ∧ (K (I21 185 ((x1).toNatClampNeg)) I21 P21)) else (vp_in x1 6 ∧ (K (I21 186 ((x1).toNatClampNeg)) I21 P21)))))))))))))))))))
theorem e_X10_method {x1 : Int32} {x2 : Int32} {I : zI} {P : zP} {K : Int32 → zI → zP → Prop} (hP : PSt P) (h : w_X10_method x1 x2 I P K) : Ev yX10_method cX10_method 3 (some .int) 2 43 0 0 [.ref 155, .int x1, .int x2] SHy I P (zKi K) := by
  refine Ev.start [.ref 155, .int x1, .int x2] pn_X10 rfl (Nat.le_of_ble_eq_true rfl) rfl (fun κ cx hE => ?_)
  unfold w_X10_method at h
  refine g_aload_n cx dX10_method_0 rfl ?_
  refine g_iload_n cx dX10_method_1 rfl ?_
  refine g_wVi cx [.int x1] [] (e_X10_isMethod hP h) mt_X10_isMethod ml_X10_318 rfl rfl rfl dX10_method_2 rfl rfl (Nat.le_of_ble_eq_true rfl) (Nat.le_of_ble_eq_true rfl) (Nat.le_of_ble_eq_true rfl) (fun v1 I1 P1 hP h => ?_)
  refine g_if_eq cx (tgt := 18) dX10_method_5 rfl (fun c2 => ?_) (fun c2 => ?_)
  · have h := zifp c2 h
    refine g_bipush cx dX10_method_18 bp_m2 ?_
    exact g_wi cx hE dX10_method_20 rfl rfl hP h
  · have h := zifn c2 h
    refine g_iload_n cx dX10_method_8 rfl ?_
    refine g_iconst cx dX10_method_9 ic_0 ?_
    refine g_bipush cx dX10_method_10 bp_9 ?_
    refine g_wSi cx [.int x2, .int 0, .int 9] [] (e_X10_in hP h) mt_X10_in ml_X10_217 dX10_method_12 rfl rfl (Nat.le_of_ble_eq_true rfl) (Nat.le_of_ble_eq_true rfl) (Nat.le_of_ble_eq_true rfl) (fun v3 I3 P3 hP h => ?_)
    refine g_if_ne cx (tgt := 21) dX10_method_15 rfl (fun c4 => ?_) (fun c4 => ?_)
    · have h := zifn c4 h
      refine g_iload_n cx dX10_method_21 rfl ?_
      by_cases c5 : x2 = 0
      · have h := zifp c5 h
        refine g_tabIn cx (tgt := 60) (off := 38) dX10_method_22 (by rw [c5]; decide) (by rw [c5]; decide) (by rw [c5]; rfl) rfl ?_
        refine g_aload_n cx dX10_method_60 rfl ?_
        refine g_getR cx lk_X10_17 rfl (Nat.le_of_ble_eq_true rfl) rfl dX10_method_61 (v := 157) (pst hP 156 rfl) ?_
        refine g_iload_n cx dX10_method_64 rfl ?_
        obtain ⟨hc6, h⟩ := h
        refine g_iald cx dX10_method_65 rfl hc6 (x := (I3 157 ((x1).toNatClampNeg))) rfl ?_
        exact g_wi cx hE dX10_method_66 rfl rfl hP h
      · have h := zifn c5 h
        by_cases c7 : x2 = 1
        · have h := zifp c7 h
          refine g_tabIn cx (tgt := 67) (off := 45) dX10_method_22 (by rw [c7]; decide) (by rw [c7]; decide) (by rw [c7]; rfl) rfl ?_
          refine g_aload_n cx dX10_method_67 rfl ?_
          refine g_getR cx lk_X10_20 rfl (Nat.le_of_ble_eq_true rfl) rfl dX10_method_68 (v := 158) (pst hP 157 rfl) ?_
          refine g_iload_n cx dX10_method_71 rfl ?_
          obtain ⟨hc8, h⟩ := h
          refine g_iald cx dX10_method_72 rfl hc8 (x := (I3 158 ((x1).toNatClampNeg))) rfl ?_
          exact g_wi cx hE dX10_method_73 rfl rfl hP h
        · have h := zifn c7 h
          by_cases c9 : x2 = 2
          · have h := zifp c9 h
            refine g_tabIn cx (tgt := 74) (off := 52) dX10_method_22 (by rw [c9]; decide) (by rw [c9]; decide) (by rw [c9]; rfl) rfl ?_
            refine g_aload_n cx dX10_method_74 rfl ?_
            refine g_getR cx lk_X10_23 rfl (Nat.le_of_ble_eq_true rfl) rfl dX10_method_75 (v := 159) (pst hP 158 rfl) ?_
            refine g_iload_n cx dX10_method_78 rfl ?_
            obtain ⟨hc10, h⟩ := h
            refine g_iald cx dX10_method_79 rfl hc10 (x := (I3 159 ((x1).toNatClampNeg))) rfl ?_
            exact g_wi cx hE dX10_method_80 rfl rfl hP h
          · have h := zifn c9 h
            by_cases c11 : x2 = 3
            · have h := zifp c11 h
              refine g_tabIn cx (tgt := 81) (off := 59) dX10_method_22 (by rw [c11]; decide) (by rw [c11]; decide) (by rw [c11]; rfl) rfl ?_
              refine g_aload_n cx dX10_method_81 rfl ?_
              refine g_getR cx lk_X10_29 rfl (Nat.le_of_ble_eq_true rfl) rfl dX10_method_82 (v := 161) (pst hP 160 rfl) ?_
              refine g_iload_n cx dX10_method_85 rfl ?_
              obtain ⟨hc12, h⟩ := h
              refine g_iald cx dX10_method_86 rfl hc12 (x := (I3 161 ((x1).toNatClampNeg))) rfl ?_
              exact g_wi cx hE dX10_method_87 rfl rfl hP h
            · have h := zifn c11 h
              by_cases c13 : x2 = 4
              · have h := zifp c13 h
                refine g_tabIn cx (tgt := 88) (off := 66) dX10_method_22 (by rw [c13]; decide) (by rw [c13]; decide) (by rw [c13]; rfl) rfl ?_
                refine g_aload_n cx dX10_method_88 rfl ?_
                refine g_iload_n cx dX10_method_89 rfl ?_
                refine g_iload_n cx dX10_method_90 rfl ?_
                refine g_iconst cx dX10_method_91 ic_5 ?_
                refine g_icmp_ne cx (tgt := 99) dX10_method_92 rfl (fun c14 => ?_) (fun c14 => ?_)
                · have h := zifn c14 h
                  refine g_iconst cx dX10_method_99 ic_0 ?_
                  refine g_wVi cx [.int x1, .int 0] [] (e_X10_instructions hP h) mt_X10_instructions ml_X10_321 rfl rfl rfl dX10_method_100 rfl rfl (Nat.le_of_ble_eq_true rfl) (Nat.le_of_ble_eq_true rfl) (Nat.le_of_ble_eq_true rfl) (fun v15 I15 P15 hP h => ?_)
                  exact g_wi cx hE dX10_method_103 rfl rfl hP h
                · have h := zifp c14 h
                  refine g_iconst cx dX10_method_95 ic_1 ?_
                  refine g_goto cx (tgt := 100) dX10_method_96 rfl ?_
                  refine g_wVi cx [.int x1, .int 1] [] (e_X10_instructions hP h) mt_X10_instructions ml_X10_321 rfl rfl rfl dX10_method_100 rfl rfl (Nat.le_of_ble_eq_true rfl) (Nat.le_of_ble_eq_true rfl) (Nat.le_of_ble_eq_true rfl) (fun v16 I16 P16 hP h => ?_)
                  exact g_wi cx hE dX10_method_103 rfl rfl hP h
              · have h := zifn c13 h
                by_cases c17 : x2 = 5
                · have h := zifp c17 h
                  refine g_tabIn cx (tgt := 88) (off := 66) dX10_method_22 (by rw [c17]; decide) (by rw [c17]; decide) (by rw [c17]; rfl) rfl ?_
                  refine g_aload_n cx dX10_method_88 rfl ?_
                  refine g_iload_n cx dX10_method_89 rfl ?_
                  refine g_iload_n cx dX10_method_90 rfl ?_
                  refine g_iconst cx dX10_method_91 ic_5 ?_
                  refine g_icmp_ne cx (tgt := 99) dX10_method_92 rfl (fun c18 => ?_) (fun c18 => ?_)
                  · have h := zifn c18 h
                    refine g_iconst cx dX10_method_99 ic_0 ?_
                    refine g_wVi cx [.int x1, .int 0] [] (e_X10_instructions hP h) mt_X10_instructions ml_X10_321 rfl rfl rfl dX10_method_100 rfl rfl (Nat.le_of_ble_eq_true rfl) (Nat.le_of_ble_eq_true rfl) (Nat.le_of_ble_eq_true rfl) (fun v19 I19 P19 hP h => ?_)
                    exact g_wi cx hE dX10_method_103 rfl rfl hP h
                  · have h := zifp c18 h
                    refine g_iconst cx dX10_method_95 ic_1 ?_
                    refine g_goto cx (tgt := 100) dX10_method_96 rfl ?_
                    refine g_wVi cx [.int x1, .int 1] [] (e_X10_instructions hP h) mt_X10_instructions ml_X10_321 rfl rfl rfl dX10_method_100 rfl rfl (Nat.le_of_ble_eq_true rfl) (Nat.le_of_ble_eq_true rfl) (Nat.le_of_ble_eq_true rfl) (fun v20 I20 P20 hP h => ?_)
                    exact g_wi cx hE dX10_method_103 rfl rfl hP h
                · have h := zifn c17 h
                  refine g_tabOut cx (tgt := 104) dX10_method_22 (by have q0 : (x2 : Int32).toInt ≠ 0 := i32ne c5; have q1 : (x2 : Int32).toInt ≠ 1 := i32ne c7; have q2 : (x2 : Int32).toInt ≠ 2 := i32ne c9; have q3 : (x2 : Int32).toInt ≠ 3 := i32ne c11; have q4 : (x2 : Int32).toInt ≠ 4 := i32ne c13; have q5 : (x2 : Int32).toInt ≠ 5 := i32ne c17; omega) rfl ?_
                  refine g_aload_n cx dX10_method_104 rfl ?_
                  refine g_iload_n cx dX10_method_105 rfl ?_
                  refine g_wVi cx [.int x1] [] (e_X10_isWoven hP h) mt_X10_isWoven ml_X10_325 rfl rfl rfl dX10_method_106 rfl rfl (Nat.le_of_ble_eq_true rfl) (Nat.le_of_ble_eq_true rfl) (Nat.le_of_ble_eq_true rfl) (fun v21 I21 P21 hP h => ?_)
                  refine g_if_ne cx (tgt := 114) dX10_method_109 rfl (fun c22 => ?_) (fun c22 => ?_)
                  · have h := zifn c22 h
                    refine g_iload_n cx dX10_method_114 rfl ?_
                    refine g_bipush cx dX10_method_115 bp_6 ?_
                    refine g_icmp_ne cx (tgt := 129) dX10_method_117 rfl (fun c23 => ?_) (fun c23 => ?_)
                    · have h := zifn c23 h
                      refine g_iload_n cx dX10_method_129 rfl ?_
                      refine g_bipush cx dX10_method_130 bp_7 ?_
                      refine g_icmp_ne cx (tgt := 144) dX10_method_132 rfl (fun c24 => ?_) (fun c24 => ?_)
                      · have h := zifn c24 h
                        refine g_iload_n cx dX10_method_144 rfl ?_
                        refine g_bipush cx dX10_method_145 bp_8 ?_
                        refine g_icmp_ne cx (tgt := 159) dX10_method_147 rfl (fun c25 => ?_) (fun c25 => ?_)
                        · have h := zifn c25 h
                          refine g_aload_n cx dX10_method_159 rfl ?_
                          refine g_getR cx lk_X10_105 rfl (Nat.le_of_ble_eq_true rfl) rfl dX10_method_160 (v := 186) (pst hP 185 rfl) ?_
                          refine g_iload_n cx dX10_method_163 rfl ?_
                          obtain ⟨hc26, h⟩ := h
                          refine g_iald cx dX10_method_164 rfl hc26 (x := (I21 186 ((x1).toNatClampNeg))) rfl ?_
                          exact g_wi cx hE dX10_method_165 rfl rfl hP h
                        · have h := zifp c25 h
                          refine g_aload_n cx dX10_method_150 rfl ?_
                          refine g_getR cx lk_X10_102 rfl (Nat.le_of_ble_eq_true rfl) rfl dX10_method_151 (v := 185) (pst hP 184 rfl) ?_
                          refine g_iload_n cx dX10_method_154 rfl ?_
                          obtain ⟨hc27, h⟩ := h
                          refine g_iald cx dX10_method_155 rfl hc27 (x := (I21 185 ((x1).toNatClampNeg))) rfl ?_
                          refine g_goto cx (tgt := 165) dX10_method_156 rfl ?_
                          exact g_wi cx hE dX10_method_165 rfl rfl hP h
                      · have h := zifp c24 h
                        refine g_aload_n cx dX10_method_135 rfl ?_
                        refine g_getR cx lk_X10_84 rfl (Nat.le_of_ble_eq_true rfl) rfl dX10_method_136 (v := 179) (pst hP 178 rfl) ?_
                        refine g_iload_n cx dX10_method_139 rfl ?_
                        obtain ⟨hc28, h⟩ := h
                        refine g_iald cx dX10_method_140 rfl hc28 (x := (I21 179 ((x1).toNatClampNeg))) rfl ?_
                        refine g_goto cx (tgt := 165) dX10_method_141 rfl ?_
                        exact g_wi cx hE dX10_method_165 rfl rfl hP h
                    · have h := zifp c23 h
                      refine g_aload_n cx dX10_method_120 rfl ?_
                      refine g_getR cx lk_X10_78 rfl (Nat.le_of_ble_eq_true rfl) rfl dX10_method_121 (v := 177) (pst hP 176 rfl) ?_
                      refine g_iload_n cx dX10_method_124 rfl ?_
                      obtain ⟨hc29, h⟩ := h
                      refine g_iald cx dX10_method_125 rfl hc29 (x := (I21 177 ((x1).toNatClampNeg))) rfl ?_
                      refine g_goto cx (tgt := 165) dX10_method_126 rfl ?_
                      exact g_wi cx hE dX10_method_165 rfl rfl hP h
                  · have h := zifp c22 h
                    refine g_iconst cx dX10_method_112 ic_m1 ?_
                    exact g_wi cx hE dX10_method_113 rfl rfl hP h
    · have h := zifp c4 h
      refine g_bipush cx dX10_method_18 bp_m2 ?_
      exact g_wi cx hE dX10_method_20 rfl rfl hP h
def w_X10_moved (x1 : Int32) (x2 : Int32) (I : zI) (P : zP) (K : Int32 → zI → zP → Prop) : Prop := w_X10_isMethod x1 I P (fun (v1 : Int32) (I1 : zI) (P1 : zP) => (if v1 = 0 then (K (-1) I1 P1) else (w_X10_isBegin x1 x2 I1 P1 (fun (v3 : Int32) (I3 : zI) (P3 : zP) => (if v3 = 0 then (K (-1) I3 P3) else (w_X10_isWoven x1 I3 P3 (fun (v5 : Int32) (I5 : zI) (P5 : zP) => (if v5 = 0 then (K (-1) I5 P5) else (vp_in ((400 * x1) + x2) 2400 ∧ (K (I5 184 ((((400 * x1) + x2)).toNatClampNeg)) I5 P5))))))))))
theorem e_X10_moved {x1 : Int32} {x2 : Int32} {I : zI} {P : zP} {K : Int32 → zI → zP → Prop} (hP : PSt P) (h : w_X10_moved x1 x2 I P K) : Ev yX10_moved cX10_moved 3 (some .int) 2 44 0 0 [.ref 155, .int x1, .int x2] SHy I P (zKi K) := by
  refine Ev.start [.ref 155, .int x1, .int x2] pn_X10 rfl (Nat.le_of_ble_eq_true rfl) rfl (fun κ cx hE => ?_)
  unfold w_X10_moved at h
  refine g_aload_n cx dX10_moved_0 rfl ?_
  refine g_iload_n cx dX10_moved_1 rfl ?_
  refine g_wVi cx [.int x1] [] (e_X10_isMethod hP h) mt_X10_isMethod ml_X10_318 rfl rfl rfl dX10_moved_2 rfl rfl (Nat.le_of_ble_eq_true rfl) (Nat.le_of_ble_eq_true rfl) (Nat.le_of_ble_eq_true rfl) (fun v1 I1 P1 hP h => ?_)
  refine g_if_eq cx (tgt := 40) dX10_moved_5 rfl (fun c2 => ?_) (fun c2 => ?_)
  · have h := zifp c2 h
    refine g_iconst cx dX10_moved_40 ic_m1 ?_
    exact g_wi cx hE dX10_moved_41 rfl rfl hP h
  · have h := zifn c2 h
    refine g_aload_n cx dX10_moved_8 rfl ?_
    refine g_iload_n cx dX10_moved_9 rfl ?_
    refine g_iload_n cx dX10_moved_10 rfl ?_
    refine g_wVi cx [.int x1, .int x2] [] (e_X10_isBegin hP h) mt_X10_isBegin ml_X10_274 rfl rfl rfl dX10_moved_11 rfl rfl (Nat.le_of_ble_eq_true rfl) (Nat.le_of_ble_eq_true rfl) (Nat.le_of_ble_eq_true rfl) (fun v3 I3 P3 hP h => ?_)
    refine g_if_eq cx (tgt := 40) dX10_moved_14 rfl (fun c4 => ?_) (fun c4 => ?_)
    · have h := zifp c4 h
      refine g_iconst cx dX10_moved_40 ic_m1 ?_
      exact g_wi cx hE dX10_moved_41 rfl rfl hP h
    · have h := zifn c4 h
      refine g_aload_n cx dX10_moved_17 rfl ?_
      refine g_iload_n cx dX10_moved_18 rfl ?_
      refine g_wVi cx [.int x1] [] (e_X10_isWoven hP h) mt_X10_isWoven ml_X10_325 rfl rfl rfl dX10_moved_19 rfl rfl (Nat.le_of_ble_eq_true rfl) (Nat.le_of_ble_eq_true rfl) (Nat.le_of_ble_eq_true rfl) (fun v5 I5 P5 hP h => ?_)
      refine g_if_eq cx (tgt := 40) dX10_moved_22 rfl (fun c6 => ?_) (fun c6 => ?_)
      · have h := zifp c6 h
        refine g_iconst cx dX10_moved_40 ic_m1 ?_
        exact g_wi cx hE dX10_moved_41 rfl rfl hP h
      · have h := zifn c6 h
        refine g_aload_n cx dX10_moved_25 rfl ?_
        refine g_getR cx lk_X10_99 rfl (Nat.le_of_ble_eq_true rfl) rfl dX10_moved_26 (v := 184) (pst hP 183 rfl) ?_
        refine g_sipush cx dX10_moved_29 sp_400 ?_
        refine g_iload_n cx dX10_moved_32 rfl ?_
        refine g_imul cx dX10_moved_33 ?_
        refine g_iload_n cx dX10_moved_34 rfl ?_
        refine g_iadd cx dX10_moved_35 ?_
        obtain ⟨hc7, h⟩ := h
        refine g_iald cx dX10_moved_36 rfl hc7 (x := (I5 184 ((((400 * x1) + x2)).toNatClampNeg))) rfl ?_
        refine g_goto cx (tgt := 41) dX10_moved_37 rfl ?_
        exact g_wi cx hE dX10_moved_41 rfl rfl hP h
def w_X10_octet (x1 : Int32) (x2 : Int32) (x3 : Int32) (I : zI) (P : zP) (K : Int32 → zI → zP → Prop) : Prop := w_X10_isMethod x1 I P (fun (v1 : Int32) (I1 : zI) (P1 : zP) => (if v1 = 0 then (K (-1) I1 P1) else (if x2 = 0 then (vp_in x1 6 ∧ (w_X10_in x3 0 ((I1 159 ((x1).toNatClampNeg)) - 1) I1 P1 (fun (v11 : Int32) (I11 : zI) (P11 : zP) => (if v11 = 0 then (K (-1) I11 P11) else (vp_in ((400 * x1) + x3) 2400 ∧ (K (I11 160 ((((400 * x1) + x3)).toNatClampNeg)) I11 P11)))))) else (w_X10_isWoven x1 I1 P1 (fun (v4 : Int32) (I4 : zI) (P4 : zP) => (if v4 = 0 then (K (-1) I4 P4) else (vp_in x1 6 ∧ (w_X10_in x3 0 ((I4 177 ((x1).toNatClampNeg)) - 1) I4 P4 (fun (v7 : Int32) (I7 : zI) (P7 : zP) => (if v7 = 0 then (K (-1) I7 P7) else (vp_in ((1000 * x1) + x3) 6000 ∧ (K (I7 176 ((((1000 * x1) + x3)).toNatClampNeg)) I7 P7))))))))))))
theorem e_X10_octet {x1 : Int32} {x2 : Int32} {x3 : Int32} {I : zI} {P : zP} {K : Int32 → zI → zP → Prop} (hP : PSt P) (h : w_X10_octet x1 x2 x3 I P K) : Ev yX10_octet cX10_octet 4 (some .int) 2 43 0 0 [.ref 155, .int x1, .int x2, .int x3] SHy I P (zKi K) := by
  refine Ev.start [.ref 155, .int x1, .int x2, .int x3] pn_X10 rfl (Nat.le_of_ble_eq_true rfl) rfl (fun κ cx hE => ?_)
  unfold w_X10_octet at h
  refine g_aload_n cx dX10_octet_0 rfl ?_
  refine g_iload_n cx dX10_octet_1 rfl ?_
  refine g_wVi cx [.int x1] [] (e_X10_isMethod hP h) mt_X10_isMethod ml_X10_318 rfl rfl rfl dX10_octet_2 rfl rfl (Nat.le_of_ble_eq_true rfl) (Nat.le_of_ble_eq_true rfl) (Nat.le_of_ble_eq_true rfl) (fun v1 I1 P1 hP h => ?_)
  refine g_if_ne cx (tgt := 10) dX10_octet_5 rfl (fun c2 => ?_) (fun c2 => ?_)
  · have h := zifn c2 h
    refine g_iload_n cx dX10_octet_10 rfl ?_
    refine g_if_ne cx (tgt := 47) dX10_octet_11 rfl (fun c3 => ?_) (fun c3 => ?_)
    · have h := zifn c3 h
      refine g_aload_n cx dX10_octet_47 rfl ?_
      refine g_iload_n cx dX10_octet_48 rfl ?_
      refine g_wVi cx [.int x1] [] (e_X10_isWoven hP h) mt_X10_isWoven ml_X10_325 rfl rfl rfl dX10_octet_49 rfl rfl (Nat.le_of_ble_eq_true rfl) (Nat.le_of_ble_eq_true rfl) (Nat.le_of_ble_eq_true rfl) (fun v4 I4 P4 hP h => ?_)
      refine g_if_eq cx (tgt := 86) dX10_octet_52 rfl (fun c5 => ?_) (fun c5 => ?_)
      · have h := zifp c5 h
        refine g_iconst cx dX10_octet_86 ic_m1 ?_
        exact g_wi cx hE dX10_octet_87 rfl rfl hP h
      · have h := zifn c5 h
        refine g_iload_n cx dX10_octet_55 rfl ?_
        refine g_iconst cx dX10_octet_56 ic_0 ?_
        refine g_aload_n cx dX10_octet_57 rfl ?_
        refine g_getR cx lk_X10_78 rfl (Nat.le_of_ble_eq_true rfl) rfl dX10_octet_58 (v := 177) (pst hP 176 rfl) ?_
        refine g_iload_n cx dX10_octet_61 rfl ?_
        obtain ⟨hc6, h⟩ := h
        refine g_iald cx dX10_octet_62 rfl hc6 (x := (I4 177 ((x1).toNatClampNeg))) rfl ?_
        refine g_iconst cx dX10_octet_63 ic_1 ?_
        refine g_isub cx dX10_octet_64 ?_
        refine g_wSi cx [.int x3, .int 0, .int ((I4 177 ((x1).toNatClampNeg)) - 1)] [] (e_X10_in hP h) mt_X10_in ml_X10_217 dX10_octet_65 rfl rfl (Nat.le_of_ble_eq_true rfl) (Nat.le_of_ble_eq_true rfl) (Nat.le_of_ble_eq_true rfl) (fun v7 I7 P7 hP h => ?_)
        refine g_if_eq cx (tgt := 86) dX10_octet_68 rfl (fun c8 => ?_) (fun c8 => ?_)
        · have h := zifp c8 h
          refine g_iconst cx dX10_octet_86 ic_m1 ?_
          exact g_wi cx hE dX10_octet_87 rfl rfl hP h
        · have h := zifn c8 h
          refine g_aload_n cx dX10_octet_71 rfl ?_
          refine g_getR cx lk_X10_75 rfl (Nat.le_of_ble_eq_true rfl) rfl dX10_octet_72 (v := 176) (pst hP 175 rfl) ?_
          refine g_sipush cx dX10_octet_75 sp_1000 ?_
          refine g_iload_n cx dX10_octet_78 rfl ?_
          refine g_imul cx dX10_octet_79 ?_
          refine g_iload_n cx dX10_octet_80 rfl ?_
          refine g_iadd cx dX10_octet_81 ?_
          obtain ⟨hc9, h⟩ := h
          refine g_iald cx dX10_octet_82 rfl hc9 (x := (I7 176 ((((1000 * x1) + x3)).toNatClampNeg))) rfl ?_
          refine g_goto cx (tgt := 87) dX10_octet_83 rfl ?_
          exact g_wi cx hE dX10_octet_87 rfl rfl hP h
    · have h := zifp c3 h
      refine g_iload_n cx dX10_octet_14 rfl ?_
      refine g_iconst cx dX10_octet_15 ic_0 ?_
      refine g_aload_n cx dX10_octet_16 rfl ?_
      refine g_getR cx lk_X10_23 rfl (Nat.le_of_ble_eq_true rfl) rfl dX10_octet_17 (v := 159) (pst hP 158 rfl) ?_
      refine g_iload_n cx dX10_octet_20 rfl ?_
      obtain ⟨hc10, h⟩ := h
      refine g_iald cx dX10_octet_21 rfl hc10 (x := (I1 159 ((x1).toNatClampNeg))) rfl ?_
      refine g_iconst cx dX10_octet_22 ic_1 ?_
      refine g_isub cx dX10_octet_23 ?_
      refine g_wSi cx [.int x3, .int 0, .int ((I1 159 ((x1).toNatClampNeg)) - 1)] [] (e_X10_in hP h) mt_X10_in ml_X10_217 dX10_octet_24 rfl rfl (Nat.le_of_ble_eq_true rfl) (Nat.le_of_ble_eq_true rfl) (Nat.le_of_ble_eq_true rfl) (fun v11 I11 P11 hP h => ?_)
      refine g_if_eq cx (tgt := 45) dX10_octet_27 rfl (fun c12 => ?_) (fun c12 => ?_)
      · have h := zifp c12 h
        refine g_iconst cx dX10_octet_45 ic_m1 ?_
        exact g_wi cx hE dX10_octet_46 rfl rfl hP h
      · have h := zifn c12 h
        refine g_aload_n cx dX10_octet_30 rfl ?_
        refine g_getR cx lk_X10_26 rfl (Nat.le_of_ble_eq_true rfl) rfl dX10_octet_31 (v := 160) (pst hP 159 rfl) ?_
        refine g_sipush cx dX10_octet_34 sp_400 ?_
        refine g_iload_n cx dX10_octet_37 rfl ?_
        refine g_imul cx dX10_octet_38 ?_
        refine g_iload_n cx dX10_octet_39 rfl ?_
        refine g_iadd cx dX10_octet_40 ?_
        obtain ⟨hc13, h⟩ := h
        refine g_iald cx dX10_octet_41 rfl hc13 (x := (I11 160 ((((400 * x1) + x3)).toNatClampNeg))) rfl ?_
        refine g_goto cx (tgt := 46) dX10_octet_42 rfl ?_
        exact g_wi cx hE dX10_octet_46 rfl rfl hP h
  · have h := zifp c2 h
    refine g_iconst cx dX10_octet_8 ic_m1 ?_
    exact g_wi cx hE dX10_octet_9 rfl rfl hP h
