def w_X10_take (I : zI) (P : zP) (K : Int32 → zI → zP → Prop) : Prop := vp_in ((I 155 54) - 1) 12 ∧ (vp_in ((I 155 54) - 1) 12 ∧ (vp_in (((zu I 198 ((((I 155 54) - 1)).toNatClampNeg) ((I 198 ((((I 155 54) - 1)).toNatClampNeg)) - 1)) 155 54) - 1) 12 ∧ (vp_in ((12 * (((zu I 198 ((((I 155 54) - 1)).toNatClampNeg) ((I 198 ((((I 155 54) - 1)).toNatClampNeg)) - 1)) 155 54) - 1)) + ((zu I 198 ((((I 155 54) - 1)).toNatClampNeg) ((I 198 ((((I 155 54) - 1)).toNatClampNeg)) - 1)) 198 (((((zu I 198 ((((I 155 54) - 1)).toNatClampNeg) ((I 198 ((((I 155 54) - 1)).toNatClampNeg)) - 1)) 155 54) - 1)).toNatClampNeg))) 144 ∧ (K ((zu I 198 ((((I 155 54) - 1)).toNatClampNeg) ((I 198 ((((I 155 54) - 1)).toNatClampNeg)) - 1)) 200 ((((12 * (((zu I 198 ((((I 155 54) - 1)).toNatClampNeg) ((I 198 ((((I 155 54) - 1)).toNatClampNeg)) - 1)) 155 54) - 1)) + ((zu I 198 ((((I 155 54) - 1)).toNatClampNeg) ((I 198 ((((I 155 54) - 1)).toNatClampNeg)) - 1)) 198 (((((zu I 198 ((((I 155 54) - 1)).toNatClampNeg) ((I 198 ((((I 155 54) - 1)).toNatClampNeg)) - 1)) 155 54) - 1)).toNatClampNeg)))).toNatClampNeg)) (zu I 198 ((((I 155 54) - 1)).toNatClampNeg) ((I 198 ((((I 155 54) - 1)).toNatClampNeg)) - 1)) P))))
theorem e_X10_take {I : zI} {P : zP} {K : Int32 → zI → zP → Prop} (hP : PSt P) (h : w_X10_take I P K) : Ev yX10_take cX10_take 1 (some .int) 0 0 0 0 [.ref 155] SHy I P (zKi K) := by
  refine Ev.start [.ref 155] pn_X10 rfl (Nat.le_of_ble_eq_true rfl) rfl (fun κ cx hE => ?_)
  unfold w_X10_take at h
  refine g_aload_n cx dX10_take_0 rfl ?_
  refine g_getR cx lk_X10_141 rfl (Nat.le_of_ble_eq_true rfl) rfl dX10_take_1 (v := 198) (pst hP 197 rfl) ?_
  refine g_aload_n cx dX10_take_4 rfl ?_
  refine g_getI cx lk_X10_415 rfl (Nat.le_of_ble_eq_true rfl) rfl dX10_take_5 (x := (I 155 54)) rfl ?_
  refine g_iconst cx dX10_take_8 ic_1 ?_
  refine g_isub cx dX10_take_9 ?_
  refine g_dup2 cx dX10_take_10 rfl rfl ?_
  obtain ⟨hc1, h⟩ := h
  refine g_iald cx dX10_take_11 rfl hc1 (x := (I 198 ((((I 155 54) - 1)).toNatClampNeg))) rfl ?_
  refine g_iconst cx dX10_take_12 ic_1 ?_
  refine g_isub cx dX10_take_13 ?_
  obtain ⟨hc2, h⟩ := h
  refine g_iast cx dX10_take_14 rfl hc2 ?_
  refine g_aload_n cx dX10_take_15 rfl ?_
  refine g_getR cx lk_X10_147 rfl (Nat.le_of_ble_eq_true rfl) rfl dX10_take_16 (v := 200) (pst hP 199 rfl) ?_
  refine g_bipush cx dX10_take_19 bp_12 ?_
  refine g_aload_n cx dX10_take_21 rfl ?_
  refine g_getI cx lk_X10_415 rfl (Nat.le_of_ble_eq_true rfl) rfl dX10_take_22 (x := ((zu I 198 ((((I 155 54) - 1)).toNatClampNeg) ((I 198 ((((I 155 54) - 1)).toNatClampNeg)) - 1)) 155 54)) rfl ?_
  refine g_iconst cx dX10_take_25 ic_1 ?_
  refine g_isub cx dX10_take_26 ?_
  refine g_imul cx dX10_take_27 ?_
  refine g_aload_n cx dX10_take_28 rfl ?_
  refine g_getR cx lk_X10_141 rfl (Nat.le_of_ble_eq_true rfl) rfl dX10_take_29 (v := 198) (pst hP 197 rfl) ?_
  refine g_aload_n cx dX10_take_32 rfl ?_
  refine g_getI cx lk_X10_415 rfl (Nat.le_of_ble_eq_true rfl) rfl dX10_take_33 (x := ((zu I 198 ((((I 155 54) - 1)).toNatClampNeg) ((I 198 ((((I 155 54) - 1)).toNatClampNeg)) - 1)) 155 54)) rfl ?_
  refine g_iconst cx dX10_take_36 ic_1 ?_
  refine Gx.N 37 rfl ?_
  refine g_isub cx dX10_take_37 ?_
  obtain ⟨hc3, h⟩ := h
  refine g_iald cx dX10_take_38 rfl hc3 (x := ((zu I 198 ((((I 155 54) - 1)).toNatClampNeg) ((I 198 ((((I 155 54) - 1)).toNatClampNeg)) - 1)) 198 (((((zu I 198 ((((I 155 54) - 1)).toNatClampNeg) ((I 198 ((((I 155 54) - 1)).toNatClampNeg)) - 1)) 155 54) - 1)).toNatClampNeg))) rfl ?_
  refine g_iadd cx dX10_take_39 ?_
  obtain ⟨hc4, h⟩ := h
  refine g_iald cx dX10_take_40 rfl hc4 (x := ((zu I 198 ((((I 155 54) - 1)).toNatClampNeg) ((I 198 ((((I 155 54) - 1)).toNatClampNeg)) - 1)) 200 ((((12 * (((zu I 198 ((((I 155 54) - 1)).toNatClampNeg) ((I 198 ((((I 155 54) - 1)).toNatClampNeg)) - 1)) 155 54) - 1)) + ((zu I 198 ((((I 155 54) - 1)).toNatClampNeg) ((I 198 ((((I 155 54) - 1)).toNatClampNeg)) - 1)) 198 (((((zu I 198 ((((I 155 54) - 1)).toNatClampNeg) ((I 198 ((((I 155 54) - 1)).toNatClampNeg)) - 1)) 155 54) - 1)).toNatClampNeg)))).toNatClampNeg))) rfl ?_
  exact g_wi cx hE dX10_take_41 rfl rfl hP h
def w_X10_gives (I : zI) (P : zP) (K : zI → zP → Prop) : Prop := w_X10_take I P (fun (v1 : Int32) (I1 : zI) (P1 : zP) => (if ((I1 155 54) - 1) = 0 then (K (zu (zu (zu I1 155 54 ((I1 155 54) - 1)) 155 68 v1) 155 52 0) P1) else (vp_in (((I1 155 54) - 1) - 1) 12 ∧ (vp_in (((I1 155 54) - 1) - 1) 12 ∧ (w_X10_give v1 (zu I1 155 54 ((I1 155 54) - 1)) P1 (fun (I5 : zI) (P5 : zP) => (vp_in ((I5 155 54) - 1) 12 ∧ (w_X10_behind ((zu I1 155 54 ((I1 155 54) - 1)) 196 (((((I1 155 54) - 1) - 1)).toNatClampNeg)) ((zu I1 155 54 ((I1 155 54) - 1)) 197 (((((I1 155 54) - 1) - 1)).toNatClampNeg)) 40 0 (zu I5 197 ((((I5 155 54) - 1)).toNatClampNeg) (((zu I1 155 54 ((I1 155 54) - 1)) 197 (((((I1 155 54) - 1) - 1)).toNatClampNeg)) + 2)) P5 (fun (I7 : zI) (P7 : zP) => (K I7 P7))))))))))
theorem e_X10_gives {I : zI} {P : zP} {K : zI → zP → Prop} (hP : PSt P) (h : w_X10_gives I P K) : Ev yX10_gives cX10_gives 4 none 3 69 0 0 [.ref 155] SHy I P (zKv K) := by
  refine Ev.start [.ref 155, .float 0, .float 0, .float 0] pn_X10 rfl (Nat.le_of_ble_eq_true rfl) rfl (fun κ cx hE => ?_)
  unfold w_X10_gives at h
  refine g_aload_n cx dX10_gives_0 rfl ?_
  refine g_wVi cx [] [] (e_X10_take hP h) mt_X10_take ml_X10_498 rfl rfl rfl dX10_gives_1 rfl rfl (Nat.le_of_ble_eq_true rfl) (Nat.le_of_ble_eq_true rfl) (Nat.le_of_ble_eq_true rfl) (fun v1 I1 P1 hP h => ?_)
  refine g_istore_n cx dX10_gives_4 (Nat.le_of_ble_eq_true rfl) (Gx.L [.ref 155, .int v1, .float 0, .float 0] rfl ?_)
  refine g_aload_n cx dX10_gives_5 rfl ?_
  refine g_dup cx dX10_gives_6 rfl ?_
  refine g_getI cx lk_X10_415 rfl (Nat.le_of_ble_eq_true rfl) rfl dX10_gives_7 (x := (I1 155 54)) rfl ?_
  refine g_iconst cx dX10_gives_10 ic_1 ?_
  refine g_isub cx dX10_gives_11 ?_
  refine g_pI cx lk_X10_415 rfl (Nat.le_of_ble_eq_true rfl) rfl dX10_gives_12 fi_10_54 rfl rfl ?_
  refine g_aload_n cx dX10_gives_15 rfl ?_
  refine g_getI cx lk_X10_415 rfl (Nat.le_of_ble_eq_true rfl) rfl dX10_gives_16 (x := ((I1 155 54) - 1)) rfl ?_
  refine g_if_ne cx (tgt := 33) dX10_gives_19 rfl (fun c2 => ?_) (fun c2 => ?_)
  · have h := zifn c2 h
    refine g_aload_n cx dX10_gives_33 rfl ?_
    refine g_getR cx lk_X10_135 rfl (Nat.le_of_ble_eq_true rfl) rfl dX10_gives_34 (v := 196) (pst hP 195 rfl) ?_
    refine g_aload_n cx dX10_gives_37 rfl ?_
    refine g_getI cx lk_X10_415 rfl (Nat.le_of_ble_eq_true rfl) rfl dX10_gives_38 (x := ((I1 155 54) - 1)) rfl ?_
    refine g_iconst cx dX10_gives_41 ic_1 ?_
    refine g_isub cx dX10_gives_42 ?_
    obtain ⟨hc3, h⟩ := h
    refine g_iald cx dX10_gives_43 rfl hc3 (x := ((zu I1 155 54 ((I1 155 54) - 1)) 196 (((((I1 155 54) - 1) - 1)).toNatClampNeg))) rfl ?_
    refine g_istore_n cx dX10_gives_44 (Nat.le_of_ble_eq_true rfl) (Gx.L [.ref 155, .int v1, .int ((zu I1 155 54 ((I1 155 54) - 1)) 196 (((((I1 155 54) - 1) - 1)).toNatClampNeg)), .float 0] rfl ?_)
    refine g_aload_n cx dX10_gives_45 rfl ?_
    refine g_getR cx lk_X10_138 rfl (Nat.le_of_ble_eq_true rfl) rfl dX10_gives_46 (v := 197) (pst hP 196 rfl) ?_
    refine g_aload_n cx dX10_gives_49 rfl ?_
    refine g_getI cx lk_X10_415 rfl (Nat.le_of_ble_eq_true rfl) rfl dX10_gives_50 (x := ((I1 155 54) - 1)) rfl ?_
    refine g_iconst cx dX10_gives_53 ic_1 ?_
    refine g_isub cx dX10_gives_54 ?_
    obtain ⟨hc4, h⟩ := h
    refine g_iald cx dX10_gives_55 rfl hc4 (x := ((zu I1 155 54 ((I1 155 54) - 1)) 197 (((((I1 155 54) - 1) - 1)).toNatClampNeg))) rfl ?_
    refine g_istore_n cx dX10_gives_56 (Nat.le_of_ble_eq_true rfl) (Gx.L [.ref 155, .int v1, .int ((zu I1 155 54 ((I1 155 54) - 1)) 196 (((((I1 155 54) - 1) - 1)).toNatClampNeg)), .int ((zu I1 155 54 ((I1 155 54) - 1)) 197 (((((I1 155 54) - 1) - 1)).toNatClampNeg))] rfl ?_)
    refine g_aload_n cx dX10_gives_57 rfl ?_
    refine g_iload_n cx dX10_gives_58 rfl ?_
    refine g_wVv cx [.int v1] [] (e_X10_give hP h) mt_X10_give ml_X10_510 rfl rfl rfl dX10_gives_59 rfl rfl (Nat.le_of_ble_eq_true rfl) (Nat.le_of_ble_eq_true rfl) (Nat.le_of_ble_eq_true rfl) (fun I5 P5 hP h => ?_)
    refine g_aload_n cx dX10_gives_62 rfl ?_
    refine g_getR cx lk_X10_138 rfl (Nat.le_of_ble_eq_true rfl) rfl dX10_gives_63 (v := 197) (pst hP 196 rfl) ?_
    refine g_aload_n cx dX10_gives_66 rfl ?_
    refine g_getI cx lk_X10_415 rfl (Nat.le_of_ble_eq_true rfl) rfl dX10_gives_67 (x := (I5 155 54)) rfl ?_
    refine g_iconst cx dX10_gives_70 ic_1 ?_
    refine Gx.N 71 rfl ?_
    refine g_isub cx dX10_gives_71 ?_
    refine g_iload_n cx dX10_gives_72 rfl ?_
    refine g_iconst cx dX10_gives_73 ic_2 ?_
    refine g_iadd cx dX10_gives_74 ?_
    obtain ⟨hc6, h⟩ := h
    refine g_iast cx dX10_gives_75 rfl hc6 ?_
    refine g_aload_n cx dX10_gives_76 rfl ?_
    refine g_iload_n cx dX10_gives_77 rfl ?_
    refine g_iload_n cx dX10_gives_78 rfl ?_
    refine g_bipush cx dX10_gives_79 bp_40 ?_
    refine g_iconst cx dX10_gives_81 ic_0 ?_
    refine g_wVv cx [.int ((zu I1 155 54 ((I1 155 54) - 1)) 196 (((((I1 155 54) - 1) - 1)).toNatClampNeg)), .int ((zu I1 155 54 ((I1 155 54) - 1)) 197 (((((I1 155 54) - 1) - 1)).toNatClampNeg)), .int 40, .int 0] [] (e_X10_behind hP h) mt_X10_behind ml_X10_467 rfl rfl rfl dX10_gives_82 rfl rfl (Nat.le_of_ble_eq_true rfl) (Nat.le_of_ble_eq_true rfl) (Nat.le_of_ble_eq_true rfl) (fun I7 P7 hP h => ?_)
    exact g_wv cx hE dX10_gives_85 rfl hP h
  · have h := zifp c2 h
    refine g_aload_n cx dX10_gives_22 rfl ?_
    refine g_iload_n cx dX10_gives_23 rfl ?_
    refine g_pI cx lk_X10_433 rfl (Nat.le_of_ble_eq_true rfl) rfl dX10_gives_24 fi_10_68 rfl rfl ?_
    refine g_aload_n cx dX10_gives_27 rfl ?_
    refine g_iconst cx dX10_gives_28 ic_0 ?_
    refine g_pI cx lk_X10_403 rfl (Nat.le_of_ble_eq_true rfl) rfl dX10_gives_29 fi_10_52 rfl rfl ?_
    exact g_wv cx hE dX10_gives_32 rfl hP h
def w_X10_isJump (x1 : Int32) (I : zI) (P : zP) (K : Int32 → zI → zP → Prop) : Prop := w_X10_in x1 20 32 I P (fun (v1 : Int32) (I1 : zI) (P1 : zP) => (if v1 = 0 then (w_X10_in x1 84 96 I1 P1 (fun (v3 : Int32) (I3 : zI) (P3 : zP) => (if v3 = 0 then (K 0 I3 P3) else (K 1 I3 P3)))) else (K 1 I1 P1)))
theorem e_X10_isJump {x1 : Int32} {I : zI} {P : zP} {K : Int32 → zI → zP → Prop} (hP : PSt P) (h : w_X10_isJump x1 I P K) : Ev yX10_isJump cX10_isJump 1 (some .boolean) 1 22 0 0 [.int x1] SHy I P (zKi K) := by
  refine Ev.start [.int x1] pn_X10 rfl (Nat.le_of_ble_eq_true rfl) rfl (fun κ cx hE => ?_)
  unfold w_X10_isJump at h
  refine g_iload_n cx dX10_isJump_0 rfl ?_
  refine g_bipush cx dX10_isJump_1 bp_20 ?_
  refine g_bipush cx dX10_isJump_3 bp_32 ?_
  refine g_wSi cx [.int x1, .int 20, .int 32] [] (e_X10_in hP h) mt_X10_in ml_X10_217 dX10_isJump_5 rfl rfl (Nat.le_of_ble_eq_true rfl) (Nat.le_of_ble_eq_true rfl) (Nat.le_of_ble_eq_true rfl) (fun v1 I1 P1 hP h => ?_)
  refine g_if_ne cx (tgt := 22) dX10_isJump_8 rfl (fun c2 => ?_) (fun c2 => ?_)
  · have h := zifn c2 h
    refine g_iconst cx dX10_isJump_22 ic_1 ?_
    refine g_goto cx (tgt := 27) dX10_isJump_23 rfl ?_
    exact g_wi cx hE dX10_isJump_27 rfl rfl hP h
  · have h := zifp c2 h
    refine g_iload_n cx dX10_isJump_11 rfl ?_
    refine g_bipush cx dX10_isJump_12 bp_84 ?_
    refine g_bipush cx dX10_isJump_14 bp_96 ?_
    refine g_wSi cx [.int x1, .int 84, .int 96] [] (e_X10_in hP h) mt_X10_in ml_X10_217 dX10_isJump_16 rfl rfl (Nat.le_of_ble_eq_true rfl) (Nat.le_of_ble_eq_true rfl) (Nat.le_of_ble_eq_true rfl) (fun v3 I3 P3 hP h => ?_)
    refine g_if_eq cx (tgt := 26) dX10_isJump_19 rfl (fun c4 => ?_) (fun c4 => ?_)
    · have h := zifp c4 h
      refine g_iconst cx dX10_isJump_26 ic_0 ?_
      exact g_wi cx hE dX10_isJump_27 rfl rfl hP h
    · have h := zifn c4 h
      refine g_iconst cx dX10_isJump_22 ic_1 ?_
      refine g_goto cx (tgt := 27) dX10_isJump_23 rfl ?_
      exact g_wi cx hE dX10_isJump_27 rfl rfl hP h
def w_X10_holds (x1 : Int32) (x2 : Int32) (x3 : Int32) (I : zI) (P : zP) (K : Int32 → zI → zP → Prop) : Prop := if x1 = 0 then (if x2 = x3 then (K 1 I P) else (K 0 I P)) else (if x1 = 1 then (if x2 = x3 then (K 0 I P) else (K 1 I P)) else (if x1 = 2 then (if x3 ≤ x2 then (K 0 I P) else (K 1 I P)) else (if x1 = 3 then (if x2 < x3 then (K 0 I P) else (K 1 I P)) else (if x1 = 4 then (if x2 ≤ x3 then (K 0 I P) else (K 1 I P)) else (if x3 < x2 then (K 0 I P) else (K 1 I P))))))
theorem e_X10_holds {x1 : Int32} {x2 : Int32} {x3 : Int32} {I : zI} {P : zP} {K : Int32 → zI → zP → Prop} (hP : PSt P) (h : w_X10_holds x1 x2 x3 I P K) : Ev yX10_holds cX10_holds 3 (some .boolean) 0 0 0 0 [.int x1, .int x2, .int x3] SHy I P (zKi K) := by
  refine Ev.start [.int x1, .int x2, .int x3] pn_X10 rfl (Nat.le_of_ble_eq_true rfl) rfl (fun κ cx hE => ?_)
  unfold w_X10_holds at h
  refine g_iload_n cx dX10_holds_0 rfl ?_
  by_cases c1 : x1 = 0
  · have h := zifp c1 h
    refine g_tabIn cx (tgt := 36) (off := 35) dX10_holds_1 (by rw [c1]; decide) (by rw [c1]; decide) (by rw [c1]; rfl) rfl ?_
    refine g_iload_n cx dX10_holds_36 rfl ?_
    refine g_iload_n cx dX10_holds_37 rfl ?_
    refine g_icmp_ne cx (tgt := 45) dX10_holds_38 rfl (fun c2 => ?_) (fun c2 => ?_)
    · have h := zifn c2 h
      refine g_iconst cx dX10_holds_45 ic_0 ?_
      exact g_wi cx hE dX10_holds_46 rfl rfl hP h
    · have h := zifp c2 h
      refine g_iconst cx dX10_holds_41 ic_1 ?_
      refine g_goto cx (tgt := 46) dX10_holds_42 rfl ?_
      exact g_wi cx hE dX10_holds_46 rfl rfl hP h
  · have h := zifn c1 h
    by_cases c3 : x1 = 1
    · have h := zifp c3 h
      refine g_tabIn cx (tgt := 47) (off := 46) dX10_holds_1 (by rw [c3]; decide) (by rw [c3]; decide) (by rw [c3]; rfl) rfl ?_
      refine g_iload_n cx dX10_holds_47 rfl ?_
      refine g_iload_n cx dX10_holds_48 rfl ?_
      refine g_icmp_eq cx (tgt := 56) dX10_holds_49 rfl (fun c4 => ?_) (fun c4 => ?_)
      · have h := zifp c4 h
        refine g_iconst cx dX10_holds_56 ic_0 ?_
        exact g_wi cx hE dX10_holds_57 rfl rfl hP h
      · have h := zifn c4 h
        refine g_iconst cx dX10_holds_52 ic_1 ?_
        refine g_goto cx (tgt := 57) dX10_holds_53 rfl ?_
        exact g_wi cx hE dX10_holds_57 rfl rfl hP h
    · have h := zifn c3 h
      by_cases c5 : x1 = 2
      · have h := zifp c5 h
        refine g_tabIn cx (tgt := 58) (off := 57) dX10_holds_1 (by rw [c5]; decide) (by rw [c5]; decide) (by rw [c5]; rfl) rfl ?_
        refine g_iload_n cx dX10_holds_58 rfl ?_
        refine g_iload_n cx dX10_holds_59 rfl ?_
        refine g_icmp_ge cx (tgt := 67) dX10_holds_60 rfl (fun c6 => ?_) (fun c6 => ?_)
        · have h := zifp c6 h
          refine g_iconst cx dX10_holds_67 ic_0 ?_
          exact g_wi cx hE dX10_holds_68 rfl rfl hP h
        · have h := zifn c6 h
          refine g_iconst cx dX10_holds_63 ic_1 ?_
          refine g_goto cx (tgt := 68) dX10_holds_64 rfl ?_
          exact g_wi cx hE dX10_holds_68 rfl rfl hP h
      · have h := zifn c5 h
        by_cases c7 : x1 = 3
        · have h := zifp c7 h
          refine g_tabIn cx (tgt := 69) (off := 68) dX10_holds_1 (by rw [c7]; decide) (by rw [c7]; decide) (by rw [c7]; rfl) rfl ?_
          refine g_iload_n cx dX10_holds_69 rfl ?_
          refine g_iload_n cx dX10_holds_70 rfl ?_
          refine g_icmp_lt cx (tgt := 78) dX10_holds_71 rfl (fun c8 => ?_) (fun c8 => ?_)
          · have h := zifp c8 h
            refine g_iconst cx dX10_holds_78 ic_0 ?_
            exact g_wi cx hE dX10_holds_79 rfl rfl hP h
          · have h := zifn c8 h
            refine g_iconst cx dX10_holds_74 ic_1 ?_
            refine g_goto cx (tgt := 79) dX10_holds_75 rfl ?_
            exact g_wi cx hE dX10_holds_79 rfl rfl hP h
        · have h := zifn c7 h
          by_cases c9 : x1 = 4
          · have h := zifp c9 h
            refine g_tabIn cx (tgt := 80) (off := 79) dX10_holds_1 (by rw [c9]; decide) (by rw [c9]; decide) (by rw [c9]; rfl) rfl ?_
            refine g_iload_n cx dX10_holds_80 rfl ?_
            refine g_iload_n cx dX10_holds_81 rfl ?_
            refine g_icmp_le cx (tgt := 89) dX10_holds_82 rfl (fun c10 => ?_) (fun c10 => ?_)
            · have h := zifp c10 h
              refine g_iconst cx dX10_holds_89 ic_0 ?_
              exact g_wi cx hE dX10_holds_90 rfl rfl hP h
            · have h := zifn c10 h
              refine g_iconst cx dX10_holds_85 ic_1 ?_
              refine g_goto cx (tgt := 90) dX10_holds_86 rfl ?_
              exact g_wi cx hE dX10_holds_90 rfl rfl hP h
          · have h := zifn c9 h
            refine g_tabOut cx (tgt := 91) dX10_holds_1 (by have q0 : (x1 : Int32).toInt ≠ 0 := i32ne c1; have q1 : (x1 : Int32).toInt ≠ 1 := i32ne c3; have q2 : (x1 : Int32).toInt ≠ 2 := i32ne c5; have q3 : (x1 : Int32).toInt ≠ 3 := i32ne c7; have q4 : (x1 : Int32).toInt ≠ 4 := i32ne c9; omega) rfl ?_
            refine g_iload_n cx dX10_holds_91 rfl ?_
            refine g_iload_n cx dX10_holds_92 rfl ?_
            refine g_icmp_gt cx (tgt := 100) dX10_holds_93 rfl (fun c11 => ?_) (fun c11 => ?_)
            · have h := zifp c11 h
              refine g_iconst cx dX10_holds_100 ic_0 ?_
              exact g_wi cx hE dX10_holds_101 rfl rfl hP h
            · have h := zifn c11 h
              refine g_iconst cx dX10_holds_96 ic_1 ?_
              refine g_goto cx (tgt := 101) dX10_holds_97 rfl ?_
              exact g_wi cx hE dX10_holds_101 rfl rfl hP h
def w_X10_octetAt (x1 : Int32) (x2 : Int32) (I : zI) (P : zP) (K : Int32 → zI → zP → Prop) : Prop := w_X10_runsWoven x1 I P (fun (v1 : Int32) (I1 : zI) (P1 : zP) => (if v1 = 0 then (vp_in ((400 * x1) + x2) 2400 ∧ (K (I1 160 ((((400 * x1) + x2)).toNatClampNeg)) I1 P1)) else (vp_in ((1000 * x1) + x2) 6000 ∧ (K (I1 176 ((((1000 * x1) + x2)).toNatClampNeg)) I1 P1))))
theorem e_X10_octetAt {x1 : Int32} {x2 : Int32} {I : zI} {P : zP} {K : Int32 → zI → zP → Prop} (hP : PSt P) (h : w_X10_octetAt x1 x2 I P K) : Ev yX10_octetAt cX10_octetAt 3 (some .int) 2 42 0 0 [.ref 155, .int x1, .int x2] SHy I P (zKi K) := by
  refine Ev.start [.ref 155, .int x1, .int x2] pn_X10 rfl (Nat.le_of_ble_eq_true rfl) rfl (fun κ cx hE => ?_)
  unfold w_X10_octetAt at h
  refine g_aload_n cx dX10_octetAt_0 rfl ?_
  refine g_iload_n cx dX10_octetAt_1 rfl ?_
  refine g_wVi cx [.int x1] [] (e_X10_runsWoven hP h) mt_X10_runsWoven ml_X10_445 rfl rfl rfl dX10_octetAt_2 rfl rfl (Nat.le_of_ble_eq_true rfl) (Nat.le_of_ble_eq_true rfl) (Nat.le_of_ble_eq_true rfl) (fun v1 I1 P1 hP h => ?_)
  refine g_if_eq cx (tgt := 23) dX10_octetAt_5 rfl (fun c2 => ?_) (fun c2 => ?_)
  · have h := zifp c2 h
    refine g_aload_n cx dX10_octetAt_23 rfl ?_
    refine g_getR cx lk_X10_26 rfl (Nat.le_of_ble_eq_true rfl) rfl dX10_octetAt_24 (v := 160) (pst hP 159 rfl) ?_
    refine g_sipush cx dX10_octetAt_27 sp_400 ?_
    refine g_iload_n cx dX10_octetAt_30 rfl ?_
    refine g_imul cx dX10_octetAt_31 ?_
    refine g_iload_n cx dX10_octetAt_32 rfl ?_
    refine g_iadd cx dX10_octetAt_33 ?_
    obtain ⟨hc3, h⟩ := h
    refine g_iald cx dX10_octetAt_34 rfl hc3 (x := (I1 160 ((((400 * x1) + x2)).toNatClampNeg))) rfl ?_
    exact g_wi cx hE dX10_octetAt_35 rfl rfl hP h
  · have h := zifn c2 h
    refine g_aload_n cx dX10_octetAt_8 rfl ?_
    refine g_getR cx lk_X10_75 rfl (Nat.le_of_ble_eq_true rfl) rfl dX10_octetAt_9 (v := 176) (pst hP 175 rfl) ?_
    refine g_sipush cx dX10_octetAt_12 sp_1000 ?_
    refine g_iload_n cx dX10_octetAt_15 rfl ?_
    refine g_imul cx dX10_octetAt_16 ?_
    refine g_iload_n cx dX10_octetAt_17 rfl ?_
    refine g_iadd cx dX10_octetAt_18 ?_
    obtain ⟨hc4, h⟩ := h
    refine g_iald cx dX10_octetAt_19 rfl hc4 (x := (I1 176 ((((1000 * x1) + x2)).toNatClampNeg))) rfl ?_
    refine g_goto cx (tgt := 35) dX10_octetAt_20 rfl ?_
    exact g_wi cx hE dX10_octetAt_35 rfl rfl hP h
def w_X10_s16 (x1 : Int32) (x2 : Int32) (I : zI) (P : zP) (K : Int32 → zI → zP → Prop) : Prop := if ((256 * x1) + x2) ≤ 32767 then (K ((256 * x1) + x2) I P) else (K (((256 * x1) + x2) - 65536) I P)
theorem e_X10_s16 {x1 : Int32} {x2 : Int32} {I : zI} {P : zP} {K : Int32 → zI → zP → Prop} (hP : PSt P) (h : w_X10_s16 x1 x2 I P K) : Ev yX10_s16 cX10_s16 3 (some .int) 0 0 0 0 [.int x1, .int x2] SHy I P (zKi K) := by
  refine Ev.start [.int x1, .int x2, .float 0] pn_X10 rfl (Nat.le_of_ble_eq_true rfl) rfl (fun κ cx hE => ?_)
  unfold w_X10_s16 at h
  refine g_sipush cx dX10_s16_0 sp_256 ?_
  refine g_iload_n cx dX10_s16_3 rfl ?_
  refine g_imul cx dX10_s16_4 ?_
  refine g_iload_n cx dX10_s16_5 rfl ?_
  refine g_iadd cx dX10_s16_6 ?_
  refine g_istore_n cx dX10_s16_7 (Nat.le_of_ble_eq_true rfl) (Gx.L [.int x1, .int x2, .int ((256 * x1) + x2)] rfl ?_)
  refine g_iload_n cx dX10_s16_8 rfl ?_
  refine g_sipush cx dX10_s16_9 sp_32767 ?_
  refine g_icmp_le cx (tgt := 22) dX10_s16_12 rfl (fun c1 => ?_) (fun c1 => ?_)
  · have h := zifp c1 h
    refine g_iload_n cx dX10_s16_22 rfl ?_
    exact g_wi cx hE dX10_s16_23 rfl rfl hP h
  · have h := zifn c1 h
    refine g_iload_n cx dX10_s16_15 rfl ?_
    refine g_ldc cx dX10_s16_16 ldc_X10_221 ?_
    refine g_isub cx dX10_s16_18 ?_
    refine g_goto cx (tgt := 23) dX10_s16_19 rfl ?_
    exact g_wi cx hE dX10_s16_23 rfl rfl hP h
def w_X10_s8 (x1 : Int32) (I : zI) (P : zP) (K : Int32 → zI → zP → Prop) : Prop := if x1 ≤ 127 then (K x1 I P) else (K (x1 - 256) I P)
theorem e_X10_s8 {x1 : Int32} {I : zI} {P : zP} {K : Int32 → zI → zP → Prop} (hP : PSt P) (h : w_X10_s8 x1 I P K) : Ev yX10_s8 cX10_s8 1 (some .int) 0 0 0 0 [.int x1] SHy I P (zKi K) := by
  refine Ev.start [.int x1] pn_X10 rfl (Nat.le_of_ble_eq_true rfl) rfl (fun κ cx hE => ?_)
  unfold w_X10_s8 at h
  refine g_iload_n cx dX10_s8_0 rfl ?_
  refine g_bipush cx dX10_s8_1 bp_127 ?_
  refine g_icmp_le cx (tgt := 14) dX10_s8_3 rfl (fun c1 => ?_) (fun c1 => ?_)
  · have h := zifp c1 h
    refine g_iload_n cx dX10_s8_14 rfl ?_
    exact g_wi cx hE dX10_s8_15 rfl rfl hP h
  · have h := zifn c1 h
    refine g_iload_n cx dX10_s8_6 rfl ?_
    refine g_sipush cx dX10_s8_7 sp_256 ?_
    refine g_isub cx dX10_s8_10 ?_
    refine g_goto cx (tgt := 15) dX10_s8_11 rfl ?_
    exact g_wi cx hE dX10_s8_15 rfl rfl hP h
def w_X10_jumpTo (x1 : Int32) (x2 : Int32) (x3 : Int32) (I : zI) (P : zP) (K : Int32 → zI → zP → Prop) : Prop := if 33 ≤ x3 then (w_X10_octetAt x1 (x2 + 1) I P (fun (v2 : Int32) (I2 : zI) (P2 : zP) => (w_X10_octetAt x1 (x2 + 2) I2 P2 (fun (v3 : Int32) (I3 : zI) (P3 : zP) => (w_X10_s16 v2 v3 I3 P3 (fun (v4 : Int32) (I4 : zI) (P4 : zP) => (K (x2 + v4) I4 P4))))))) else (w_X10_octetAt x1 (x2 + 1) I P (fun (v5 : Int32) (I5 : zI) (P5 : zP) => (w_X10_s8 v5 I5 P5 (fun (v6 : Int32) (I6 : zI) (P6 : zP) => (K (x2 + v6) I6 P6)))))
theorem e_X10_jumpTo {x1 : Int32} {x2 : Int32} {x3 : Int32} {I : zI} {P : zP} {K : Int32 → zI → zP → Prop} (hP : PSt P) (h : w_X10_jumpTo x1 x2 x3 I P K) : Ev yX10_jumpTo cX10_jumpTo 4 (some .int) 3 64 0 0 [.ref 155, .int x1, .int x2, .int x3] SHy I P (zKi K) := by
  refine Ev.start [.ref 155, .int x1, .int x2, .int x3] pn_X10 rfl (Nat.le_of_ble_eq_true rfl) rfl (fun κ cx hE => ?_)
  unfold w_X10_jumpTo at h
  refine g_iload_n cx dX10_jumpTo_0 rfl ?_
  refine g_iload_n cx dX10_jumpTo_1 rfl ?_
  refine g_bipush cx dX10_jumpTo_2 bp_33 ?_
  refine g_icmp_ge cx (tgt := 21) dX10_jumpTo_4 rfl (fun c1 => ?_) (fun c1 => ?_)
  · have h := zifp c1 h
    refine g_aload_n cx dX10_jumpTo_21 rfl ?_
    refine g_iload_n cx dX10_jumpTo_22 rfl ?_
    refine g_iload_n cx dX10_jumpTo_23 rfl ?_
    refine g_iconst cx dX10_jumpTo_24 ic_1 ?_
    refine g_iadd cx dX10_jumpTo_25 ?_
    refine g_wVi cx [.int x1, .int (x2 + 1)] [.int x2] (e_X10_octetAt hP h) mt_X10_octetAt ml_X10_448 rfl rfl rfl dX10_jumpTo_26 rfl rfl (Nat.le_of_ble_eq_true rfl) (Nat.le_of_ble_eq_true rfl) (Nat.le_of_ble_eq_true rfl) (fun v2 I2 P2 hP h => ?_)
    refine g_aload_n cx dX10_jumpTo_29 rfl ?_
    refine g_iload_n cx dX10_jumpTo_30 rfl ?_
    refine g_iload_n cx dX10_jumpTo_31 rfl ?_
    refine g_iconst cx dX10_jumpTo_32 ic_2 ?_
    refine g_iadd cx dX10_jumpTo_33 ?_
    refine g_wVi cx [.int x1, .int (x2 + 2)] [.int v2, .int x2] (e_X10_octetAt hP h) mt_X10_octetAt ml_X10_448 rfl rfl rfl dX10_jumpTo_34 rfl rfl (Nat.le_of_ble_eq_true rfl) (Nat.le_of_ble_eq_true rfl) (Nat.le_of_ble_eq_true rfl) (fun v3 I3 P3 hP h => ?_)
    refine g_wSi cx [.int v2, .int v3] [.int x2] (e_X10_s16 hP h) mt_X10_s16 ml_X10_226 dX10_jumpTo_37 rfl rfl (Nat.le_of_ble_eq_true rfl) (Nat.le_of_ble_eq_true rfl) (Nat.le_of_ble_eq_true rfl) (fun v4 I4 P4 hP h => ?_)
    refine g_iadd cx dX10_jumpTo_40 ?_
    exact g_wi cx hE dX10_jumpTo_41 rfl rfl hP h
  · have h := zifn c1 h
    refine g_aload_n cx dX10_jumpTo_7 rfl ?_
    refine g_iload_n cx dX10_jumpTo_8 rfl ?_
    refine g_iload_n cx dX10_jumpTo_9 rfl ?_
    refine g_iconst cx dX10_jumpTo_10 ic_1 ?_
    refine g_iadd cx dX10_jumpTo_11 ?_
    refine g_wVi cx [.int x1, .int (x2 + 1)] [.int x2] (e_X10_octetAt hP h) mt_X10_octetAt ml_X10_448 rfl rfl rfl dX10_jumpTo_12 rfl rfl (Nat.le_of_ble_eq_true rfl) (Nat.le_of_ble_eq_true rfl) (Nat.le_of_ble_eq_true rfl) (fun v5 I5 P5 hP h => ?_)
    refine g_wSi cx [.int v5] [.int x2] (e_X10_s8 hP h) mt_X10_s8 ml_X10_229 dX10_jumpTo_15 rfl rfl (Nat.le_of_ble_eq_true rfl) (Nat.le_of_ble_eq_true rfl) (Nat.le_of_ble_eq_true rfl) (fun v6 I6 P6 hP h => ?_)
    refine g_goto cx (tgt := 40) dX10_jumpTo_18 rfl ?_
    refine g_iadd cx dX10_jumpTo_40 ?_
    exact g_wi cx hE dX10_jumpTo_41 rfl rfl hP h
def j_X10_jump__77 (K : Int32 → zI → zP → Prop) (y1 : Int32) (y2 : Int32) (y3 : Int32) (y4 : Int32) (y6 : Int32) (I : zI) (P : zP) : Prop := if y6 = 0 then (vp_in ((I 155 54) - 1) 12 ∧ (zbo y6 ∧ (K y6 (zu I 197 ((((I 155 54) - 1)).toNatClampNeg) y4) P))) else (w_X10_jumpTo y1 y2 y3 I P (fun (v4 : Int32) (I4 : zI) (P4 : zP) => (vp_in ((I 155 54) - 1) 12 ∧ (zbo y6 ∧ (K y6 (zu I4 197 ((((I 155 54) - 1)).toNatClampNeg) v4) P4)))))
theorem gj_X10_jump__77 {κ : zX} (cx : Cx yX10_jump_ cX10_jump_ 9 (some .boolean) 4 87 κ) {K : Int32 → zI → zP → Prop} (hE : zEnd (zKi K) 0 0 κ) {y1 : Int32} {y2 : Int32} {y3 : Int32} {y4 : Int32} {y6 : Int32} {I : zI} {P : zP} (hP : PSt P) (h : j_X10_jump__77 K y1 y2 y3 y4 y6 I P) : Gx κ 77 [.ref 155, .int y1, .int y2, .int y3, .int y4, .float 0, .int y6, .float 0, .float 0] [] SHy I P 0 0 := by
  unfold j_X10_jump__77 at h
  refine g_aload_n cx dX10_jump__77 rfl ?_
  refine g_getR cx lk_X10_138 rfl (Nat.le_of_ble_eq_true rfl) rfl dX10_jump__78 (v := 197) (pst hP 196 rfl) ?_
  refine g_aload_n cx dX10_jump__81 rfl ?_
  refine g_getI cx lk_X10_415 rfl (Nat.le_of_ble_eq_true rfl) rfl dX10_jump__82 (x := (I 155 54)) rfl ?_
  refine g_iconst cx dX10_jump__85 ic_1 ?_
  refine g_isub cx dX10_jump__86 ?_
  refine g_iload cx dX10_jump__87 rfl ?_
  refine g_if_eq cx (tgt := 102) dX10_jump__89 rfl (fun c1 => ?_) (fun c1 => ?_)
  · have h := zifp c1 h
    refine g_iload cx dX10_jump__102 rfl ?_
    obtain ⟨hc2, h⟩ := h
    refine g_iast cx dX10_jump__104 rfl hc2 ?_
    refine g_iload cx dX10_jump__105 rfl ?_
    obtain ⟨hc3, h⟩ := h
    exact g_wi cx hE dX10_jump__107 rfl (zbo_n hc3) hP h
  · have h := zifn c1 h
    refine g_aload_n cx dX10_jump__92 rfl ?_
    refine g_iload_n cx dX10_jump__93 rfl ?_
    refine g_iload_n cx dX10_jump__94 rfl ?_
    refine g_iload_n cx dX10_jump__95 rfl ?_
    refine g_wVi cx [.int y1, .int y2, .int y3] [.int ((I 155 54) - 1), .ref 197] (e_X10_jumpTo hP h) mt_X10_jumpTo ml_X10_454 rfl rfl rfl dX10_jump__96 rfl rfl (Nat.le_of_ble_eq_true rfl) (Nat.le_of_ble_eq_true rfl) (Nat.le_of_ble_eq_true rfl) (fun v4 I4 P4 hP h => ?_)
    refine g_goto cx (tgt := 104) dX10_jump__99 rfl ?_
    obtain ⟨hc5, h⟩ := h
    refine g_iast cx dX10_jump__104 rfl hc5 ?_
    refine g_iload cx dX10_jump__105 rfl ?_
    obtain ⟨hc6, h⟩ := h
    exact g_wi cx hE dX10_jump__107 rfl (zbo_n hc6) hP h
def j_X10_jump__14 (K : Int32 → zI → zP → Prop) (y1 : Int32) (y2 : Int32) (y3 : Int32) (y4 : Int32) (s0 : Int32) (I : zI) (P : zP) : Prop := if s0 < 27 then (if s0 < 21 then (j_X10_jump__77 K y1 y2 y3 y4 1 I P) else (w_X10_take I P (fun (v3 : Int32) (I3 : zI) (P3 : zP) => (w_X10_holds (s0 - 21) v3 0 I3 P3 (fun (v4 : Int32) (I4 : zI) (P4 : zP) => (j_X10_jump__77 K y1 y2 y3 y4 v4 I4 P4)))))) else (w_X10_take I P (fun (v5 : Int32) (I5 : zI) (P5 : zP) => (w_X10_take I5 P5 (fun (v6 : Int32) (I6 : zI) (P6 : zP) => (w_X10_holds (s0 - 27) v6 v5 I6 P6 (fun (v7 : Int32) (I7 : zI) (P7 : zP) => (j_X10_jump__77 K y1 y2 y3 y4 v7 I7 P7)))))))
theorem gj_X10_jump__14 {κ : zX} (cx : Cx yX10_jump_ cX10_jump_ 9 (some .boolean) 4 87 κ) {K : Int32 → zI → zP → Prop} (hE : zEnd (zKi K) 0 0 κ) {y1 : Int32} {y2 : Int32} {y3 : Int32} {y4 : Int32} {s0 : Int32} {I : zI} {P : zP} (hP : PSt P) (h : j_X10_jump__14 K y1 y2 y3 y4 s0 I P) : Gx κ 14 [.ref 155, .int y1, .int y2, .int y3, .int y4, .float 0, .float 0, .float 0, .float 0] [.int s0] SHy I P 0 0 := by
  unfold j_X10_jump__14 at h
  refine g_istore cx dX10_jump__14 (Nat.le_of_ble_eq_true rfl) (Gx.L [.ref 155, .int y1, .int y2, .int y3, .int y4, .int s0, .float 0, .float 0, .float 0] rfl ?_)
  refine g_iconst cx dX10_jump__16 ic_1 ?_
  refine g_istore cx dX10_jump__17 (Nat.le_of_ble_eq_true rfl) (Gx.L [.ref 155, .int y1, .int y2, .int y3, .int y4, .int s0, .int 1, .float 0, .float 0] rfl ?_)
  refine g_iload cx dX10_jump__19 rfl ?_
  refine g_bipush cx dX10_jump__21 bp_27 ?_
  refine g_icmp_lt cx (tgt := 55) dX10_jump__23 rfl (fun c1 => ?_) (fun c1 => ?_)
  · have h := zifp c1 h
    refine g_iload cx dX10_jump__55 rfl ?_
    refine g_bipush cx dX10_jump__57 bp_21 ?_
    refine g_icmp_lt cx (tgt := 77) dX10_jump__59 rfl (fun c2 => ?_) (fun c2 => ?_)
    · have h := zifp c2 h
      refine (Gx.unset 5 (Gx.L [.ref 155, .int y1, .int y2, .int y3, .int y4, .float 0, .int 1, .float 0, .float 0] rfl ?_))
      exact gj_X10_jump__77 cx hE hP h
    · have h := zifn c2 h
      refine g_iload cx dX10_jump__62 rfl ?_
      refine g_bipush cx dX10_jump__64 bp_21 ?_
      refine g_isub cx dX10_jump__66 ?_
      refine g_aload_n cx dX10_jump__67 rfl ?_
      refine g_wVi cx [] [.int (s0 - 21)] (e_X10_take hP h) mt_X10_take ml_X10_498 rfl rfl rfl dX10_jump__68 rfl rfl (Nat.le_of_ble_eq_true rfl) (Nat.le_of_ble_eq_true rfl) (Nat.le_of_ble_eq_true rfl) (fun v3 I3 P3 hP h => ?_)
      refine g_iconst cx dX10_jump__71 ic_0 ?_
      refine g_wSi cx [.int (s0 - 21), .int v3, .int 0] [] (e_X10_holds hP h) mt_X10_holds ml_X10_524 dX10_jump__72 rfl rfl (Nat.le_of_ble_eq_true rfl) (Nat.le_of_ble_eq_true rfl) (Nat.le_of_ble_eq_true rfl) (fun v4 I4 P4 hP h => ?_)
      refine g_istore cx dX10_jump__75 (Nat.le_of_ble_eq_true rfl) (Gx.L [.ref 155, .int y1, .int y2, .int y3, .int y4, .int s0, .int v4, .float 0, .float 0] rfl ?_)
      refine (Gx.unset 5 (Gx.L [.ref 155, .int y1, .int y2, .int y3, .int y4, .float 0, .int v4, .float 0, .float 0] rfl ?_))
      exact gj_X10_jump__77 cx hE hP h
  · have h := zifn c1 h
    refine g_aload_n cx dX10_jump__26 rfl ?_
    refine g_wVi cx [] [] (e_X10_take hP h) mt_X10_take ml_X10_498 rfl rfl rfl dX10_jump__27 rfl rfl (Nat.le_of_ble_eq_true rfl) (Nat.le_of_ble_eq_true rfl) (Nat.le_of_ble_eq_true rfl) (fun v5 I5 P5 hP h => ?_)
    refine g_istore cx dX10_jump__30 (Nat.le_of_ble_eq_true rfl) (Gx.L [.ref 155, .int y1, .int y2, .int y3, .int y4, .int s0, .int 1, .int v5, .float 0] rfl ?_)
    refine g_aload_n cx dX10_jump__32 rfl ?_
    refine g_wVi cx [] [] (e_X10_take hP h) mt_X10_take ml_X10_498 rfl rfl rfl dX10_jump__33 rfl rfl (Nat.le_of_ble_eq_true rfl) (Nat.le_of_ble_eq_true rfl) (Nat.le_of_ble_eq_true rfl) (fun v6 I6 P6 hP h => ?_)
    refine g_istore cx dX10_jump__36 (Nat.le_of_ble_eq_true rfl) (Gx.L [.ref 155, .int y1, .int y2, .int y3, .int y4, .int s0, .int 1, .int v5, .int v6] rfl ?_)
    refine g_iload cx dX10_jump__38 rfl ?_
    refine g_bipush cx dX10_jump__40 bp_27 ?_
    refine g_isub cx dX10_jump__42 ?_
    refine g_iload cx dX10_jump__43 rfl ?_
    refine g_iload cx dX10_jump__45 rfl ?_
    refine g_wSi cx [.int (s0 - 27), .int v6, .int v5] [] (e_X10_holds hP h) mt_X10_holds ml_X10_524 dX10_jump__47 rfl rfl (Nat.le_of_ble_eq_true rfl) (Nat.le_of_ble_eq_true rfl) (Nat.le_of_ble_eq_true rfl) (fun v7 I7 P7 hP h => ?_)
    refine g_istore cx dX10_jump__50 (Nat.le_of_ble_eq_true rfl) (Gx.L [.ref 155, .int y1, .int y2, .int y3, .int y4, .int s0, .int v7, .int v5, .int v6] rfl ?_)
    refine g_goto cx (tgt := 77) dX10_jump__52 rfl ?_
    refine (Gx.unset 5 (Gx.unset 7 (Gx.unset 8 (Gx.L [.ref 155, .int y1, .int y2, .int y3, .int y4, .float 0, .int v7, .float 0, .float 0] rfl ?_))))
    exact gj_X10_jump__77 cx hE hP h
def w_X10_jump_ (x1 : Int32) (x2 : Int32) (x3 : Int32) (x4 : Int32) (I : zI) (P : zP) (K : Int32 → zI → zP → Prop) : Prop := if x3 ≤ 43 then (j_X10_jump__14 K x1 x2 x3 x4 x3 I P) else (j_X10_jump__14 K x1 x2 x3 x4 (x3 - 64) I P)
theorem e_X10_jump_ {x1 : Int32} {x2 : Int32} {x3 : Int32} {x4 : Int32} {I : zI} {P : zP} {K : Int32 → zI → zP → Prop} (hP : PSt P) (h : w_X10_jump_ x1 x2 x3 x4 I P K) : Ev yX10_jump_ cX10_jump_ 9 (some .boolean) 4 87 0 0 [.ref 155, .int x1, .int x2, .int x3, .int x4] SHy I P (zKi K) := by
  refine Ev.start [.ref 155, .int x1, .int x2, .int x3, .int x4, .float 0, .float 0, .float 0, .float 0] pn_X10 rfl (Nat.le_of_ble_eq_true rfl) rfl (fun κ cx hE => ?_)
  unfold w_X10_jump_ at h
  refine g_iload_n cx dX10_jump__0 rfl ?_
  refine g_bipush cx dX10_jump__1 bp_43 ?_
  refine g_icmp_le cx (tgt := 13) dX10_jump__3 rfl (fun c1 => ?_) (fun c1 => ?_)
  · have h := zifp c1 h
    refine g_iload_n cx dX10_jump__13 rfl ?_
    exact gj_X10_jump__14 cx hE hP h
  · have h := zifn c1 h
    refine g_iload_n cx dX10_jump__6 rfl ?_
    refine g_bipush cx dX10_jump__7 bp_64 ?_
    refine g_isub cx dX10_jump__9 ?_
    refine g_goto cx (tgt := 14) dX10_jump__10 rfl ?_
    exact gj_X10_jump__14 cx hE hP h
def w_X10_marks (x1 : Int32) (I : zI) (P : zP) (K : zI → zP → Prop) : Prop := vp_in (I 155 50) 3 ∧ (if 60 ≤ (I 211 (((I 155 50)).toNatClampNeg)) then (K I P) else (vp_in (I 155 50) 3 ∧ (vp_in ((60 * (I 155 50)) + (I 211 (((I 155 50)).toNatClampNeg))) 180 ∧ (vp_in ((zu I 217 ((((60 * (I 155 50)) + (I 211 (((I 155 50)).toNatClampNeg)))).toNatClampNeg) x1) 155 50) 3 ∧ (vp_in ((zu I 217 ((((60 * (I 155 50)) + (I 211 (((I 155 50)).toNatClampNeg)))).toNatClampNeg) x1) 155 50) 3 ∧ (K (zu (zu I 217 ((((60 * (I 155 50)) + (I 211 (((I 155 50)).toNatClampNeg)))).toNatClampNeg) x1) 211 ((((zu I 217 ((((60 * (I 155 50)) + (I 211 (((I 155 50)).toNatClampNeg)))).toNatClampNeg) x1) 155 50)).toNatClampNeg) (((zu I 217 ((((60 * (I 155 50)) + (I 211 (((I 155 50)).toNatClampNeg)))).toNatClampNeg) x1) 211 ((((zu I 217 ((((60 * (I 155 50)) + (I 211 (((I 155 50)).toNatClampNeg)))).toNatClampNeg) x1) 155 50)).toNatClampNeg)) + 1)) P))))))
theorem e_X10_marks {x1 : Int32} {I : zI} {P : zP} {K : zI → zP → Prop} (hP : PSt P) (h : w_X10_marks x1 I P K) : Ev yX10_marks cX10_marks 2 none 0 0 0 0 [.ref 155, .int x1] SHy I P (zKv K) := by
  refine Ev.start [.ref 155, .int x1] pn_X10 rfl (Nat.le_of_ble_eq_true rfl) rfl (fun κ cx hE => ?_)
  unfold w_X10_marks at h
  refine g_aload_n cx dX10_marks_0 rfl ?_
  refine g_getR cx lk_X10_180 rfl (Nat.le_of_ble_eq_true rfl) rfl dX10_marks_1 (v := 211) (pst hP 210 rfl) ?_
  refine g_aload_n cx dX10_marks_4 rfl ?_
  refine g_getI cx lk_X10_385 rfl (Nat.le_of_ble_eq_true rfl) rfl dX10_marks_5 (x := (I 155 50)) rfl ?_
  obtain ⟨hc1, h⟩ := h
  refine g_iald cx dX10_marks_8 rfl hc1 (x := (I 211 (((I 155 50)).toNatClampNeg))) rfl ?_
  refine g_bipush cx dX10_marks_9 bp_60 ?_
  refine g_icmp_ge cx (tgt := 50) dX10_marks_11 rfl (fun c2 => ?_) (fun c2 => ?_)
  · have h := zifp c2 h
    exact g_wv cx hE dX10_marks_50 rfl hP h
  · have h := zifn c2 h
    refine g_aload_n cx dX10_marks_14 rfl ?_
    refine g_getR cx lk_X10_198 rfl (Nat.le_of_ble_eq_true rfl) rfl dX10_marks_15 (v := 217) (pst hP 216 rfl) ?_
    refine g_bipush cx dX10_marks_18 bp_60 ?_
    refine g_aload_n cx dX10_marks_20 rfl ?_
    refine g_getI cx lk_X10_385 rfl (Nat.le_of_ble_eq_true rfl) rfl dX10_marks_21 (x := (I 155 50)) rfl ?_
    refine g_imul cx dX10_marks_24 ?_
    refine g_aload_n cx dX10_marks_25 rfl ?_
    refine g_getR cx lk_X10_180 rfl (Nat.le_of_ble_eq_true rfl) rfl dX10_marks_26 (v := 211) (pst hP 210 rfl) ?_
    refine g_aload_n cx dX10_marks_29 rfl ?_
    refine g_getI cx lk_X10_385 rfl (Nat.le_of_ble_eq_true rfl) rfl dX10_marks_30 (x := (I 155 50)) rfl ?_
    obtain ⟨hc3, h⟩ := h
    refine g_iald cx dX10_marks_33 rfl hc3 (x := (I 211 (((I 155 50)).toNatClampNeg))) rfl ?_
    refine g_iadd cx dX10_marks_34 ?_
    refine g_iload_n cx dX10_marks_35 rfl ?_
    obtain ⟨hc4, h⟩ := h
    refine g_iast cx dX10_marks_36 rfl hc4 ?_
    refine g_aload_n cx dX10_marks_37 rfl ?_
    refine g_getR cx lk_X10_180 rfl (Nat.le_of_ble_eq_true rfl) rfl dX10_marks_38 (v := 211) (pst hP 210 rfl) ?_
    refine g_aload_n cx dX10_marks_41 rfl ?_
    refine g_getI cx lk_X10_385 rfl (Nat.le_of_ble_eq_true rfl) rfl dX10_marks_42 (x := ((zu I 217 ((((60 * (I 155 50)) + (I 211 (((I 155 50)).toNatClampNeg)))).toNatClampNeg) x1) 155 50)) rfl ?_
    refine g_dup2 cx dX10_marks_45 rfl rfl ?_
    obtain ⟨hc5, h⟩ := h
    refine g_iald cx dX10_marks_46 rfl hc5 (x := ((zu I 217 ((((60 * (I 155 50)) + (I 211 (((I 155 50)).toNatClampNeg)))).toNatClampNeg) x1) 211 ((((zu I 217 ((((60 * (I 155 50)) + (I 211 (((I 155 50)).toNatClampNeg)))).toNatClampNeg) x1) 155 50)).toNatClampNeg))) rfl ?_
    refine g_iconst cx dX10_marks_47 ic_1 ?_
    refine g_iadd cx dX10_marks_48 ?_
    obtain ⟨hc6, h⟩ := h
    refine g_iast cx dX10_marks_49 rfl hc6 ?_
    exact g_wv cx hE dX10_marks_50 rfl hP h
def l_X10_newRow_70 (K : zI → zP → Prop) : Nat → Int32 → Int32 → zI → zP → Prop
  | 0, _, _, _, _ => False
  | n + 1, y1, y2, I, P => if y1 ≤ y2 then (w_X10_setTop (I 155 63) I P (fun (I2 : zI) (P2 : zP) => (K I2 P2))) else (vp_in ((50 * (I 155 63)) + y2) 1550 ∧ ((l_X10_newRow_70 K n) y1 (y2 + 1) (zu I 202 ((((50 * (I 155 63)) + y2)).toNatClampNeg) 0) P))
theorem gl_X10_newRow_70 {κ : zX} (cx : Cx yX10_newRow cX10_newRow 3 none 1 22 κ) {K : zI → zP → Prop} (hE : zEnd (zKv K) 0 0 κ) : ∀ (n : Nat) (y1 : Int32) (y2 : Int32) (I : zI) (P : zP), PSt P → l_X10_newRow_70 K n y1 y2 I P → Gx κ 70 [.ref 155, .int y1, .int y2] [] SHy I P 0 0 := by
  intro n
  induction n with
  | zero =>
    intro y1 y2 I P hP h
    rw [l_X10_newRow_70] at h
    exact False.elim h
  | succ n ih =>
    intro y1 y2 I P hP h
    rw [l_X10_newRow_70] at h
    refine g_iload_n cx dX10_newRow_70 rfl ?_
    refine g_iload_n cx dX10_newRow_71 rfl ?_
    refine g_icmp_ge cx (tgt := 96) dX10_newRow_72 rfl (fun c1 => ?_) (fun c1 => ?_)
    · have h := zifp c1 h
      refine g_aload_n cx dX10_newRow_96 rfl ?_
      refine g_aload_n cx dX10_newRow_97 rfl ?_
      refine g_getI cx lk_X10_421 rfl (Nat.le_of_ble_eq_true rfl) rfl dX10_newRow_98 (x := (I 155 63)) rfl ?_
      refine g_wVv cx [.int (I 155 63)] [] (e_X10_setTop hP h) mt_X10_setTop ml_X10_483 rfl rfl rfl dX10_newRow_101 rfl rfl (Nat.le_of_ble_eq_true rfl) (Nat.le_of_ble_eq_true rfl) (Nat.le_of_ble_eq_true rfl) (fun I2 P2 hP h => ?_)
      exact g_wv cx hE dX10_newRow_104 rfl hP h
    · have h := zifn c1 h
      refine g_aload_n cx dX10_newRow_75 rfl ?_
      refine g_getR cx lk_X10_153 rfl (Nat.le_of_ble_eq_true rfl) rfl dX10_newRow_76 (v := 202) (pst hP 201 rfl) ?_
      refine g_bipush cx dX10_newRow_79 bp_50 ?_
      refine g_aload_n cx dX10_newRow_81 rfl ?_
      refine g_getI cx lk_X10_421 rfl (Nat.le_of_ble_eq_true rfl) rfl dX10_newRow_82 (x := (I 155 63)) rfl ?_
      refine g_imul cx dX10_newRow_85 ?_
      refine g_iload_n cx dX10_newRow_86 rfl ?_
      refine g_iadd cx dX10_newRow_87 ?_
      refine g_iconst cx dX10_newRow_88 ic_0 ?_
      obtain ⟨hc3, h⟩ := h
      refine g_iast cx dX10_newRow_89 rfl hc3 ?_
      refine g_iinc cx (v := (y2 + 1)) dX10_newRow_90 rfl rfl (Nat.le_of_ble_eq_true rfl) (Gx.L [.ref 155, .int y1, .int (y2 + 1)] rfl ?_)
      refine g_goto cx (tgt := 70) dX10_newRow_93 rfl ?_
      exact ih _ _ _ _ hP h
def j_X10_newRow_37 (K : zI → zP → Prop) (y1 : Int32) (s0 : Int32) (I : zI) (P : zP) : Prop := if s0 = 0 then (vp_in ((I 155 63) + 1) 31 ∧ (∃ n9, l_X10_newRow_70 K n9 y1 0 (zu (zu (zu I 155 65 s0) 155 63 ((I 155 63) + 1)) 201 ((((I 155 63) + 1)).toNatClampNeg) y1) P)) else (K (zu I 155 65 s0) P)
theorem gj_X10_newRow_37 {κ : zX} (cx : Cx yX10_newRow cX10_newRow 3 none 1 22 κ) {K : zI → zP → Prop} (hE : zEnd (zKv K) 0 0 κ) {y1 : Int32} {s0 : Int32} {I : zI} {P : zP} (hP : PSt P) (h : j_X10_newRow_37 K y1 s0 I P) : Gx κ 37 [.ref 155, .int y1, .float 0] [.int s0, .ref 155] SHy I P 0 0 := by
  unfold j_X10_newRow_37 at h
  refine g_pI cx lk_X10_424 rfl (Nat.le_of_ble_eq_true rfl) rfl dX10_newRow_37 fi_10_65 rfl rfl ?_
  refine g_aload_n cx dX10_newRow_40 rfl ?_
  refine g_getI cx lk_X10_424 rfl (Nat.le_of_ble_eq_true rfl) rfl dX10_newRow_41 (x := s0) rfl ?_
  refine g_if_eq cx (tgt := 48) dX10_newRow_44 rfl (fun c1 => ?_) (fun c1 => ?_)
  · have h := zifp c1 h
    refine g_aload_n cx dX10_newRow_48 rfl ?_
    refine g_dup cx dX10_newRow_49 rfl ?_
    refine g_getI cx lk_X10_421 rfl (Nat.le_of_ble_eq_true rfl) rfl dX10_newRow_50 (x := (I 155 63)) rfl ?_
    refine g_iconst cx dX10_newRow_53 ic_1 ?_
    refine g_iadd cx dX10_newRow_54 ?_
    refine g_pI cx lk_X10_421 rfl (Nat.le_of_ble_eq_true rfl) rfl dX10_newRow_55 fi_10_63 rfl rfl ?_
    refine g_aload_n cx dX10_newRow_58 rfl ?_
    refine g_getR cx lk_X10_150 rfl (Nat.le_of_ble_eq_true rfl) rfl dX10_newRow_59 (v := 201) (pst hP 200 rfl) ?_
    refine g_aload_n cx dX10_newRow_62 rfl ?_
    refine g_getI cx lk_X10_421 rfl (Nat.le_of_ble_eq_true rfl) rfl dX10_newRow_63 (x := ((I 155 63) + 1)) rfl ?_
    refine g_iload_n cx dX10_newRow_66 rfl ?_
    obtain ⟨hc2, h⟩ := h
    refine g_iast cx dX10_newRow_67 rfl hc2 ?_
    refine g_iconst cx dX10_newRow_68 ic_0 ?_
    refine g_istore_n cx dX10_newRow_69 (Nat.le_of_ble_eq_true rfl) (Gx.L [.ref 155, .int y1, .int 0] rfl ?_)
    obtain ⟨n9, h⟩ := h
    exact gl_X10_newRow_70 cx hE n9 _ _ _ _ hP h
  · have h := zifn c1 h
    exact g_wv cx hE dX10_newRow_47 rfl hP h
def w_X10_newRow (I : zI) (P : zP) (K : zI → zP → Prop) : Prop := w_X10_top 0 I P (fun (v1 : Int32) (I1 : zI) (P1 : zP) => (w_X10_in v1 0 50 I1 P1 (fun (v2 : Int32) (I2 : zI) (P2 : zP) => (if v2 = 0 then (j_X10_newRow_37 K v1 103 I2 P2) else (if (I2 155 63) = 30 then (j_X10_newRow_37 K v1 104 I2 P2) else (j_X10_newRow_37 K v1 0 I2 P2))))))
theorem e_X10_newRow {I : zI} {P : zP} {K : zI → zP → Prop} (hP : PSt P) (h : w_X10_newRow I P K) : Ev yX10_newRow cX10_newRow 3 none 1 22 0 0 [.ref 155] SHy I P (zKv K) := by
  refine Ev.start [.ref 155, .float 0, .float 0] pn_X10 rfl (Nat.le_of_ble_eq_true rfl) rfl (fun κ cx hE => ?_)
  unfold w_X10_newRow at h
  refine g_aload_n cx dX10_newRow_0 rfl ?_
  refine g_iconst cx dX10_newRow_1 ic_0 ?_
  refine g_wVi cx [.int 0] [] (e_X10_top hP h) mt_X10_top ml_X10_474 rfl rfl rfl dX10_newRow_2 rfl rfl (Nat.le_of_ble_eq_true rfl) (Nat.le_of_ble_eq_true rfl) (Nat.le_of_ble_eq_true rfl) (fun v1 I1 P1 hP h => ?_)
  refine g_istore_n cx dX10_newRow_5 (Nat.le_of_ble_eq_true rfl) (Gx.L [.ref 155, .int v1, .float 0] rfl ?_)
  refine g_aload_n cx dX10_newRow_6 rfl ?_
  refine g_iload_n cx dX10_newRow_7 rfl ?_
  refine g_iconst cx dX10_newRow_8 ic_0 ?_
  refine g_bipush cx dX10_newRow_9 bp_50 ?_
  refine g_wSi cx [.int v1, .int 0, .int 50] [.ref 155] (e_X10_in hP h) mt_X10_in ml_X10_217 dX10_newRow_11 rfl rfl (Nat.le_of_ble_eq_true rfl) (Nat.le_of_ble_eq_true rfl) (Nat.le_of_ble_eq_true rfl) (fun v2 I2 P2 hP h => ?_)
  refine g_if_ne cx (tgt := 22) dX10_newRow_14 rfl (fun c3 => ?_) (fun c3 => ?_)
  · have h := zifn c3 h
    refine g_aload_n cx dX10_newRow_22 rfl ?_
    refine g_getI cx lk_X10_421 rfl (Nat.le_of_ble_eq_true rfl) rfl dX10_newRow_23 (x := (I2 155 63)) rfl ?_
    refine g_bipush cx dX10_newRow_26 bp_30 ?_
    refine g_icmp_ne cx (tgt := 36) dX10_newRow_28 rfl (fun c4 => ?_) (fun c4 => ?_)
    · have h := zifn c4 h
      refine g_iconst cx dX10_newRow_36 ic_0 ?_
      exact gj_X10_newRow_37 cx hE hP h
    · have h := zifp c4 h
      refine g_bipush cx dX10_newRow_31 bp_104 ?_
      refine g_goto cx (tgt := 37) dX10_newRow_33 rfl ?_
      exact gj_X10_newRow_37 cx hE hP h
  · have h := zifp c3 h
    refine g_bipush cx dX10_newRow_17 bp_103 ?_
    refine g_goto cx (tgt := 37) dX10_newRow_19 rfl ?_
    exact gj_X10_newRow_37 cx hE hP h
def j_X10_work_34 (K : zI → zP → Prop) (y1 : Int32) (y2 : Int32) (y3 : Int32) (I : zI) (P : zP) : Prop := w_X10_take I P (fun (v1 : Int32) (I1 : zI) (P1 : zP) => (if y1 = 9 then (w_X10_setTop (y3 + y2) I1 P1 (fun (I3 : zI) (P3 : zP) => (K I3 P3))) else (if y1 = 10 then (w_X10_setTop (y3 - y2) I1 P1 (fun (I5 : zI) (P5 : zP) => (K I5 P5))) else (if y1 = 11 then (w_X10_setTop (y3 * y2) I1 P1 (fun (I7 : zI) (P7 : zP) => (K I7 P7))) else (if y1 = 12 then (¬ y2 = 0 ∧ (w_X10_setTop (y3 / y2) I1 P1 (fun (I10 : zI) (P10 : zP) => (K I10 P10)))) else (if y1 = 13 then (¬ y2 = 0 ∧ (w_X10_setTop (y3 - y3 / y2 * y2) I1 P1 (fun (I13 : zI) (P13 : zP) => (K I13 P13)))) else (if y1 = 14 then (w_X10_setTop (y3 &&& y2) I1 P1 (fun (I15 : zI) (P15 : zP) => (K I15 P15))) else (if y1 = 15 then (w_X10_setTop (y3 ||| y2) I1 P1 (fun (I17 : zI) (P17 : zP) => (K I17 P17))) else (if y1 = 16 then (w_X10_setTop (y3 ^^^ y2) I1 P1 (fun (I19 : zI) (P19 : zP) => (K I19 P19))) else (if y1 = 17 then (w_X10_setTop ((y3 : Int32) <<< (((y2 &&& 31) : Int32) &&& 31)) I1 P1 (fun (I21 : zI) (P21 : zP) => (K I21 P21))) else (w_X10_setTop ((y3 : Int32) >>> (((y2 &&& 31) : Int32) &&& 31)) I1 P1 (fun (I22 : zI) (P22 : zP) => (K I22 P22)))))))))))))
theorem gj_X10_work_34 {κ : zX} (cx : Cx yX10_work cX10_work 4 none 1 22 κ) {K : zI → zP → Prop} (hE : zEnd (zKv K) 0 0 κ) {y1 : Int32} {y2 : Int32} {y3 : Int32} {I : zI} {P : zP} (hP : PSt P) (h : j_X10_work_34 K y1 y2 y3 I P) : Gx κ 34 [.ref 155, .int y1, .int y2, .int y3] [] SHy I P 0 0 := by
  unfold j_X10_work_34 at h
  refine g_aload_n cx dX10_work_34 rfl ?_
  refine g_wVi cx [] [] (e_X10_take hP h) mt_X10_take ml_X10_498 rfl rfl rfl dX10_work_35 rfl rfl (Nat.le_of_ble_eq_true rfl) (Nat.le_of_ble_eq_true rfl) (Nat.le_of_ble_eq_true rfl) (fun v1 I1 P1 hP h => ?_)
  refine g_pop cx dX10_work_38 rfl ?_
  refine g_iload_n cx dX10_work_39 rfl ?_
  by_cases c2 : y1 = 9
  · have h := zifp c2 h
    refine g_tabIn cx (tgt := 92) (off := 52) dX10_work_40 (by rw [c2]; decide) (by rw [c2]; decide) (by rw [c2]; rfl) rfl ?_
    refine g_aload_n cx dX10_work_92 rfl ?_
    refine g_iload_n cx dX10_work_93 rfl ?_
    refine g_iload_n cx dX10_work_94 rfl ?_
    refine g_iadd cx dX10_work_95 ?_
    refine g_wVv cx [.int (y3 + y2)] [] (e_X10_setTop hP h) mt_X10_setTop ml_X10_483 rfl rfl rfl dX10_work_96 rfl rfl (Nat.le_of_ble_eq_true rfl) (Nat.le_of_ble_eq_true rfl) (Nat.le_of_ble_eq_true rfl) (fun I3 P3 hP h => ?_)
    refine g_goto cx (tgt := 195) dX10_work_99 rfl ?_
    exact g_wv cx hE dX10_work_195 rfl hP h
  · have h := zifn c2 h
    by_cases c4 : y1 = 10
    · have h := zifp c4 h
      refine g_tabIn cx (tgt := 102) (off := 62) dX10_work_40 (by rw [c4]; decide) (by rw [c4]; decide) (by rw [c4]; rfl) rfl ?_
      refine g_aload_n cx dX10_work_102 rfl ?_
      refine g_iload_n cx dX10_work_103 rfl ?_
      refine g_iload_n cx dX10_work_104 rfl ?_
      refine g_isub cx dX10_work_105 ?_
      refine g_wVv cx [.int (y3 - y2)] [] (e_X10_setTop hP h) mt_X10_setTop ml_X10_483 rfl rfl rfl dX10_work_106 rfl rfl (Nat.le_of_ble_eq_true rfl) (Nat.le_of_ble_eq_true rfl) (Nat.le_of_ble_eq_true rfl) (fun I5 P5 hP h => ?_)
      refine g_goto cx (tgt := 195) dX10_work_109 rfl ?_
      exact g_wv cx hE dX10_work_195 rfl hP h
    · have h := zifn c4 h
      by_cases c6 : y1 = 11
      · have h := zifp c6 h
        refine g_tabIn cx (tgt := 112) (off := 72) dX10_work_40 (by rw [c6]; decide) (by rw [c6]; decide) (by rw [c6]; rfl) rfl ?_
        refine g_aload_n cx dX10_work_112 rfl ?_
        refine g_iload_n cx dX10_work_113 rfl ?_
        refine g_iload_n cx dX10_work_114 rfl ?_
        refine g_imul cx dX10_work_115 ?_
        refine g_wVv cx [.int (y3 * y2)] [] (e_X10_setTop hP h) mt_X10_setTop ml_X10_483 rfl rfl rfl dX10_work_116 rfl rfl (Nat.le_of_ble_eq_true rfl) (Nat.le_of_ble_eq_true rfl) (Nat.le_of_ble_eq_true rfl) (fun I7 P7 hP h => ?_)
        refine g_goto cx (tgt := 195) dX10_work_119 rfl ?_
        exact g_wv cx hE dX10_work_195 rfl hP h
      · have h := zifn c6 h
        by_cases c8 : y1 = 12
        · have h := zifp c8 h
          refine g_tabIn cx (tgt := 122) (off := 82) dX10_work_40 (by rw [c8]; decide) (by rw [c8]; decide) (by rw [c8]; rfl) rfl ?_
          refine g_aload_n cx dX10_work_122 rfl ?_
          refine g_iload_n cx dX10_work_123 rfl ?_
          refine g_iload_n cx dX10_work_124 rfl ?_
          obtain ⟨hc9, h⟩ := h
          refine g_idiv cx dX10_work_125 hc9 ?_
          refine g_wVv cx [.int (y3 / y2)] [] (e_X10_setTop hP h) mt_X10_setTop ml_X10_483 rfl rfl rfl dX10_work_126 rfl rfl (Nat.le_of_ble_eq_true rfl) (Nat.le_of_ble_eq_true rfl) (Nat.le_of_ble_eq_true rfl) (fun I10 P10 hP h => ?_)
          refine g_goto cx (tgt := 195) dX10_work_129 rfl ?_
          exact g_wv cx hE dX10_work_195 rfl hP h
        · have h := zifn c8 h
          by_cases c11 : y1 = 13
          · have h := zifp c11 h
            refine g_tabIn cx (tgt := 132) (off := 92) dX10_work_40 (by rw [c11]; decide) (by rw [c11]; decide) (by rw [c11]; rfl) rfl ?_
            refine g_aload_n cx dX10_work_132 rfl ?_
            refine g_iload_n cx dX10_work_133 rfl ?_
            refine g_iload_n cx dX10_work_134 rfl ?_
            obtain ⟨hc12, h⟩ := h
            refine g_irem cx dX10_work_135 hc12 ?_
            refine g_wVv cx [.int (y3 - y3 / y2 * y2)] [] (e_X10_setTop hP h) mt_X10_setTop ml_X10_483 rfl rfl rfl dX10_work_136 rfl rfl (Nat.le_of_ble_eq_true rfl) (Nat.le_of_ble_eq_true rfl) (Nat.le_of_ble_eq_true rfl) (fun I13 P13 hP h => ?_)
            refine g_goto cx (tgt := 195) dX10_work_139 rfl ?_
            exact g_wv cx hE dX10_work_195 rfl hP h
          · have h := zifn c11 h
            by_cases c14 : y1 = 14
            · have h := zifp c14 h
              refine g_tabIn cx (tgt := 142) (off := 102) dX10_work_40 (by rw [c14]; decide) (by rw [c14]; decide) (by rw [c14]; rfl) rfl ?_
              refine g_aload_n cx dX10_work_142 rfl ?_
              refine g_iload_n cx dX10_work_143 rfl ?_
              refine g_iload_n cx dX10_work_144 rfl ?_
              refine g_iand cx dX10_work_145 ?_
              refine g_wVv cx [.int (y3 &&& y2)] [] (e_X10_setTop hP h) mt_X10_setTop ml_X10_483 rfl rfl rfl dX10_work_146 rfl rfl (Nat.le_of_ble_eq_true rfl) (Nat.le_of_ble_eq_true rfl) (Nat.le_of_ble_eq_true rfl) (fun I15 P15 hP h => ?_)
              refine g_goto cx (tgt := 195) dX10_work_149 rfl ?_
              exact g_wv cx hE dX10_work_195 rfl hP h
            · have h := zifn c14 h
              by_cases c16 : y1 = 15
              · have h := zifp c16 h
                refine g_tabIn cx (tgt := 152) (off := 112) dX10_work_40 (by rw [c16]; decide) (by rw [c16]; decide) (by rw [c16]; rfl) rfl ?_
                refine g_aload_n cx dX10_work_152 rfl ?_
                refine g_iload_n cx dX10_work_153 rfl ?_
                refine g_iload_n cx dX10_work_154 rfl ?_
                refine g_ior cx dX10_work_155 ?_
                refine g_wVv cx [.int (y3 ||| y2)] [] (e_X10_setTop hP h) mt_X10_setTop ml_X10_483 rfl rfl rfl dX10_work_156 rfl rfl (Nat.le_of_ble_eq_true rfl) (Nat.le_of_ble_eq_true rfl) (Nat.le_of_ble_eq_true rfl) (fun I17 P17 hP h => ?_)
                refine g_goto cx (tgt := 195) dX10_work_159 rfl ?_
                exact g_wv cx hE dX10_work_195 rfl hP h
              · have h := zifn c16 h
                by_cases c18 : y1 = 16
                · have h := zifp c18 h
                  refine g_tabIn cx (tgt := 162) (off := 122) dX10_work_40 (by rw [c18]; decide) (by rw [c18]; decide) (by rw [c18]; rfl) rfl ?_
                  refine g_aload_n cx dX10_work_162 rfl ?_
                  refine g_iload_n cx dX10_work_163 rfl ?_
                  refine g_iload_n cx dX10_work_164 rfl ?_
                  refine g_ixor cx dX10_work_165 ?_
                  refine g_wVv cx [.int (y3 ^^^ y2)] [] (e_X10_setTop hP h) mt_X10_setTop ml_X10_483 rfl rfl rfl dX10_work_166 rfl rfl (Nat.le_of_ble_eq_true rfl) (Nat.le_of_ble_eq_true rfl) (Nat.le_of_ble_eq_true rfl) (fun I19 P19 hP h => ?_)
                  refine g_goto cx (tgt := 195) dX10_work_169 rfl ?_
                  exact g_wv cx hE dX10_work_195 rfl hP h
                · have h := zifn c18 h
                  by_cases c20 : y1 = 17
                  · have h := zifp c20 h
                    refine g_tabIn cx (tgt := 172) (off := 132) dX10_work_40 (by rw [c20]; decide) (by rw [c20]; decide) (by rw [c20]; rfl) rfl ?_
                    refine g_aload_n cx dX10_work_172 rfl ?_
                    refine g_iload_n cx dX10_work_173 rfl ?_
                    refine g_iload_n cx dX10_work_174 rfl ?_
                    refine g_bipush cx dX10_work_175 bp_31 ?_
                    refine g_iand cx dX10_work_177 ?_
                    refine g_ishl cx dX10_work_178 ?_
                    refine g_wVv cx [.int ((y3 : Int32) <<< (((y2 &&& 31) : Int32) &&& 31))] [] (e_X10_setTop hP h) mt_X10_setTop ml_X10_483 rfl rfl rfl dX10_work_179 rfl rfl (Nat.le_of_ble_eq_true rfl) (Nat.le_of_ble_eq_true rfl) (Nat.le_of_ble_eq_true rfl) (fun I21 P21 hP h => ?_)
                    refine g_goto cx (tgt := 195) dX10_work_182 rfl ?_
                    exact g_wv cx hE dX10_work_195 rfl hP h
                  · have h := zifn c20 h
                    refine g_tabOut cx (tgt := 185) dX10_work_40 (by have q0 : (y1 : Int32).toInt ≠ 9 := i32ne c2; have q1 : (y1 : Int32).toInt ≠ 10 := i32ne c4; have q2 : (y1 : Int32).toInt ≠ 11 := i32ne c6; have q3 : (y1 : Int32).toInt ≠ 12 := i32ne c8; have q4 : (y1 : Int32).toInt ≠ 13 := i32ne c11; have q5 : (y1 : Int32).toInt ≠ 14 := i32ne c14; have q6 : (y1 : Int32).toInt ≠ 15 := i32ne c16; have q7 : (y1 : Int32).toInt ≠ 16 := i32ne c18; have q8 : (y1 : Int32).toInt ≠ 17 := i32ne c20; omega) rfl ?_
                    refine g_aload_n cx dX10_work_185 rfl ?_
                    refine g_iload_n cx dX10_work_186 rfl ?_
                    refine g_iload_n cx dX10_work_187 rfl ?_
                    refine g_bipush cx dX10_work_188 bp_31 ?_
                    refine g_iand cx dX10_work_190 ?_
                    refine g_ishr cx dX10_work_191 ?_
                    refine g_wVv cx [.int ((y3 : Int32) >>> (((y2 &&& 31) : Int32) &&& 31))] [] (e_X10_setTop hP h) mt_X10_setTop ml_X10_483 rfl rfl rfl dX10_work_192 rfl rfl (Nat.le_of_ble_eq_true rfl) (Nat.le_of_ble_eq_true rfl) (Nat.le_of_ble_eq_true rfl) (fun I22 P22 hP h => ?_)
                    exact g_wv cx hE dX10_work_195 rfl hP h
def w_X10_work (x1 : Int32) (I : zI) (P : zP) (K : zI → zP → Prop) : Prop := w_X10_top 0 I P (fun (v1 : Int32) (I1 : zI) (P1 : zP) => (w_X10_top 1 I1 P1 (fun (v2 : Int32) (I2 : zI) (P2 : zP) => (w_X10_in x1 12 13 I2 P2 (fun (v3 : Int32) (I3 : zI) (P3 : zP) => (if v3 = 0 then (j_X10_work_34 K x1 v1 v2 I3 P3) else (if v1 = 0 then (K (zu I3 155 65 101) P3) else (j_X10_work_34 K x1 v1 v2 I3 P3))))))))
theorem e_X10_work {x1 : Int32} {I : zI} {P : zP} {K : zI → zP → Prop} (hP : PSt P) (h : w_X10_work x1 I P K) : Ev yX10_work cX10_work 4 none 1 22 0 0 [.ref 155, .int x1] SHy I P (zKv K) := by
  refine Ev.start [.ref 155, .int x1, .float 0, .float 0] pn_X10 rfl (Nat.le_of_ble_eq_true rfl) rfl (fun κ cx hE => ?_)
  unfold w_X10_work at h
  refine g_aload_n cx dX10_work_0 rfl ?_
  refine g_iconst cx dX10_work_1 ic_0 ?_
  refine g_wVi cx [.int 0] [] (e_X10_top hP h) mt_X10_top ml_X10_474 rfl rfl rfl dX10_work_2 rfl rfl (Nat.le_of_ble_eq_true rfl) (Nat.le_of_ble_eq_true rfl) (Nat.le_of_ble_eq_true rfl) (fun v1 I1 P1 hP h => ?_)
  refine g_istore_n cx dX10_work_5 (Nat.le_of_ble_eq_true rfl) (Gx.L [.ref 155, .int x1, .int v1, .float 0] rfl ?_)
  refine g_aload_n cx dX10_work_6 rfl ?_
  refine g_iconst cx dX10_work_7 ic_1 ?_
  refine g_wVi cx [.int 1] [] (e_X10_top hP h) mt_X10_top ml_X10_474 rfl rfl rfl dX10_work_8 rfl rfl (Nat.le_of_ble_eq_true rfl) (Nat.le_of_ble_eq_true rfl) (Nat.le_of_ble_eq_true rfl) (fun v2 I2 P2 hP h => ?_)
  refine g_istore_n cx dX10_work_11 (Nat.le_of_ble_eq_true rfl) (Gx.L [.ref 155, .int x1, .int v1, .int v2] rfl ?_)
  refine g_iload_n cx dX10_work_12 rfl ?_
  refine g_bipush cx dX10_work_13 bp_12 ?_
  refine g_bipush cx dX10_work_15 bp_13 ?_
  refine g_wSi cx [.int x1, .int 12, .int 13] [] (e_X10_in hP h) mt_X10_in ml_X10_217 dX10_work_17 rfl rfl (Nat.le_of_ble_eq_true rfl) (Nat.le_of_ble_eq_true rfl) (Nat.le_of_ble_eq_true rfl) (fun v3 I3 P3 hP h => ?_)
  refine g_if_eq cx (tgt := 34) dX10_work_20 rfl (fun c4 => ?_) (fun c4 => ?_)
  · have h := zifp c4 h
    exact gj_X10_work_34 cx hE hP h
  · have h := zifn c4 h
    refine g_iload_n cx dX10_work_23 rfl ?_
    refine g_if_ne cx (tgt := 34) dX10_work_24 rfl (fun c5 => ?_) (fun c5 => ?_)
    · have h := zifn c5 h
      exact gj_X10_work_34 cx hE hP h
    · have h := zifp c5 h
      refine g_aload_n cx dX10_work_27 rfl ?_
      refine g_bipush cx dX10_work_28 bp_101 ?_
      refine g_pI cx lk_X10_424 rfl (Nat.le_of_ble_eq_true rfl) rfl dX10_work_30 fi_10_65 rfl rfl ?_
      exact g_wv cx hE dX10_work_33 rfl hP h
def w_X10_other (x1 : Int32) (I : zI) (P : zP) (K : zI → zP → Prop) : Prop := w_X10_in x1 9 18 I P (fun (v1 : Int32) (I1 : zI) (P1 : zP) => (if v1 = 0 then (if x1 = 36 then (w_X10_newRow I1 P1 (fun (I33 : zI) (P33 : zP) => (K I33 P33))) else (if x1 = 37 then (w_X10_take I1 P1 (fun (v30 : Int32) (I30 : zI) (P30 : zP) => (vp_in v30 31 ∧ (w_X10_give (I30 201 ((v30).toNatClampNeg)) I30 P30 (fun (I32 : zI) (P32 : zP) => (K I32 P32)))))) else (if x1 = 38 then (w_X10_top 0 I1 P1 (fun (v21 : Int32) (I21 : zI) (P21 : zP) => (w_X10_top 1 I21 P21 (fun (v22 : Int32) (I22 : zI) (P22 : zP) => (vp_in v22 31 ∧ (w_X10_in v21 0 ((I22 201 ((v22).toNatClampNeg)) - 1) I22 P22 (fun (v24 : Int32) (I24 : zI) (P24 : zP) => (if v24 = 0 then (K (zu I24 155 65 102) P24) else (w_X10_take I24 P24 (fun (v26 : Int32) (I26 : zI) (P26 : zP) => (w_X10_take I26 P26 (fun (v27 : Int32) (I27 : zI) (P27 : zP) => (vp_in ((50 * v27) + v26) 1550 ∧ (w_X10_give (I27 202 ((((50 * v27) + v26)).toNatClampNeg)) I27 P27 (fun (I29 : zI) (P29 : zP) => (K I29 P29)))))))))))))))) else (if x1 = 39 then (w_X10_top 1 I1 P1 (fun (v12 : Int32) (I12 : zI) (P12 : zP) => (w_X10_top 2 I12 P12 (fun (v13 : Int32) (I13 : zI) (P13 : zP) => (vp_in v13 31 ∧ (w_X10_in v12 0 ((I13 201 ((v13).toNatClampNeg)) - 1) I13 P13 (fun (v15 : Int32) (I15 : zI) (P15 : zP) => (if v15 = 0 then (K (zu I15 155 65 102) P15) else (w_X10_take I15 P15 (fun (v17 : Int32) (I17 : zI) (P17 : zP) => (w_X10_take I17 P17 (fun (v18 : Int32) (I18 : zI) (P18 : zP) => (w_X10_take I18 P18 (fun (v19 : Int32) (I19 : zI) (P19 : zP) => (vp_in ((50 * v19) + v18) 1550 ∧ (K (zu I19 202 ((((50 * v19) + v18)).toNatClampNeg) v17) P19)))))))))))))))) else (if x1 = 41 then (w_X10_top 0 I1 P1 (fun (v8 : Int32) (I8 : zI) (P8 : zP) => (w_X10_in v8 1 99 I8 P8 (fun (v9 : Int32) (I9 : zI) (P9 : zP) => (if v9 = 0 then (K (zu I9 155 65 100) P9) else (w_X10_top 0 I9 P9 (fun (v11 : Int32) (I11 : zI) (P11 : zP) => (K (zu I11 155 65 v11) P11)))))))) else (K I1 P1)))))) else (w_X10_work x1 I1 P1 (fun (I34 : zI) (P34 : zP) => (K I34 P34)))))
theorem e_X10_other {x1 : Int32} {I : zI} {P : zP} {K : zI → zP → Prop} (hP : PSt P) (h : w_X10_other x1 I P K) : Ev yX10_other cX10_other 4 none 2 45 0 0 [.ref 155, .int x1] SHy I P (zKv K) := by
  refine Ev.start [.ref 155, .int x1, .float 0, .float 0] pn_X10 rfl (Nat.le_of_ble_eq_true rfl) rfl (fun κ cx hE => ?_)
  unfold w_X10_other at h
  refine g_iload_n cx dX10_other_0 rfl ?_
  refine g_bipush cx dX10_other_1 bp_9 ?_
  refine g_bipush cx dX10_other_3 bp_18 ?_
  refine g_wSi cx [.int x1, .int 9, .int 18] [] (e_X10_in hP h) mt_X10_in ml_X10_217 dX10_other_5 rfl rfl (Nat.le_of_ble_eq_true rfl) (Nat.le_of_ble_eq_true rfl) (Nat.le_of_ble_eq_true rfl) (fun v1 I1 P1 hP h => ?_)
  refine g_if_eq cx (tgt := 19) dX10_other_8 rfl (fun c2 => ?_) (fun c2 => ?_)
  · have h := zifp c2 h
    refine g_iload_n cx dX10_other_19 rfl ?_
    refine g_bipush cx dX10_other_20 bp_36 ?_
    refine g_icmp_ne cx (tgt := 32) dX10_other_22 rfl (fun c3 => ?_) (fun c3 => ?_)
    · have h := zifn c3 h
      refine g_iload_n cx dX10_other_32 rfl ?_
      refine g_bipush cx dX10_other_33 bp_37 ?_
      refine g_icmp_ne cx (tgt := 54) dX10_other_35 rfl (fun c4 => ?_) (fun c4 => ?_)
      · have h := zifn c4 h
        refine g_iload_n cx dX10_other_54 rfl ?_
        refine g_bipush cx dX10_other_55 bp_38 ?_
        refine g_icmp_ne cx (tgt := 119) dX10_other_57 rfl (fun c5 => ?_) (fun c5 => ?_)
        · have h := zifn c5 h
          refine g_iload_n cx dX10_other_119 rfl ?_
          refine g_bipush cx dX10_other_120 bp_39 ?_
          refine g_icmp_ne cx (tgt := 186) dX10_other_122 rfl (fun c6 => ?_) (fun c6 => ?_)
          · have h := zifn c6 h
            refine g_iload_n cx dX10_other_186 rfl ?_
            refine g_bipush cx dX10_other_187 bp_41 ?_
            refine g_icmp_ne cx (tgt := 220) dX10_other_189 rfl (fun c7 => ?_) (fun c7 => ?_)
            · have h := zifn c7 h
              exact g_wv cx hE dX10_other_220 rfl hP h
            · have h := zifp c7 h
              refine g_aload_n cx dX10_other_192 rfl ?_
              refine g_aload_n cx dX10_other_193 rfl ?_
              refine g_iconst cx dX10_other_194 ic_0 ?_
              refine g_wVi cx [.int 0] [.ref 155] (e_X10_top hP h) mt_X10_top ml_X10_474 rfl rfl rfl dX10_other_195 rfl rfl (Nat.le_of_ble_eq_true rfl) (Nat.le_of_ble_eq_true rfl) (Nat.le_of_ble_eq_true rfl) (fun v8 I8 P8 hP h => ?_)
              refine g_iconst cx dX10_other_198 ic_1 ?_
              refine g_bipush cx dX10_other_199 bp_99 ?_
              refine g_wSi cx [.int v8, .int 1, .int 99] [.ref 155] (e_X10_in hP h) mt_X10_in ml_X10_217 dX10_other_201 rfl rfl (Nat.le_of_ble_eq_true rfl) (Nat.le_of_ble_eq_true rfl) (Nat.le_of_ble_eq_true rfl) (fun v9 I9 P9 hP h => ?_)
              refine g_if_eq cx (tgt := 215) dX10_other_204 rfl (fun c10 => ?_) (fun c10 => ?_)
              · have h := zifp c10 h
                refine g_bipush cx dX10_other_215 bp_100 ?_
                refine g_pI cx lk_X10_424 rfl (Nat.le_of_ble_eq_true rfl) rfl dX10_other_217 fi_10_65 rfl rfl ?_
                exact g_wv cx hE dX10_other_220 rfl hP h
              · have h := zifn c10 h
                refine g_aload_n cx dX10_other_207 rfl ?_
                refine g_iconst cx dX10_other_208 ic_0 ?_
                refine g_wVi cx [.int 0] [.ref 155] (e_X10_top hP h) mt_X10_top ml_X10_474 rfl rfl rfl dX10_other_209 rfl rfl (Nat.le_of_ble_eq_true rfl) (Nat.le_of_ble_eq_true rfl) (Nat.le_of_ble_eq_true rfl) (fun v11 I11 P11 hP h => ?_)
                refine g_goto cx (tgt := 217) dX10_other_212 rfl ?_
                refine g_pI cx lk_X10_424 rfl (Nat.le_of_ble_eq_true rfl) rfl dX10_other_217 fi_10_65 rfl rfl ?_
                exact g_wv cx hE dX10_other_220 rfl hP h
          · have h := zifp c6 h
            refine g_aload_n cx dX10_other_125 rfl ?_
            refine g_iconst cx dX10_other_126 ic_1 ?_
            refine g_wVi cx [.int 1] [] (e_X10_top hP h) mt_X10_top ml_X10_474 rfl rfl rfl dX10_other_127 rfl rfl (Nat.le_of_ble_eq_true rfl) (Nat.le_of_ble_eq_true rfl) (Nat.le_of_ble_eq_true rfl) (fun v12 I12 P12 hP h => ?_)
            refine g_iconst cx dX10_other_130 ic_0 ?_
            refine g_aload_n cx dX10_other_131 rfl ?_
            refine g_getR cx lk_X10_150 rfl (Nat.le_of_ble_eq_true rfl) rfl dX10_other_132 (v := 201) (pst hP 200 rfl) ?_
            refine g_aload_n cx dX10_other_135 rfl ?_
            refine g_iconst cx dX10_other_136 ic_2 ?_
            refine g_wVi cx [.int 2] [.ref 201, .int 0, .int v12] (e_X10_top hP h) mt_X10_top ml_X10_474 rfl rfl rfl dX10_other_137 rfl rfl (Nat.le_of_ble_eq_true rfl) (Nat.le_of_ble_eq_true rfl) (Nat.le_of_ble_eq_true rfl) (fun v13 I13 P13 hP h => ?_)
            obtain ⟨hc14, h⟩ := h
            refine g_iald cx dX10_other_140 rfl hc14 (x := (I13 201 ((v13).toNatClampNeg))) rfl ?_
            refine g_iconst cx dX10_other_141 ic_1 ?_
            refine g_isub cx dX10_other_142 ?_
            refine g_wSi cx [.int v12, .int 0, .int ((I13 201 ((v13).toNatClampNeg)) - 1)] [] (e_X10_in hP h) mt_X10_in ml_X10_217 dX10_other_143 rfl rfl (Nat.le_of_ble_eq_true rfl) (Nat.le_of_ble_eq_true rfl) (Nat.le_of_ble_eq_true rfl) (fun v15 I15 P15 hP h => ?_)
            refine g_if_eq cx (tgt := 177) dX10_other_146 rfl (fun c16 => ?_) (fun c16 => ?_)
            · have h := zifp c16 h
              refine g_aload_n cx dX10_other_177 rfl ?_
              refine g_bipush cx dX10_other_178 bp_102 ?_
              refine g_pI cx lk_X10_424 rfl (Nat.le_of_ble_eq_true rfl) rfl dX10_other_180 fi_10_65 rfl rfl ?_
              refine g_goto cx (tgt := 220) dX10_other_183 rfl ?_
              exact g_wv cx hE dX10_other_220 rfl hP h
            · have h := zifn c16 h
              refine g_aload_n cx dX10_other_149 rfl ?_
              refine g_wVi cx [] [] (e_X10_take hP h) mt_X10_take ml_X10_498 rfl rfl rfl dX10_other_150 rfl rfl (Nat.le_of_ble_eq_true rfl) (Nat.le_of_ble_eq_true rfl) (Nat.le_of_ble_eq_true rfl) (fun v17 I17 P17 hP h => ?_)
              refine g_istore_n cx dX10_other_153 (Nat.le_of_ble_eq_true rfl) (Gx.L [.ref 155, .int x1, .int v17, .float 0] rfl ?_)
              refine g_aload_n cx dX10_other_154 rfl ?_
              refine g_wVi cx [] [] (e_X10_take hP h) mt_X10_take ml_X10_498 rfl rfl rfl dX10_other_155 rfl rfl (Nat.le_of_ble_eq_true rfl) (Nat.le_of_ble_eq_true rfl) (Nat.le_of_ble_eq_true rfl) (fun v18 I18 P18 hP h => ?_)
              refine g_istore_n cx dX10_other_158 (Nat.le_of_ble_eq_true rfl) (Gx.L [.ref 155, .int x1, .int v17, .int v18] rfl ?_)
              refine g_aload_n cx dX10_other_159 rfl ?_
              refine g_getR cx lk_X10_153 rfl (Nat.le_of_ble_eq_true rfl) rfl dX10_other_160 (v := 202) (pst hP 201 rfl) ?_
              refine g_bipush cx dX10_other_163 bp_50 ?_
              refine g_aload_n cx dX10_other_165 rfl ?_
              refine g_wVi cx [] [.int 50, .ref 202] (e_X10_take hP h) mt_X10_take ml_X10_498 rfl rfl rfl dX10_other_166 rfl rfl (Nat.le_of_ble_eq_true rfl) (Nat.le_of_ble_eq_true rfl) (Nat.le_of_ble_eq_true rfl) (fun v19 I19 P19 hP h => ?_)
              refine g_imul cx dX10_other_169 ?_
              refine g_iload_n cx dX10_other_170 rfl ?_
              refine g_iadd cx dX10_other_171 ?_
              refine g_iload_n cx dX10_other_172 rfl ?_
              obtain ⟨hc20, h⟩ := h
              refine g_iast cx dX10_other_173 rfl hc20 ?_
              refine g_goto cx (tgt := 220) dX10_other_174 rfl ?_
              exact g_wv cx hE dX10_other_220 rfl hP h
        · have h := zifp c5 h
          refine g_aload_n cx dX10_other_60 rfl ?_
          refine g_iconst cx dX10_other_61 ic_0 ?_
          refine g_wVi cx [.int 0] [] (e_X10_top hP h) mt_X10_top ml_X10_474 rfl rfl rfl dX10_other_62 rfl rfl (Nat.le_of_ble_eq_true rfl) (Nat.le_of_ble_eq_true rfl) (Nat.le_of_ble_eq_true rfl) (fun v21 I21 P21 hP h => ?_)
          refine g_iconst cx dX10_other_65 ic_0 ?_
          refine g_aload_n cx dX10_other_66 rfl ?_
          refine g_getR cx lk_X10_150 rfl (Nat.le_of_ble_eq_true rfl) rfl dX10_other_67 (v := 201) (pst hP 200 rfl) ?_
          refine g_aload_n cx dX10_other_70 rfl ?_
          refine g_iconst cx dX10_other_71 ic_1 ?_
          refine g_wVi cx [.int 1] [.ref 201, .int 0, .int v21] (e_X10_top hP h) mt_X10_top ml_X10_474 rfl rfl rfl dX10_other_72 rfl rfl (Nat.le_of_ble_eq_true rfl) (Nat.le_of_ble_eq_true rfl) (Nat.le_of_ble_eq_true rfl) (fun v22 I22 P22 hP h => ?_)
          obtain ⟨hc23, h⟩ := h
          refine g_iald cx dX10_other_75 rfl hc23 (x := (I22 201 ((v22).toNatClampNeg))) rfl ?_
          refine g_iconst cx dX10_other_76 ic_1 ?_
          refine g_isub cx dX10_other_77 ?_
          refine g_wSi cx [.int v21, .int 0, .int ((I22 201 ((v22).toNatClampNeg)) - 1)] [] (e_X10_in hP h) mt_X10_in ml_X10_217 dX10_other_78 rfl rfl (Nat.le_of_ble_eq_true rfl) (Nat.le_of_ble_eq_true rfl) (Nat.le_of_ble_eq_true rfl) (fun v24 I24 P24 hP h => ?_)
          refine g_if_eq cx (tgt := 110) dX10_other_81 rfl (fun c25 => ?_) (fun c25 => ?_)
          · have h := zifp c25 h
            refine g_aload_n cx dX10_other_110 rfl ?_
            refine g_bipush cx dX10_other_111 bp_102 ?_
            refine g_pI cx lk_X10_424 rfl (Nat.le_of_ble_eq_true rfl) rfl dX10_other_113 fi_10_65 rfl rfl ?_
            refine g_goto cx (tgt := 220) dX10_other_116 rfl ?_
            exact g_wv cx hE dX10_other_220 rfl hP h
          · have h := zifn c25 h
            refine g_aload_n cx dX10_other_84 rfl ?_
            refine g_wVi cx [] [] (e_X10_take hP h) mt_X10_take ml_X10_498 rfl rfl rfl dX10_other_85 rfl rfl (Nat.le_of_ble_eq_true rfl) (Nat.le_of_ble_eq_true rfl) (Nat.le_of_ble_eq_true rfl) (fun v26 I26 P26 hP h => ?_)
            refine g_istore_n cx dX10_other_88 (Nat.le_of_ble_eq_true rfl) (Gx.L [.ref 155, .int x1, .int v26, .float 0] rfl ?_)
            refine g_aload_n cx dX10_other_89 rfl ?_
            refine g_aload_n cx dX10_other_90 rfl ?_
            refine g_getR cx lk_X10_153 rfl (Nat.le_of_ble_eq_true rfl) rfl dX10_other_91 (v := 202) (pst hP 201 rfl) ?_
            refine g_bipush cx dX10_other_94 bp_50 ?_
            refine g_aload_n cx dX10_other_96 rfl ?_
            refine g_wVi cx [] [.int 50, .ref 202, .ref 155] (e_X10_take hP h) mt_X10_take ml_X10_498 rfl rfl rfl dX10_other_97 rfl rfl (Nat.le_of_ble_eq_true rfl) (Nat.le_of_ble_eq_true rfl) (Nat.le_of_ble_eq_true rfl) (fun v27 I27 P27 hP h => ?_)
            refine g_imul cx dX10_other_100 ?_
            refine g_iload_n cx dX10_other_101 rfl ?_
            refine g_iadd cx dX10_other_102 ?_
            obtain ⟨hc28, h⟩ := h
            refine g_iald cx dX10_other_103 rfl hc28 (x := (I27 202 ((((50 * v27) + v26)).toNatClampNeg))) rfl ?_
            refine g_wVv cx [.int (I27 202 ((((50 * v27) + v26)).toNatClampNeg))] [] (e_X10_give hP h) mt_X10_give ml_X10_510 rfl rfl rfl dX10_other_104 rfl rfl (Nat.le_of_ble_eq_true rfl) (Nat.le_of_ble_eq_true rfl) (Nat.le_of_ble_eq_true rfl) (fun I29 P29 hP h => ?_)
            refine g_goto cx (tgt := 220) dX10_other_107 rfl ?_
            exact g_wv cx hE dX10_other_220 rfl hP h
      · have h := zifp c4 h
        refine g_aload_n cx dX10_other_38 rfl ?_
        refine g_aload_n cx dX10_other_39 rfl ?_
        refine g_getR cx lk_X10_150 rfl (Nat.le_of_ble_eq_true rfl) rfl dX10_other_40 (v := 201) (pst hP 200 rfl) ?_
        refine g_aload_n cx dX10_other_43 rfl ?_
        refine g_wVi cx [] [.ref 201, .ref 155] (e_X10_take hP h) mt_X10_take ml_X10_498 rfl rfl rfl dX10_other_44 rfl rfl (Nat.le_of_ble_eq_true rfl) (Nat.le_of_ble_eq_true rfl) (Nat.le_of_ble_eq_true rfl) (fun v30 I30 P30 hP h => ?_)
        obtain ⟨hc31, h⟩ := h
        refine g_iald cx dX10_other_47 rfl hc31 (x := (I30 201 ((v30).toNatClampNeg))) rfl ?_
        refine g_wVv cx [.int (I30 201 ((v30).toNatClampNeg))] [] (e_X10_give hP h) mt_X10_give ml_X10_510 rfl rfl rfl dX10_other_48 rfl rfl (Nat.le_of_ble_eq_true rfl) (Nat.le_of_ble_eq_true rfl) (Nat.le_of_ble_eq_true rfl) (fun I32 P32 hP h => ?_)
        refine g_goto cx (tgt := 220) dX10_other_51 rfl ?_
        exact g_wv cx hE dX10_other_220 rfl hP h
    · have h := zifp c3 h
      refine g_aload_n cx dX10_other_25 rfl ?_
      refine g_wVv cx [] [] (e_X10_newRow hP h) mt_X10_newRow ml_X10_539 rfl rfl rfl dX10_other_26 rfl rfl (Nat.le_of_ble_eq_true rfl) (Nat.le_of_ble_eq_true rfl) (Nat.le_of_ble_eq_true rfl) (fun I33 P33 hP h => ?_)
      refine g_goto cx (tgt := 220) dX10_other_29 rfl ?_
      exact g_wv cx hE dX10_other_220 rfl hP h
  · have h := zifn c2 h
    refine g_aload_n cx dX10_other_11 rfl ?_
    refine g_iload_n cx dX10_other_12 rfl ?_
    refine g_wVv cx [.int x1] [] (e_X10_work hP h) mt_X10_work ml_X10_536 rfl rfl rfl dX10_other_13 rfl rfl (Nat.le_of_ble_eq_true rfl) (Nat.le_of_ble_eq_true rfl) (Nat.le_of_ble_eq_true rfl) (fun I34 P34 hP h => ?_)
    refine g_goto cx (tgt := 220) dX10_other_16 rfl ?_
    exact g_wv cx hE dX10_other_220 rfl hP h
def w_X10_sizeOf (x1 : Int32) (x2 : Int32) (I : zI) (P : zP) (K : Int32 → zI → zP → Prop) : Prop := if x1 = 1 then (K 2 I P) else (if x1 = 2 then (K 5 I P) else (if x1 = 3 then (K 2 I P) else (if x1 = 4 then (K 2 I P) else (if x1 = 5 then (K 3 I P) else (if x1 = 33 then (K (4 + (2 * x2)) I P) else (if x1 = 34 then (K 2 I P) else (if x1 = 35 then (K 2 I P) else (if x1 = 40 then (K 2 I P) else (if x1 = 49 then (K 3 I P) else (if x1 = 58 then (K 1 I P) else (w_X10_in x1 20 32 I P (fun (v12 : Int32) (I12 : zI) (P12 : zP) => (if v12 = 0 then (w_X10_in x1 48 57 I12 P12 (fun (v14 : Int32) (I14 : zI) (P14 : zP) => (if v14 = 0 then (w_X10_in x1 84 96 I14 P14 (fun (v16 : Int32) (I16 : zI) (P16 : zP) => (if v16 = 0 then (K 1 I16 P16) else (K 3 I16 P16)))) else (K 2 I14 P14)))) else (K 2 I12 P12))))))))))))))
theorem e_X10_sizeOf {x1 : Int32} {x2 : Int32} {I : zI} {P : zP} {K : Int32 → zI → zP → Prop} (hP : PSt P) (h : w_X10_sizeOf x1 x2 I P K) : Ev yX10_sizeOf cX10_sizeOf 2 (some .int) 1 22 0 0 [.int x1, .int x2] SHy I P (zKi K) := by
  refine Ev.start [.int x1, .int x2] pn_X10 rfl (Nat.le_of_ble_eq_true rfl) rfl (fun κ cx hE => ?_)
  unfold w_X10_sizeOf at h
  refine g_iload_n cx dX10_sizeOf_0 rfl ?_
  by_cases c1 : x1 = 1
  · have h := zifp c1 h
    refine g_lookup cx (tgt := 104) (off := 103) dX10_sizeOf_1 (by decide) (by rw [c1]; decide) rfl ?_
    refine g_iconst cx dX10_sizeOf_104 ic_2 ?_
    exact g_wi cx hE dX10_sizeOf_105 rfl rfl hP h
  · have h := zifn c1 h
    by_cases c2 : x1 = 2
    · have h := zifp c2 h
      refine g_lookup cx (tgt := 100) (off := 99) dX10_sizeOf_1 (by decide) (by rw [c2]; decide) rfl ?_
      refine g_iconst cx dX10_sizeOf_100 ic_5 ?_
      exact g_wi cx hE dX10_sizeOf_101 rfl rfl hP h
    · have h := zifn c2 h
      by_cases c3 : x1 = 3
      · have h := zifp c3 h
        refine g_lookup cx (tgt := 104) (off := 103) dX10_sizeOf_1 (by decide) (by rw [c3]; decide) rfl ?_
        refine g_iconst cx dX10_sizeOf_104 ic_2 ?_
        exact g_wi cx hE dX10_sizeOf_105 rfl rfl hP h
      · have h := zifn c3 h
        by_cases c4 : x1 = 4
        · have h := zifp c4 h
          refine g_lookup cx (tgt := 104) (off := 103) dX10_sizeOf_1 (by decide) (by rw [c4]; decide) rfl ?_
          refine g_iconst cx dX10_sizeOf_104 ic_2 ?_
          exact g_wi cx hE dX10_sizeOf_105 rfl rfl hP h
        · have h := zifn c4 h
          by_cases c5 : x1 = 5
          · have h := zifp c5 h
            refine g_lookup cx (tgt := 102) (off := 101) dX10_sizeOf_1 (by decide) (by rw [c5]; decide) rfl ?_
            refine g_iconst cx dX10_sizeOf_102 ic_3 ?_
            exact g_wi cx hE dX10_sizeOf_103 rfl rfl hP h
          · have h := zifn c5 h
            by_cases c6 : x1 = 33
            · have h := zifp c6 h
              refine g_lookup cx (tgt := 106) (off := 105) dX10_sizeOf_1 (by decide) (by rw [c6]; decide) rfl ?_
              refine g_iconst cx dX10_sizeOf_106 ic_4 ?_
              refine g_iconst cx dX10_sizeOf_107 ic_2 ?_
              refine g_iload_n cx dX10_sizeOf_108 rfl ?_
              refine g_imul cx dX10_sizeOf_109 ?_
              refine g_iadd cx dX10_sizeOf_110 ?_
              exact g_wi cx hE dX10_sizeOf_111 rfl rfl hP h
            · have h := zifn c6 h
              by_cases c7 : x1 = 34
              · have h := zifp c7 h
                refine g_lookup cx (tgt := 104) (off := 103) dX10_sizeOf_1 (by decide) (by rw [c7]; decide) rfl ?_
                refine g_iconst cx dX10_sizeOf_104 ic_2 ?_
                exact g_wi cx hE dX10_sizeOf_105 rfl rfl hP h
              · have h := zifn c7 h
                by_cases c8 : x1 = 35
                · have h := zifp c8 h
                  refine g_lookup cx (tgt := 104) (off := 103) dX10_sizeOf_1 (by decide) (by rw [c8]; decide) rfl ?_
                  refine g_iconst cx dX10_sizeOf_104 ic_2 ?_
                  exact g_wi cx hE dX10_sizeOf_105 rfl rfl hP h
                · have h := zifn c8 h
                  by_cases c9 : x1 = 40
                  · have h := zifp c9 h
                    refine g_lookup cx (tgt := 104) (off := 103) dX10_sizeOf_1 (by decide) (by rw [c9]; decide) rfl ?_
                    refine g_iconst cx dX10_sizeOf_104 ic_2 ?_
                    exact g_wi cx hE dX10_sizeOf_105 rfl rfl hP h
                  · have h := zifn c9 h
                    by_cases c10 : x1 = 49
                    · have h := zifp c10 h
                      refine g_lookup cx (tgt := 102) (off := 101) dX10_sizeOf_1 (by decide) (by rw [c10]; decide) rfl ?_
                      refine g_iconst cx dX10_sizeOf_102 ic_3 ?_
                      exact g_wi cx hE dX10_sizeOf_103 rfl rfl hP h
                    · have h := zifn c10 h
                      by_cases c11 : x1 = 58
                      · have h := zifp c11 h
                        refine g_lookup cx (tgt := 112) (off := 111) dX10_sizeOf_1 (by decide) (by rw [c11]; decide) rfl ?_
                        refine g_iconst cx dX10_sizeOf_112 ic_1 ?_
                        exact g_wi cx hE dX10_sizeOf_113 rfl rfl hP h
                      · have h := zifn c11 h
                        refine g_lookup cx (tgt := 114) (off := 113) dX10_sizeOf_1 (by decide) (by have q0 : (x1 : Int32).toInt ≠ 1 := i32ne c1; have q1 : (x1 : Int32).toInt ≠ 2 := i32ne c2; have q2 : (x1 : Int32).toInt ≠ 3 := i32ne c3; have q3 : (x1 : Int32).toInt ≠ 4 := i32ne c4; have q4 : (x1 : Int32).toInt ≠ 5 := i32ne c5; have q5 : (x1 : Int32).toInt ≠ 33 := i32ne c6; have q6 : (x1 : Int32).toInt ≠ 34 := i32ne c7; have q7 : (x1 : Int32).toInt ≠ 35 := i32ne c8; have q8 : (x1 : Int32).toInt ≠ 40 := i32ne c9; have q9 : (x1 : Int32).toInt ≠ 49 := i32ne c10; have q10 : (x1 : Int32).toInt ≠ 58 := i32ne c11; show Op.lookupswitch.offset [(1, 103), (2, 99), (3, 103), (4, 103), (5, 101), (33, 105), (34, 103), (35, 103), (40, 103), (49, 101), (58, 111)] 113 _ = _; (repeat (rw [Op.lookupswitch.offset_cons, if_neg (by omega)])); rfl) rfl ?_
                        refine g_iload_n cx dX10_sizeOf_114 rfl ?_
                        refine g_bipush cx dX10_sizeOf_115 bp_20 ?_
                        refine g_bipush cx dX10_sizeOf_117 bp_32 ?_
                        refine g_wSi cx [.int x1, .int 20, .int 32] [] (e_X10_in hP h) mt_X10_in ml_X10_217 dX10_sizeOf_119 rfl rfl (Nat.le_of_ble_eq_true rfl) (Nat.le_of_ble_eq_true rfl) (Nat.le_of_ble_eq_true rfl) (fun v12 I12 P12 hP h => ?_)
                        refine g_if_ne cx (tgt := 136) dX10_sizeOf_122 rfl (fun c13 => ?_) (fun c13 => ?_)
                        · have h := zifn c13 h
                          refine g_iconst cx dX10_sizeOf_136 ic_2 ?_
                          refine g_goto cx (tgt := 156) dX10_sizeOf_137 rfl ?_
                          exact g_wi cx hE dX10_sizeOf_156 rfl rfl hP h
                        · have h := zifp c13 h
                          refine g_iload_n cx dX10_sizeOf_125 rfl ?_
                          refine g_bipush cx dX10_sizeOf_126 bp_48 ?_
                          refine g_bipush cx dX10_sizeOf_128 bp_57 ?_
                          refine g_wSi cx [.int x1, .int 48, .int 57] [] (e_X10_in hP h) mt_X10_in ml_X10_217 dX10_sizeOf_130 rfl rfl (Nat.le_of_ble_eq_true rfl) (Nat.le_of_ble_eq_true rfl) (Nat.le_of_ble_eq_true rfl) (fun v14 I14 P14 hP h => ?_)
                          refine g_if_eq cx (tgt := 140) dX10_sizeOf_133 rfl (fun c15 => ?_) (fun c15 => ?_)
                          · have h := zifp c15 h
                            refine g_iload_n cx dX10_sizeOf_140 rfl ?_
                            refine g_bipush cx dX10_sizeOf_141 bp_84 ?_
                            refine g_bipush cx dX10_sizeOf_143 bp_96 ?_
                            refine g_wSi cx [.int x1, .int 84, .int 96] [] (e_X10_in hP h) mt_X10_in ml_X10_217 dX10_sizeOf_145 rfl rfl (Nat.le_of_ble_eq_true rfl) (Nat.le_of_ble_eq_true rfl) (Nat.le_of_ble_eq_true rfl) (fun v16 I16 P16 hP h => ?_)
                            refine g_if_eq cx (tgt := 155) dX10_sizeOf_148 rfl (fun c17 => ?_) (fun c17 => ?_)
                            · have h := zifp c17 h
                              refine g_iconst cx dX10_sizeOf_155 ic_1 ?_
                              exact g_wi cx hE dX10_sizeOf_156 rfl rfl hP h
                            · have h := zifn c17 h
                              refine g_iconst cx dX10_sizeOf_151 ic_3 ?_
                              refine g_goto cx (tgt := 156) dX10_sizeOf_152 rfl ?_
                              exact g_wi cx hE dX10_sizeOf_156 rfl rfl hP h
                          · have h := zifn c15 h
                            refine g_iconst cx dX10_sizeOf_136 ic_2 ?_
                            refine g_goto cx (tgt := 156) dX10_sizeOf_137 rfl ?_
                            exact g_wi cx hE dX10_sizeOf_156 rfl rfl hP h
def w_X10_swap (I : zI) (P : zP) (K : zI → zP → Prop) : Prop := w_X10_take I P (fun (v1 : Int32) (I1 : zI) (P1 : zP) => (w_X10_take I1 P1 (fun (v2 : Int32) (I2 : zI) (P2 : zP) => (w_X10_give v1 I2 P2 (fun (I3 : zI) (P3 : zP) => (w_X10_give v2 I3 P3 (fun (I4 : zI) (P4 : zP) => (K I4 P4))))))))
theorem e_X10_swap {I : zI} {P : zP} {K : zI → zP → Prop} (hP : PSt P) (h : w_X10_swap I P K) : Ev yX10_swap cX10_swap 3 none 1 21 0 0 [.ref 155] SHy I P (zKv K) := by
  refine Ev.start [.ref 155, .float 0, .float 0] pn_X10 rfl (Nat.le_of_ble_eq_true rfl) rfl (fun κ cx hE => ?_)
  unfold w_X10_swap at h
  refine g_aload_n cx dX10_swap_0 rfl ?_
  refine g_wVi cx [] [] (e_X10_take hP h) mt_X10_take ml_X10_498 rfl rfl rfl dX10_swap_1 rfl rfl (Nat.le_of_ble_eq_true rfl) (Nat.le_of_ble_eq_true rfl) (Nat.le_of_ble_eq_true rfl) (fun v1 I1 P1 hP h => ?_)
  refine g_istore_n cx dX10_swap_4 (Nat.le_of_ble_eq_true rfl) (Gx.L [.ref 155, .int v1, .float 0] rfl ?_)
  refine g_aload_n cx dX10_swap_5 rfl ?_
  refine g_wVi cx [] [] (e_X10_take hP h) mt_X10_take ml_X10_498 rfl rfl rfl dX10_swap_6 rfl rfl (Nat.le_of_ble_eq_true rfl) (Nat.le_of_ble_eq_true rfl) (Nat.le_of_ble_eq_true rfl) (fun v2 I2 P2 hP h => ?_)
  refine g_istore_n cx dX10_swap_9 (Nat.le_of_ble_eq_true rfl) (Gx.L [.ref 155, .int v1, .int v2] rfl ?_)
  refine g_aload_n cx dX10_swap_10 rfl ?_
  refine g_iload_n cx dX10_swap_11 rfl ?_
  refine g_wVv cx [.int v1] [] (e_X10_give hP h) mt_X10_give ml_X10_510 rfl rfl rfl dX10_swap_12 rfl rfl (Nat.le_of_ble_eq_true rfl) (Nat.le_of_ble_eq_true rfl) (Nat.le_of_ble_eq_true rfl) (fun I3 P3 hP h => ?_)
  refine g_aload_n cx dX10_swap_15 rfl ?_
  refine g_iload_n cx dX10_swap_16 rfl ?_
  refine g_wVv cx [.int v2] [] (e_X10_give hP h) mt_X10_give ml_X10_510 rfl rfl rfl dX10_swap_17 rfl rfl (Nat.le_of_ble_eq_true rfl) (Nat.le_of_ble_eq_true rfl) (Nat.le_of_ble_eq_true rfl) (fun I4 P4 hP h => ?_)
  exact g_wv cx hE dX10_swap_20 rfl hP h
