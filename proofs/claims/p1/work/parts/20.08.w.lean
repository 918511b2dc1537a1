def j_X10_oldWoven_95 (K : zI → zP → Prop) (s0 : Int32) (s1 : Int32) (s3 : Int32) (s4 : Int32) (I : zI) (P : zP) : Prop := vp_in (s1 + s0) 6000 ∧ (w_X10_old s4 s3 (I 176 (((s1 + s0)).toNatClampNeg)) I P (fun (I2 : zI) (P2 : zP) => (K I2 P2)))
theorem gj_X10_oldWoven_95 {κ : zX} (cx : Cx yX10_oldWoven cX10_oldWoven 5 none 2 46 κ) {K : zI → zP → Prop} (hE : zEnd (zKv K) 0 0 κ) {s0 : Int32} {s1 : Int32} {s3 : Int32} {s4 : Int32} {I : zI} {P : zP} (hP : PSt P) (h : j_X10_oldWoven_95 K s0 s1 s3 s4 I P) : Gx κ 95 [.float 0, .float 0, .float 0, .float 0, .float 0] [.int s0, .int s1, .ref 176, .int s3, .int s4, .ref 155] SHy I P 0 0 := by
  unfold j_X10_oldWoven_95 at h
  refine g_iadd cx dX10_oldWoven_95 ?_
  obtain ⟨hc1, h⟩ := h
  refine g_iald cx dX10_oldWoven_96 rfl hc1 (x := (I 176 (((s1 + s0)).toNatClampNeg))) rfl ?_
  refine g_wVv cx [.int s4, .int s3, .int (I 176 (((s1 + s0)).toNatClampNeg))] [] (e_X10_old hP h) mt_X10_old ml_X10_477 rfl rfl rfl dX10_oldWoven_97 rfl rfl (Nat.le_of_ble_eq_true rfl) (Nat.le_of_ble_eq_true rfl) (Nat.le_of_ble_eq_true rfl) (fun I2 P2 hP h => ?_)
  exact g_wv cx hE dX10_oldWoven_100 rfl hP h
def l_X10_oldWoven_3 (K : zI → zP → Prop) : Nat → Int32 → Int32 → Int32 → zI → zP → Prop
  | 0, _, _, _, _, _ => False
  | n + 1, y1, y3, y4, I, P => vp_in ((1000 * y1) + y4) 6000 ∧ (if (I 178 ((((1000 * y1) + y4)).toNatClampNeg)) = (-1) then (vp_in ((1000 * y1) + y4) 6000 ∧ (w_X10_sizeOf (I 176 ((((1000 * y1) + y4)).toNatClampNeg)) 0 I P (fun (v7 : Int32) (I7 : zI) (P7 : zP) => ((l_X10_oldWoven_3 K n) y1 y3 (y4 + v7) I7 P7)))) else (vp_in ((1000 * y1) + y4) 6000 ∧ (vp_in ((1000 * y1) + y4) 6000 ∧ (if (I 176 ((((1000 * y1) + y4)).toNatClampNeg)) = 35 then (j_X10_oldWoven_95 K 1 ((1000 * y1) + y4) (I 176 ((((1000 * y1) + y4)).toNatClampNeg)) y3 I P) else (j_X10_oldWoven_95 K 0 ((1000 * y1) + y4) (I 176 ((((1000 * y1) + y4)).toNatClampNeg)) y3 I P)))))
theorem gl_X10_oldWoven_3 {κ : zX} (cx : Cx yX10_oldWoven cX10_oldWoven 5 none 2 46 κ) {K : zI → zP → Prop} (hE : zEnd (zKv K) 0 0 κ) : ∀ (n : Nat) (y1 : Int32) (y3 : Int32) (y4 : Int32) (I : zI) (P : zP), PSt P → l_X10_oldWoven_3 K n y1 y3 y4 I P → Gx κ 3 [.ref 155, .int y1, .float 0, .int y3, .int y4] [] SHy I P 0 0 := by
  intro n
  induction n with
  | zero =>
    intro y1 y3 y4 I P hP h
    rw [l_X10_oldWoven_3] at h
    exact False.elim h
  | succ n ih =>
    intro y1 y3 y4 I P hP h
    rw [l_X10_oldWoven_3] at h
    refine g_aload_n cx dX10_oldWoven_3 rfl ?_
    refine g_getR cx lk_X10_81 rfl (Nat.le_of_ble_eq_true rfl) rfl dX10_oldWoven_4 (v := 178) (pst hP 177 rfl) ?_
    refine g_sipush cx dX10_oldWoven_7 sp_1000 ?_
    refine g_iload_n cx dX10_oldWoven_10 rfl ?_
    refine g_imul cx dX10_oldWoven_11 ?_
    refine g_iload cx dX10_oldWoven_12 rfl ?_
    refine g_iadd cx dX10_oldWoven_14 ?_
    obtain ⟨hc1, h⟩ := h
    refine g_iald cx dX10_oldWoven_15 rfl hc1 (x := (I 178 ((((1000 * y1) + y4)).toNatClampNeg))) rfl ?_
    refine g_iconst cx dX10_oldWoven_16 ic_m1 ?_
    refine g_icmp_ne cx (tgt := 45) dX10_oldWoven_17 rfl (fun c2 => ?_) (fun c2 => ?_)
    · have h := zifn c2 h
      refine g_aload_n cx dX10_oldWoven_45 rfl ?_
      refine g_iload_n cx dX10_oldWoven_46 rfl ?_
      refine g_aload_n cx dX10_oldWoven_47 rfl ?_
      refine g_getR cx lk_X10_75 rfl (Nat.le_of_ble_eq_true rfl) rfl dX10_oldWoven_48 (v := 176) (pst hP 175 rfl) ?_
      refine g_sipush cx dX10_oldWoven_51 sp_1000 ?_
      refine g_iload_n cx dX10_oldWoven_54 rfl ?_
      refine g_imul cx dX10_oldWoven_55 ?_
      refine g_iload cx dX10_oldWoven_56 rfl ?_
      refine g_iadd cx dX10_oldWoven_58 ?_
      obtain ⟨hc3, h⟩ := h
      refine g_iald cx dX10_oldWoven_59 rfl hc3 (x := (I 176 ((((1000 * y1) + y4)).toNatClampNeg))) rfl ?_
      refine g_aload_n cx dX10_oldWoven_60 rfl ?_
      refine g_getR cx lk_X10_75 rfl (Nat.le_of_ble_eq_true rfl) rfl dX10_oldWoven_61 (v := 176) (pst hP 175 rfl) ?_
      refine g_sipush cx dX10_oldWoven_64 sp_1000 ?_
      refine g_iload_n cx dX10_oldWoven_67 rfl ?_
      refine g_imul cx dX10_oldWoven_68 ?_
      refine g_iload cx dX10_oldWoven_69 rfl ?_
      refine g_iadd cx dX10_oldWoven_71 ?_
      refine g_aload_n cx dX10_oldWoven_72 rfl ?_
      refine g_getR cx lk_X10_75 rfl (Nat.le_of_ble_eq_true rfl) rfl dX10_oldWoven_73 (v := 176) (pst hP 175 rfl) ?_
      refine g_sipush cx dX10_oldWoven_76 sp_1000 ?_
      refine g_iload_n cx dX10_oldWoven_79 rfl ?_
      refine g_imul cx dX10_oldWoven_80 ?_
      refine g_iload cx dX10_oldWoven_81 rfl ?_
      refine g_iadd cx dX10_oldWoven_83 ?_
      refine Gx.N 84 rfl ?_
      obtain ⟨hc4, h⟩ := h
      refine g_iald cx dX10_oldWoven_84 rfl hc4 (x := (I 176 ((((1000 * y1) + y4)).toNatClampNeg))) rfl ?_
      refine g_bipush cx dX10_oldWoven_85 bp_35 ?_
      refine g_icmp_ne cx (tgt := 94) dX10_oldWoven_87 rfl (fun c5 => ?_) (fun c5 => ?_)
      · have h := zifn c5 h
        refine g_iconst cx dX10_oldWoven_94 ic_0 ?_
        refine (Gx.unset 0 (Gx.unset 1 (Gx.unset 3 (Gx.unset 4 (Gx.L [.float 0, .float 0, .float 0, .float 0, .float 0] rfl ?_)))))
        exact gj_X10_oldWoven_95 cx hE hP h
      · have h := zifp c5 h
        refine g_iconst cx dX10_oldWoven_90 ic_1 ?_
        refine g_goto cx (tgt := 95) dX10_oldWoven_91 rfl ?_
        refine (Gx.unset 0 (Gx.unset 1 (Gx.unset 3 (Gx.unset 4 (Gx.L [.float 0, .float 0, .float 0, .float 0, .float 0] rfl ?_)))))
        exact gj_X10_oldWoven_95 cx hE hP h
    · have h := zifp c2 h
      refine g_iload cx dX10_oldWoven_20 rfl ?_
      refine g_aload_n cx dX10_oldWoven_22 rfl ?_
      refine g_getR cx lk_X10_75 rfl (Nat.le_of_ble_eq_true rfl) rfl dX10_oldWoven_23 (v := 176) (pst hP 175 rfl) ?_
      refine g_sipush cx dX10_oldWoven_26 sp_1000 ?_
      refine g_iload_n cx dX10_oldWoven_29 rfl ?_
      refine g_imul cx dX10_oldWoven_30 ?_
      refine g_iload cx dX10_oldWoven_31 rfl ?_
      refine g_iadd cx dX10_oldWoven_33 ?_
      obtain ⟨hc6, h⟩ := h
      refine g_iald cx dX10_oldWoven_34 rfl hc6 (x := (I 176 ((((1000 * y1) + y4)).toNatClampNeg))) rfl ?_
      refine g_iconst cx dX10_oldWoven_35 ic_0 ?_
      refine g_wSi cx [.int (I 176 ((((1000 * y1) + y4)).toNatClampNeg)), .int 0] [.int y4] (e_X10_sizeOf hP h) mt_X10_sizeOf ml_X10_222 dX10_oldWoven_36 rfl rfl (Nat.le_of_ble_eq_true rfl) (Nat.le_of_ble_eq_true rfl) (Nat.le_of_ble_eq_true rfl) (fun v7 I7 P7 hP h => ?_)
      refine g_iadd cx dX10_oldWoven_39 ?_
      refine g_istore cx dX10_oldWoven_40 (Nat.le_of_ble_eq_true rfl) (Gx.L [.ref 155, .int y1, .float 0, .int y3, .int (y4 + v7)] rfl ?_)
      refine g_goto cx (tgt := 3) dX10_oldWoven_42 rfl ?_
      exact ih _ _ _ _ _ hP h
def w_X10_oldWoven (x1 : Int32) (x2 : Int32) (x3 : Int32) (I : zI) (P : zP) (K : zI → zP → Prop) : Prop := ∃ n9, l_X10_oldWoven_3 K n9 x1 x3 x2 I P
theorem e_X10_oldWoven {x1 : Int32} {x2 : Int32} {x3 : Int32} {I : zI} {P : zP} {K : zI → zP → Prop} (hP : PSt P) (h : w_X10_oldWoven x1 x2 x3 I P K) : Ev yX10_oldWoven cX10_oldWoven 5 none 2 46 0 0 [.ref 155, .int x1, .int x2, .int x3] SHy I P (zKv K) := by
  refine Ev.start [.ref 155, .int x1, .int x2, .int x3, .float 0] pn_X10 rfl (Nat.le_of_ble_eq_true rfl) rfl (fun κ cx hE => ?_)
  unfold w_X10_oldWoven at h
  refine g_iload_n cx dX10_oldWoven_0 rfl ?_
  refine g_istore cx dX10_oldWoven_1 (Nat.le_of_ble_eq_true rfl) (Gx.L [.ref 155, .int x1, .int x2, .int x3, .int x2] rfl ?_)
  refine (Gx.unset 2 (Gx.L [.ref 155, .int x1, .float 0, .int x3, .int x2] rfl ?_))
  obtain ⟨n9, h⟩ := h
  exact gl_X10_oldWoven_3 cx hE n9 _ _ _ _ _ hP h
def w_X10_place (I : zI) (P : zP) (K : Int32 → zI → zP → Prop) : Prop := K (I 155 2) I P
theorem e_X10_place {I : zI} {P : zP} {K : Int32 → zI → zP → Prop} (hP : PSt P) (h : w_X10_place I P K) : Ev yX10_place cX10_place 1 (some .int) 0 0 0 0 [.ref 155] SHy I P (zKi K) := by
  refine Ev.start [.ref 155] pn_X10 rfl (Nat.le_of_ble_eq_true rfl) rfl (fun κ cx hE => ?_)
  unfold w_X10_place at h
  refine g_aload_n cx dX10_place_0 rfl ?_
  refine g_getI cx lk_X10_13 rfl (Nat.le_of_ble_eq_true rfl) rfl dX10_place_1 (x := (I 155 2)) rfl ?_
  exact g_wi cx hE dX10_place_4 rfl rfl hP h
def w_X10_probe (x1 : Int32) (x2 : Int32) (x3 : Int32) (x4 : Int32) (x5 : Int32) (I : zI) (P : zP) (K : Int32 → zI → zP → Prop) : Prop := w_X10_in x1 0 7 I P (fun (v1 : Int32) (I1 : zI) (P1 : zP) => (if v1 = 0 then (K (-2) I1 P1) else (w_X10_isMethod x2 I1 P1 (fun (v3 : Int32) (I3 : zI) (P3 : zP) => (if v3 = 0 then (K (-2) I3 P3) else (w_X10_isBegin x2 x3 I3 P3 (fun (v5 : Int32) (I5 : zI) (P5 : zP) => (if v5 = 0 then (K (-2) I5 P5) else (w_X10_fits x1 x2 x3 x4 x5 I5 P5 (fun (v7 : Int32) (I7 : zI) (P7 : zP) => (if v7 = 0 then (K (-2) I7 P7) else (if (I7 155 17) = 24 then (K (-3) I7 P7) else (vp_in (I7 155 17) 24 ∧ (vp_in ((zu I7 170 (((I7 155 17)).toNatClampNeg) x1) 155 17) 24 ∧ (vp_in ((zu (zu I7 170 (((I7 155 17)).toNatClampNeg) x1) 171 ((((zu I7 170 (((I7 155 17)).toNatClampNeg) x1) 155 17)).toNatClampNeg) x2) 155 17) 24 ∧ (vp_in ((zu (zu (zu I7 170 (((I7 155 17)).toNatClampNeg) x1) 171 ((((zu I7 170 (((I7 155 17)).toNatClampNeg) x1) 155 17)).toNatClampNeg) x2) 172 ((((zu (zu I7 170 (((I7 155 17)).toNatClampNeg) x1) 171 ((((zu I7 170 (((I7 155 17)).toNatClampNeg) x1) 155 17)).toNatClampNeg) x2) 155 17)).toNatClampNeg) x3) 155 17) 24 ∧ (vp_in ((zu (zu (zu (zu I7 170 (((I7 155 17)).toNatClampNeg) x1) 171 ((((zu I7 170 (((I7 155 17)).toNatClampNeg) x1) 155 17)).toNatClampNeg) x2) 172 ((((zu (zu I7 170 (((I7 155 17)).toNatClampNeg) x1) 171 ((((zu I7 170 (((I7 155 17)).toNatClampNeg) x1) 155 17)).toNatClampNeg) x2) 155 17)).toNatClampNeg) x3) 173 ((((zu (zu (zu I7 170 (((I7 155 17)).toNatClampNeg) x1) 171 ((((zu I7 170 (((I7 155 17)).toNatClampNeg) x1) 155 17)).toNatClampNeg) x2) 172 ((((zu (zu I7 170 (((I7 155 17)).toNatClampNeg) x1) 171 ((((zu I7 170 (((I7 155 17)).toNatClampNeg) x1) 155 17)).toNatClampNeg) x2) 155 17)).toNatClampNeg) x3) 155 17)).toNatClampNeg) x4) 155 17) 24 ∧ (K ((((zu (zu (zu (zu (zu I7 170 (((I7 155 17)).toNatClampNeg) x1) 171 ((((zu I7 170 (((I7 155 17)).toNatClampNeg) x1) 155 17)).toNatClampNeg) x2) 172 ((((zu (zu I7 170 (((I7 155 17)).toNatClampNeg) x1) 171 ((((zu I7 170 (((I7 155 17)).toNatClampNeg) x1) 155 17)).toNatClampNeg) x2) 155 17)).toNatClampNeg) x3) 173 ((((zu (zu (zu I7 170 (((I7 155 17)).toNatClampNeg) x1) 171 ((((zu I7 170 (((I7 155 17)).toNatClampNeg) x1) 155 17)).toNatClampNeg) x2) 172 ((((zu (zu I7 170 (((I7 155 17)).toNatClampNeg) x1) 171 ((((zu I7 170 (((I7 155 17)).toNatClampNeg) x1) 155 17)).toNatClampNeg) x2) 155 17)).toNatClampNeg) x3) 155 17)).toNatClampNeg) x4) 174 ((((zu (zu (zu (zu I7 170 (((I7 155 17)).toNatClampNeg) x1) 171 ((((zu I7 170 (((I7 155 17)).toNatClampNeg) x1) 155 17)).toNatClampNeg) x2) 172 ((((zu (zu I7 170 (((I7 155 17)).toNatClampNeg) x1) 171 ((((zu I7 170 (((I7 155 17)).toNatClampNeg) x1) 155 17)).toNatClampNeg) x2) 155 17)).toNatClampNeg) x3) 173 ((((zu (zu (zu I7 170 (((I7 155 17)).toNatClampNeg) x1) 171 ((((zu I7 170 (((I7 155 17)).toNatClampNeg) x1) 155 17)).toNatClampNeg) x2) 172 ((((zu (zu I7 170 (((I7 155 17)).toNatClampNeg) x1) 171 ((((zu I7 170 (((I7 155 17)).toNatClampNeg) x1) 155 17)).toNatClampNeg) x2) 155 17)).toNatClampNeg) x3) 155 17)).toNatClampNeg) x4) 155 17)).toNatClampNeg) x5) 155 17) + 1) - 1) (zu (zu (zu (zu (zu (zu I7 170 (((I7 155 17)).toNatClampNeg) x1) 171 ((((zu I7 170 (((I7 155 17)).toNatClampNeg) x1) 155 17)).toNatClampNeg) x2) 172 ((((zu (zu I7 170 (((I7 155 17)).toNatClampNeg) x1) 171 ((((zu I7 170 (((I7 155 17)).toNatClampNeg) x1) 155 17)).toNatClampNeg) x2) 155 17)).toNatClampNeg) x3) 173 ((((zu (zu (zu I7 170 (((I7 155 17)).toNatClampNeg) x1) 171 ((((zu I7 170 (((I7 155 17)).toNatClampNeg) x1) 155 17)).toNatClampNeg) x2) 172 ((((zu (zu I7 170 (((I7 155 17)).toNatClampNeg) x1) 171 ((((zu I7 170 (((I7 155 17)).toNatClampNeg) x1) 155 17)).toNatClampNeg) x2) 155 17)).toNatClampNeg) x3) 155 17)).toNatClampNeg) x4) 174 ((((zu (zu (zu (zu I7 170 (((I7 155 17)).toNatClampNeg) x1) 171 ((((zu I7 170 (((I7 155 17)).toNatClampNeg) x1) 155 17)).toNatClampNeg) x2) 172 ((((zu (zu I7 170 (((I7 155 17)).toNatClampNeg) x1) 171 ((((zu I7 170 (((I7 155 17)).toNatClampNeg) x1) 155 17)).toNatClampNeg) x2) 155 17)).toNatClampNeg) x3) 173 ((((zu (zu (zu I7 170 (((I7 155 17)).toNatClampNeg) x1) 171 ((((zu I7 170 (((I7 155 17)).toNatClampNeg) x1) 155 17)).toNatClampNeg) x2) 172 ((((zu (zu I7 170 (((I7 155 17)).toNatClampNeg) x1) 171 ((((zu I7 170 (((I7 155 17)).toNatClampNeg) x1) 155 17)).toNatClampNeg) x2) 155 17)).toNatClampNeg) x3) 155 17)).toNatClampNeg) x4) 155 17)).toNatClampNeg) x5) 155 17 (((zu (zu (zu (zu (zu I7 170 (((I7 155 17)).toNatClampNeg) x1) 171 ((((zu I7 170 (((I7 155 17)).toNatClampNeg) x1) 155 17)).toNatClampNeg) x2) 172 ((((zu (zu I7 170 (((I7 155 17)).toNatClampNeg) x1) 171 ((((zu I7 170 (((I7 155 17)).toNatClampNeg) x1) 155 17)).toNatClampNeg) x2) 155 17)).toNatClampNeg) x3) 173 ((((zu (zu (zu I7 170 (((I7 155 17)).toNatClampNeg) x1) 171 ((((zu I7 170 (((I7 155 17)).toNatClampNeg) x1) 155 17)).toNatClampNeg) x2) 172 ((((zu (zu I7 170 (((I7 155 17)).toNatClampNeg) x1) 171 ((((zu I7 170 (((I7 155 17)).toNatClampNeg) x1) 155 17)).toNatClampNeg) x2) 155 17)).toNatClampNeg) x3) 155 17)).toNatClampNeg) x4) 174 ((((zu (zu (zu (zu I7 170 (((I7 155 17)).toNatClampNeg) x1) 171 ((((zu I7 170 (((I7 155 17)).toNatClampNeg) x1) 155 17)).toNatClampNeg) x2) 172 ((((zu (zu I7 170 (((I7 155 17)).toNatClampNeg) x1) 171 ((((zu I7 170 (((I7 155 17)).toNatClampNeg) x1) 155 17)).toNatClampNeg) x2) 155 17)).toNatClampNeg) x3) 173 ((((zu (zu (zu I7 170 (((I7 155 17)).toNatClampNeg) x1) 171 ((((zu I7 170 (((I7 155 17)).toNatClampNeg) x1) 155 17)).toNatClampNeg) x2) 172 ((((zu (zu I7 170 (((I7 155 17)).toNatClampNeg) x1) 171 ((((zu I7 170 (((I7 155 17)).toNatClampNeg) x1) 155 17)).toNatClampNeg) x2) 155 17)).toNatClampNeg) x3) 155 17)).toNatClampNeg) x4) 155 17)).toNatClampNeg) x5) 155 17) + 1)) P7))))))))))))))))))
theorem e_X10_probe {x1 : Int32} {x2 : Int32} {x3 : Int32} {x4 : Int32} {x5 : Int32} {I : zI} {P : zP} {K : Int32 → zI → zP → Prop} (hP : PSt P) (h : w_X10_probe x1 x2 x3 x4 x5 I P K) : Ev yX10_probe cX10_probe 6 (some .int) 2 50 0 0 [.ref 155, .int x1, .int x2, .int x3, .int x4, .int x5] SHy I P (zKi K) := by
  refine Ev.start [.ref 155, .int x1, .int x2, .int x3, .int x4, .int x5] pn_X10 rfl (Nat.le_of_ble_eq_true rfl) rfl (fun κ cx hE => ?_)
  unfold w_X10_probe at h
  refine g_iload_n cx dX10_probe_0 rfl ?_
  refine g_iconst cx dX10_probe_1 ic_0 ?_
  refine g_bipush cx dX10_probe_2 bp_7 ?_
  refine g_wSi cx [.int x1, .int 0, .int 7] [] (e_X10_in hP h) mt_X10_in ml_X10_217 dX10_probe_4 rfl rfl (Nat.le_of_ble_eq_true rfl) (Nat.le_of_ble_eq_true rfl) (Nat.le_of_ble_eq_true rfl) (fun v1 I1 P1 hP h => ?_)
  refine g_if_eq cx (tgt := 41) dX10_probe_7 rfl (fun c2 => ?_) (fun c2 => ?_)
  · have h := zifp c2 h
    refine g_bipush cx dX10_probe_41 bp_m2 ?_
    exact g_wi cx hE dX10_probe_43 rfl rfl hP h
  · have h := zifn c2 h
    refine g_aload_n cx dX10_probe_10 rfl ?_
    refine g_iload_n cx dX10_probe_11 rfl ?_
    refine g_wVi cx [.int x2] [] (e_X10_isMethod hP h) mt_X10_isMethod ml_X10_318 rfl rfl rfl dX10_probe_12 rfl rfl (Nat.le_of_ble_eq_true rfl) (Nat.le_of_ble_eq_true rfl) (Nat.le_of_ble_eq_true rfl) (fun v3 I3 P3 hP h => ?_)
    refine g_if_eq cx (tgt := 41) dX10_probe_15 rfl (fun c4 => ?_) (fun c4 => ?_)
    · have h := zifp c4 h
      refine g_bipush cx dX10_probe_41 bp_m2 ?_
      exact g_wi cx hE dX10_probe_43 rfl rfl hP h
    · have h := zifn c4 h
      refine g_aload_n cx dX10_probe_18 rfl ?_
      refine g_iload_n cx dX10_probe_19 rfl ?_
      refine g_iload_n cx dX10_probe_20 rfl ?_
      refine g_wVi cx [.int x2, .int x3] [] (e_X10_isBegin hP h) mt_X10_isBegin ml_X10_274 rfl rfl rfl dX10_probe_21 rfl rfl (Nat.le_of_ble_eq_true rfl) (Nat.le_of_ble_eq_true rfl) (Nat.le_of_ble_eq_true rfl) (fun v5 I5 P5 hP h => ?_)
      refine g_if_eq cx (tgt := 41) dX10_probe_24 rfl (fun c6 => ?_) (fun c6 => ?_)
      · have h := zifp c6 h
        refine g_bipush cx dX10_probe_41 bp_m2 ?_
        exact g_wi cx hE dX10_probe_43 rfl rfl hP h
      · have h := zifn c6 h
        refine g_aload_n cx dX10_probe_27 rfl ?_
        refine g_iload_n cx dX10_probe_28 rfl ?_
        refine g_iload_n cx dX10_probe_29 rfl ?_
        refine g_iload_n cx dX10_probe_30 rfl ?_
        refine g_iload cx dX10_probe_31 rfl ?_
        refine g_iload cx dX10_probe_33 rfl ?_
        refine g_wVi cx [.int x1, .int x2, .int x3, .int x4, .int x5] [] (e_X10_fits hP h) mt_X10_fits ml_X10_331 rfl rfl rfl dX10_probe_35 rfl rfl (Nat.le_of_ble_eq_true rfl) (Nat.le_of_ble_eq_true rfl) (Nat.le_of_ble_eq_true rfl) (fun v7 I7 P7 hP h => ?_)
        refine g_if_ne cx (tgt := 44) dX10_probe_38 rfl (fun c8 => ?_) (fun c8 => ?_)
        · have h := zifn c8 h
          refine g_aload_n cx dX10_probe_44 rfl ?_
          refine g_getI cx lk_X10_335 rfl (Nat.le_of_ble_eq_true rfl) rfl dX10_probe_45 (x := (I7 155 17)) rfl ?_
          refine g_bipush cx dX10_probe_48 bp_24 ?_
          refine g_icmp_ne cx (tgt := 56) dX10_probe_50 rfl (fun c9 => ?_) (fun c9 => ?_)
          · have h := zifn c9 h
            refine g_aload_n cx dX10_probe_56 rfl ?_
            refine g_getR cx lk_X10_57 rfl (Nat.le_of_ble_eq_true rfl) rfl dX10_probe_57 (v := 170) (pst hP 169 rfl) ?_
            refine g_aload_n cx dX10_probe_60 rfl ?_
            refine g_getI cx lk_X10_335 rfl (Nat.le_of_ble_eq_true rfl) rfl dX10_probe_61 (x := (I7 155 17)) rfl ?_
            refine g_iload_n cx dX10_probe_64 rfl ?_
            obtain ⟨hc10, h⟩ := h
            refine g_iast cx dX10_probe_65 rfl hc10 ?_
            refine g_aload_n cx dX10_probe_66 rfl ?_
            refine g_getR cx lk_X10_60 rfl (Nat.le_of_ble_eq_true rfl) rfl dX10_probe_67 (v := 171) (pst hP 170 rfl) ?_
            refine g_aload_n cx dX10_probe_70 rfl ?_
            refine g_getI cx lk_X10_335 rfl (Nat.le_of_ble_eq_true rfl) rfl dX10_probe_71 (x := ((zu I7 170 (((I7 155 17)).toNatClampNeg) x1) 155 17)) rfl ?_
            refine g_iload_n cx dX10_probe_74 rfl ?_
            obtain ⟨hc11, h⟩ := h
            refine g_iast cx dX10_probe_75 rfl hc11 ?_
            refine g_aload_n cx dX10_probe_76 rfl ?_
            refine g_getR cx lk_X10_63 rfl (Nat.le_of_ble_eq_true rfl) rfl dX10_probe_77 (v := 172) (pst hP 171 rfl) ?_
            refine g_aload_n cx dX10_probe_80 rfl ?_
            refine g_getI cx lk_X10_335 rfl (Nat.le_of_ble_eq_true rfl) rfl dX10_probe_81 (x := ((zu (zu I7 170 (((I7 155 17)).toNatClampNeg) x1) 171 ((((zu I7 170 (((I7 155 17)).toNatClampNeg) x1) 155 17)).toNatClampNeg) x2) 155 17)) rfl ?_
            refine g_iload_n cx dX10_probe_84 rfl ?_
            obtain ⟨hc12, h⟩ := h
            refine g_iast cx dX10_probe_85 rfl hc12 ?_
            refine g_aload_n cx dX10_probe_86 rfl ?_
            refine g_getR cx lk_X10_66 rfl (Nat.le_of_ble_eq_true rfl) rfl dX10_probe_87 (v := 173) (pst hP 172 rfl) ?_
            refine g_aload_n cx dX10_probe_90 rfl ?_
            refine g_getI cx lk_X10_335 rfl (Nat.le_of_ble_eq_true rfl) rfl dX10_probe_91 (x := ((zu (zu (zu I7 170 (((I7 155 17)).toNatClampNeg) x1) 171 ((((zu I7 170 (((I7 155 17)).toNatClampNeg) x1) 155 17)).toNatClampNeg) x2) 172 ((((zu (zu I7 170 (((I7 155 17)).toNatClampNeg) x1) 171 ((((zu I7 170 (((I7 155 17)).toNatClampNeg) x1) 155 17)).toNatClampNeg) x2) 155 17)).toNatClampNeg) x3) 155 17)) rfl ?_
            refine g_iload cx dX10_probe_94 rfl ?_
            obtain ⟨hc13, h⟩ := h
            refine g_iast cx dX10_probe_96 rfl hc13 ?_
            refine Gx.N 97 rfl ?_
            refine g_aload_n cx dX10_probe_97 rfl ?_
            refine g_getR cx lk_X10_69 rfl (Nat.le_of_ble_eq_true rfl) rfl dX10_probe_98 (v := 174) (pst hP 173 rfl) ?_
            refine g_aload_n cx dX10_probe_101 rfl ?_
            refine g_getI cx lk_X10_335 rfl (Nat.le_of_ble_eq_true rfl) rfl dX10_probe_102 (x := ((zu (zu (zu (zu I7 170 (((I7 155 17)).toNatClampNeg) x1) 171 ((((zu I7 170 (((I7 155 17)).toNatClampNeg) x1) 155 17)).toNatClampNeg) x2) 172 ((((zu (zu I7 170 (((I7 155 17)).toNatClampNeg) x1) 171 ((((zu I7 170 (((I7 155 17)).toNatClampNeg) x1) 155 17)).toNatClampNeg) x2) 155 17)).toNatClampNeg) x3) 173 ((((zu (zu (zu I7 170 (((I7 155 17)).toNatClampNeg) x1) 171 ((((zu I7 170 (((I7 155 17)).toNatClampNeg) x1) 155 17)).toNatClampNeg) x2) 172 ((((zu (zu I7 170 (((I7 155 17)).toNatClampNeg) x1) 171 ((((zu I7 170 (((I7 155 17)).toNatClampNeg) x1) 155 17)).toNatClampNeg) x2) 155 17)).toNatClampNeg) x3) 155 17)).toNatClampNeg) x4) 155 17)) rfl ?_
            refine g_iload cx dX10_probe_105 rfl ?_
            obtain ⟨hc14, h⟩ := h
            refine g_iast cx dX10_probe_107 rfl hc14 ?_
            refine g_aload_n cx dX10_probe_108 rfl ?_
            refine g_dup cx dX10_probe_109 rfl ?_
            refine g_getI cx lk_X10_335 rfl (Nat.le_of_ble_eq_true rfl) rfl dX10_probe_110 (x := ((zu (zu (zu (zu (zu I7 170 (((I7 155 17)).toNatClampNeg) x1) 171 ((((zu I7 170 (((I7 155 17)).toNatClampNeg) x1) 155 17)).toNatClampNeg) x2) 172 ((((zu (zu I7 170 (((I7 155 17)).toNatClampNeg) x1) 171 ((((zu I7 170 (((I7 155 17)).toNatClampNeg) x1) 155 17)).toNatClampNeg) x2) 155 17)).toNatClampNeg) x3) 173 ((((zu (zu (zu I7 170 (((I7 155 17)).toNatClampNeg) x1) 171 ((((zu I7 170 (((I7 155 17)).toNatClampNeg) x1) 155 17)).toNatClampNeg) x2) 172 ((((zu (zu I7 170 (((I7 155 17)).toNatClampNeg) x1) 171 ((((zu I7 170 (((I7 155 17)).toNatClampNeg) x1) 155 17)).toNatClampNeg) x2) 155 17)).toNatClampNeg) x3) 155 17)).toNatClampNeg) x4) 174 ((((zu (zu (zu (zu I7 170 (((I7 155 17)).toNatClampNeg) x1) 171 ((((zu I7 170 (((I7 155 17)).toNatClampNeg) x1) 155 17)).toNatClampNeg) x2) 172 ((((zu (zu I7 170 (((I7 155 17)).toNatClampNeg) x1) 171 ((((zu I7 170 (((I7 155 17)).toNatClampNeg) x1) 155 17)).toNatClampNeg) x2) 155 17)).toNatClampNeg) x3) 173 ((((zu (zu (zu I7 170 (((I7 155 17)).toNatClampNeg) x1) 171 ((((zu I7 170 (((I7 155 17)).toNatClampNeg) x1) 155 17)).toNatClampNeg) x2) 172 ((((zu (zu I7 170 (((I7 155 17)).toNatClampNeg) x1) 171 ((((zu I7 170 (((I7 155 17)).toNatClampNeg) x1) 155 17)).toNatClampNeg) x2) 155 17)).toNatClampNeg) x3) 155 17)).toNatClampNeg) x4) 155 17)).toNatClampNeg) x5) 155 17)) rfl ?_
            refine g_iconst cx dX10_probe_113 ic_1 ?_
            refine g_iadd cx dX10_probe_114 ?_
            refine g_pI cx lk_X10_335 rfl (Nat.le_of_ble_eq_true rfl) rfl dX10_probe_115 fi_10_17 rfl rfl ?_
            refine g_aload_n cx dX10_probe_118 rfl ?_
            refine g_getI cx lk_X10_335 rfl (Nat.le_of_ble_eq_true rfl) rfl dX10_probe_119 (x := (((zu (zu (zu (zu (zu I7 170 (((I7 155 17)).toNatClampNeg) x1) 171 ((((zu I7 170 (((I7 155 17)).toNatClampNeg) x1) 155 17)).toNatClampNeg) x2) 172 ((((zu (zu I7 170 (((I7 155 17)).toNatClampNeg) x1) 171 ((((zu I7 170 (((I7 155 17)).toNatClampNeg) x1) 155 17)).toNatClampNeg) x2) 155 17)).toNatClampNeg) x3) 173 ((((zu (zu (zu I7 170 (((I7 155 17)).toNatClampNeg) x1) 171 ((((zu I7 170 (((I7 155 17)).toNatClampNeg) x1) 155 17)).toNatClampNeg) x2) 172 ((((zu (zu I7 170 (((I7 155 17)).toNatClampNeg) x1) 171 ((((zu I7 170 (((I7 155 17)).toNatClampNeg) x1) 155 17)).toNatClampNeg) x2) 155 17)).toNatClampNeg) x3) 155 17)).toNatClampNeg) x4) 174 ((((zu (zu (zu (zu I7 170 (((I7 155 17)).toNatClampNeg) x1) 171 ((((zu I7 170 (((I7 155 17)).toNatClampNeg) x1) 155 17)).toNatClampNeg) x2) 172 ((((zu (zu I7 170 (((I7 155 17)).toNatClampNeg) x1) 171 ((((zu I7 170 (((I7 155 17)).toNatClampNeg) x1) 155 17)).toNatClampNeg) x2) 155 17)).toNatClampNeg) x3) 173 ((((zu (zu (zu I7 170 (((I7 155 17)).toNatClampNeg) x1) 171 ((((zu I7 170 (((I7 155 17)).toNatClampNeg) x1) 155 17)).toNatClampNeg) x2) 172 ((((zu (zu I7 170 (((I7 155 17)).toNatClampNeg) x1) 171 ((((zu I7 170 (((I7 155 17)).toNatClampNeg) x1) 155 17)).toNatClampNeg) x2) 155 17)).toNatClampNeg) x3) 155 17)).toNatClampNeg) x4) 155 17)).toNatClampNeg) x5) 155 17) + 1)) rfl ?_
            refine g_iconst cx dX10_probe_122 ic_1 ?_
            refine g_isub cx dX10_probe_123 ?_
            exact g_wi cx hE dX10_probe_124 rfl rfl hP h
          · have h := zifp c9 h
            refine g_bipush cx dX10_probe_53 bp_m3 ?_
            exact g_wi cx hE dX10_probe_55 rfl rfl hP h
        · have h := zifp c8 h
          refine g_bipush cx dX10_probe_41 bp_m2 ?_
          exact g_wi cx hE dX10_probe_43 rfl rfl hP h
def w_X10_record (x1 : Int32) (x2 : Int32) (x3 : Int32) (I : zI) (P : zP) (K : Int32 → zI → zP → Prop) : Prop := w_X10_kept x1 I P (fun (v1 : Int32) (I1 : zI) (P1 : zP) => (w_X10_in x2 0 (v1 - 1) I1 P1 (fun (v2 : Int32) (I2 : zI) (P2 : zP) => (if v2 = 0 then (K 0 I2 P2) else (w_X10_in x3 0 1 I2 P2 (fun (v4 : Int32) (I4 : zI) (P4 : zP) => (if v4 = 0 then (K 0 I4 P4) else (if x3 = 0 then (vp_in ((400 * x1) + x2) 1200 ∧ (K (I4 219 ((((400 * x1) + x2)).toNatClampNeg)) I4 P4)) else (vp_in ((400 * x1) + x2) 1200 ∧ (K (I4 220 ((((400 * x1) + x2)).toNatClampNeg)) I4 P4))))))))))
theorem e_X10_record {x1 : Int32} {x2 : Int32} {x3 : Int32} {I : zI} {P : zP} {K : Int32 → zI → zP → Prop} (hP : PSt P) (h : w_X10_record x1 x2 x3 I P K) : Ev yX10_record cX10_record 4 (some .int) 3 64 0 0 [.ref 155, .int x1, .int x2, .int x3] SHy I P (zKi K) := by
  refine Ev.start [.ref 155, .int x1, .int x2, .int x3] pn_X10 rfl (Nat.le_of_ble_eq_true rfl) rfl (fun κ cx hE => ?_)
  unfold w_X10_record at h
  refine g_iload_n cx dX10_record_0 rfl ?_
  refine g_iconst cx dX10_record_1 ic_0 ?_
  refine g_aload_n cx dX10_record_2 rfl ?_
  refine g_iload_n cx dX10_record_3 rfl ?_
  refine g_wVi cx [.int x1] [.int 0, .int x2] (e_X10_kept hP h) mt_X10_kept ml_X10_545 rfl rfl rfl dX10_record_4 rfl rfl (Nat.le_of_ble_eq_true rfl) (Nat.le_of_ble_eq_true rfl) (Nat.le_of_ble_eq_true rfl) (fun v1 I1 P1 hP h => ?_)
  refine g_iconst cx dX10_record_7 ic_1 ?_
  refine g_isub cx dX10_record_8 ?_
  refine g_wSi cx [.int x2, .int 0, .int (v1 - 1)] [] (e_X10_in hP h) mt_X10_in ml_X10_217 dX10_record_9 rfl rfl (Nat.le_of_ble_eq_true rfl) (Nat.le_of_ble_eq_true rfl) (Nat.le_of_ble_eq_true rfl) (fun v2 I2 P2 hP h => ?_)
  refine g_if_eq cx (tgt := 24) dX10_record_12 rfl (fun c3 => ?_) (fun c3 => ?_)
  · have h := zifp c3 h
    refine g_iconst cx dX10_record_24 ic_0 ?_
    exact g_wi cx hE dX10_record_25 rfl rfl hP h
  · have h := zifn c3 h
    refine g_iload_n cx dX10_record_15 rfl ?_
    refine g_iconst cx dX10_record_16 ic_0 ?_
    refine g_iconst cx dX10_record_17 ic_1 ?_
    refine g_wSi cx [.int x3, .int 0, .int 1] [] (e_X10_in hP h) mt_X10_in ml_X10_217 dX10_record_18 rfl rfl (Nat.le_of_ble_eq_true rfl) (Nat.le_of_ble_eq_true rfl) (Nat.le_of_ble_eq_true rfl) (fun v4 I4 P4 hP h => ?_)
    refine g_if_ne cx (tgt := 26) dX10_record_21 rfl (fun c5 => ?_) (fun c5 => ?_)
    · have h := zifn c5 h
      refine g_iload_n cx dX10_record_26 rfl ?_
      refine g_if_ne cx (tgt := 45) dX10_record_27 rfl (fun c6 => ?_) (fun c6 => ?_)
      · have h := zifn c6 h
        refine g_aload_n cx dX10_record_45 rfl ?_
        refine g_getR cx lk_X10_207 rfl (Nat.le_of_ble_eq_true rfl) rfl dX10_record_46 (v := 220) (pst hP 219 rfl) ?_
        refine g_sipush cx dX10_record_49 sp_400 ?_
        refine g_iload_n cx dX10_record_52 rfl ?_
        refine g_imul cx dX10_record_53 ?_
        refine g_iload_n cx dX10_record_54 rfl ?_
        refine g_iadd cx dX10_record_55 ?_
        obtain ⟨hc7, h⟩ := h
        refine g_iald cx dX10_record_56 rfl hc7 (x := (I4 220 ((((400 * x1) + x2)).toNatClampNeg))) rfl ?_
        exact g_wi cx hE dX10_record_57 rfl rfl hP h
      · have h := zifp c6 h
        refine g_aload_n cx dX10_record_30 rfl ?_
        refine g_getR cx lk_X10_204 rfl (Nat.le_of_ble_eq_true rfl) rfl dX10_record_31 (v := 219) (pst hP 218 rfl) ?_
        refine g_sipush cx dX10_record_34 sp_400 ?_
        refine g_iload_n cx dX10_record_37 rfl ?_
        refine g_imul cx dX10_record_38 ?_
        refine g_iload_n cx dX10_record_39 rfl ?_
        refine g_iadd cx dX10_record_40 ?_
        obtain ⟨hc8, h⟩ := h
        refine g_iald cx dX10_record_41 rfl hc8 (x := (I4 219 ((((400 * x1) + x2)).toNatClampNeg))) rfl ?_
        refine g_goto cx (tgt := 57) dX10_record_42 rfl ?_
        exact g_wi cx hE dX10_record_57 rfl rfl hP h
    · have h := zifp c5 h
      refine g_iconst cx dX10_record_24 ic_0 ?_
      exact g_wi cx hE dX10_record_25 rfl rfl hP h
def l_X10_records_5 (K : Int32 → zI → zP → Prop) : Nat → Int32 → Int32 → Int32 → Int32 → zI → zP → Prop
  | 0, _, _, _, _, _, _ => False
  | n + 1, y1, y2, y3, y4, I, P => w_X10_kept y1 I P (fun (v1 : Int32) (I1 : zI) (P1 : zP) => (if v1 ≤ y4 then (K y3 I1 P1) else (vp_in ((400 * y1) + y4) 1200 ∧ (if (I1 219 ((((400 * y1) + y4)).toNatClampNeg)) = y2 then ((l_X10_records_5 K n) y1 y2 (y3 + 1) (y4 + 1) I1 P1) else ((l_X10_records_5 K n) y1 y2 y3 (y4 + 1) I1 P1)))))
theorem gl_X10_records_5 {κ : zX} (cx : Cx yX10_records cX10_records 5 (some .int) 3 64 κ) {K : Int32 → zI → zP → Prop} (hE : zEnd (zKi K) 0 0 κ) : ∀ (n : Nat) (y1 : Int32) (y2 : Int32) (y3 : Int32) (y4 : Int32) (I : zI) (P : zP), PSt P → l_X10_records_5 K n y1 y2 y3 y4 I P → Gx κ 5 [.ref 155, .int y1, .int y2, .int y3, .int y4] [] SHy I P 0 0 := by
  intro n
  induction n with
  | zero =>
    intro y1 y2 y3 y4 I P hP h
    rw [l_X10_records_5] at h
    exact False.elim h
  | succ n ih =>
    intro y1 y2 y3 y4 I P hP h
    rw [l_X10_records_5] at h
    refine g_iload cx dX10_records_5 rfl ?_
    refine g_aload_n cx dX10_records_7 rfl ?_
    refine g_iload_n cx dX10_records_8 rfl ?_
    refine g_wVi cx [.int y1] [.int y4] (e_X10_kept hP h) mt_X10_kept ml_X10_545 rfl rfl rfl dX10_records_9 rfl rfl (Nat.le_of_ble_eq_true rfl) (Nat.le_of_ble_eq_true rfl) (Nat.le_of_ble_eq_true rfl) (fun v1 I1 P1 hP h => ?_)
    refine g_icmp_ge cx (tgt := 46) dX10_records_12 rfl (fun c2 => ?_) (fun c2 => ?_)
    · have h := zifp c2 h
      refine g_iload_n cx dX10_records_46 rfl ?_
      exact g_wi cx hE dX10_records_47 rfl rfl hP h
    · have h := zifn c2 h
      refine g_aload_n cx dX10_records_15 rfl ?_
      refine g_getR cx lk_X10_204 rfl (Nat.le_of_ble_eq_true rfl) rfl dX10_records_16 (v := 219) (pst hP 218 rfl) ?_
      refine g_sipush cx dX10_records_19 sp_400 ?_
      refine g_iload_n cx dX10_records_22 rfl ?_
      refine g_imul cx dX10_records_23 ?_
      refine g_iload cx dX10_records_24 rfl ?_
      refine g_iadd cx dX10_records_26 ?_
      obtain ⟨hc3, h⟩ := h
      refine g_iald cx dX10_records_27 rfl hc3 (x := (I1 219 ((((400 * y1) + y4)).toNatClampNeg))) rfl ?_
      refine g_iload_n cx dX10_records_28 rfl ?_
      refine g_icmp_ne cx (tgt := 38) dX10_records_29 rfl (fun c4 => ?_) (fun c4 => ?_)
      · have h := zifn c4 h
        refine g_iload_n cx dX10_records_38 rfl ?_
        refine g_istore_n cx dX10_records_39 (Nat.le_of_ble_eq_true rfl) (Gx.L [.ref 155, .int y1, .int y2, .int y3, .int y4] rfl ?_)
        refine g_iinc cx (v := (y4 + 1)) dX10_records_40 rfl rfl (Nat.le_of_ble_eq_true rfl) (Gx.L [.ref 155, .int y1, .int y2, .int y3, .int (y4 + 1)] rfl ?_)
        refine g_goto cx (tgt := 5) dX10_records_43 rfl ?_
        exact ih _ _ _ _ _ _ hP h
      · have h := zifp c4 h
        refine g_iload_n cx dX10_records_32 rfl ?_
        refine g_iconst cx dX10_records_33 ic_1 ?_
        refine g_iadd cx dX10_records_34 ?_
        refine g_goto cx (tgt := 39) dX10_records_35 rfl ?_
        refine g_istore_n cx dX10_records_39 (Nat.le_of_ble_eq_true rfl) (Gx.L [.ref 155, .int y1, .int y2, .int (y3 + 1), .int y4] rfl ?_)
        refine g_iinc cx (v := (y4 + 1)) dX10_records_40 rfl rfl (Nat.le_of_ble_eq_true rfl) (Gx.L [.ref 155, .int y1, .int y2, .int (y3 + 1), .int (y4 + 1)] rfl ?_)
        refine g_goto cx (tgt := 5) dX10_records_43 rfl ?_
        exact ih _ _ _ _ _ _ hP h
def w_X10_records (x1 : Int32) (x2 : Int32) (I : zI) (P : zP) (K : Int32 → zI → zP → Prop) : Prop := ∃ n9, l_X10_records_5 K n9 x1 x2 0 0 I P
theorem e_X10_records {x1 : Int32} {x2 : Int32} {I : zI} {P : zP} {K : Int32 → zI → zP → Prop} (hP : PSt P) (h : w_X10_records x1 x2 I P K) : Ev yX10_records cX10_records 5 (some .int) 3 64 0 0 [.ref 155, .int x1, .int x2] SHy I P (zKi K) := by
  refine Ev.start [.ref 155, .int x1, .int x2, .float 0, .float 0] pn_X10 rfl (Nat.le_of_ble_eq_true rfl) rfl (fun κ cx hE => ?_)
  unfold w_X10_records at h
  refine g_iconst cx dX10_records_0 ic_0 ?_
  refine g_istore_n cx dX10_records_1 (Nat.le_of_ble_eq_true rfl) (Gx.L [.ref 155, .int x1, .int x2, .int 0, .float 0] rfl ?_)
  refine g_iconst cx dX10_records_2 ic_0 ?_
  refine g_istore cx dX10_records_3 (Nat.le_of_ble_eq_true rfl) (Gx.L [.ref 155, .int x1, .int x2, .int 0, .int 0] rfl ?_)
  obtain ⟨n9, h⟩ := h
  exact gl_X10_records_5 cx hE n9 _ _ _ _ _ _ hP h
def j_X10_said_22 (K : zI → zP → Prop) (y1 : Int32) (y2 : Int32) (y3 : Int32) (s0 : Int32) (s1 : Int32) (I : zI) (P : zP) : Prop := vp_in (s1 + s0) 6000 ∧ (w_X10_sizeOf y3 0 I P (fun (v2 : Int32) (I2 : zI) (P2 : zP) => (vp_in ((I 155 54) - 1) 12 ∧ (if y3 = 48 then (w_X10_tell (I 176 (((s1 + s0)).toNatClampNeg)) 0 (zu I2 197 ((((I 155 54) - 1)).toNatClampNeg) (y2 + v2)) P2 (fun (I5 : zI) (P5 : zP) => (K I5 P5))) else (if y3 = 49 then (vp_in (((1000 * y1) + y2) + 2) 6000 ∧ (w_X10_tell (I 176 (((s1 + s0)).toNatClampNeg)) ((zu I2 197 ((((I 155 54) - 1)).toNatClampNeg) (y2 + v2)) 176 (((((1000 * y1) + y2) + 2)).toNatClampNeg)) (zu I2 197 ((((I 155 54) - 1)).toNatClampNeg) (y2 + v2)) P2 (fun (I8 : zI) (P8 : zP) => (K I8 P8)))) else (if y3 = 50 then (w_X10_tellArguments (I 176 (((s1 + s0)).toNatClampNeg)) y1 (zu I2 197 ((((I 155 54) - 1)).toNatClampNeg) (y2 + v2)) P2 (fun (I10 : zI) (P10 : zP) => (K I10 P10))) else (if y3 = 51 then (w_X10_top 0 (zu I2 197 ((((I 155 54) - 1)).toNatClampNeg) (y2 + v2)) P2 (fun (v12 : Int32) (I12 : zI) (P12 : zP) => (w_X10_tell (I 176 (((s1 + s0)).toNatClampNeg)) v12 I12 P12 (fun (I13 : zI) (P13 : zP) => (K I13 P13))))) else (if y3 = 52 then (w_X10_top 0 (zu I2 197 ((((I 155 54) - 1)).toNatClampNeg) (y2 + v2)) P2 (fun (v15 : Int32) (I15 : zI) (P15 : zP) => (w_X10_tell (I 176 (((s1 + s0)).toNatClampNeg)) (-v15) I15 P15 (fun (I16 : zI) (P16 : zP) => (K I16 P16))))) else (if y3 = 53 then (w_X10_oldWoven y1 y2 (I 176 (((s1 + s0)).toNatClampNeg)) (zu I2 197 ((((I 155 54) - 1)).toNatClampNeg) (y2 + v2)) P2 (fun (I18 : zI) (P18 : zP) => (K I18 P18))) else (if y3 = 54 then (w_X10_tellStore (I 176 (((s1 + s0)).toNatClampNeg)) (zu I2 197 ((((I 155 54) - 1)).toNatClampNeg) (y2 + v2)) P2 (fun (I20 : zI) (P20 : zP) => (K I20 P20))) else (if y3 = 55 then (w_X10_top 0 (zu I2 197 ((((I 155 54) - 1)).toNatClampNeg) (y2 + v2)) P2 (fun (v22 : Int32) (I22 : zI) (P22 : zP) => (w_X10_tell (I 176 (((s1 + s0)).toNatClampNeg)) v22 I22 P22 (fun (I23 : zI) (P23 : zP) => (K I23 P23))))) else (if y3 = 56 then (w_X10_faultWoven y1 y2 (I 176 (((s1 + s0)).toNatClampNeg)) (zu I2 197 ((((I 155 54) - 1)).toNatClampNeg) (y2 + v2)) P2 (fun (I25 : zI) (P25 : zP) => (K I25 P25))) else (if y3 = 57 then (w_X10_replace (I 176 (((s1 + s0)).toNatClampNeg)) (zu I2 197 ((((I 155 54) - 1)).toNatClampNeg) (y2 + v2)) P2 (fun (I27 : zI) (P27 : zP) => (K I27 P27))) else (w_X10_take (zu I2 197 ((((I 155 54) - 1)).toNatClampNeg) (y2 + v2)) P2 (fun (v28 : Int32) (I28 : zI) (P28 : zP) => (w_X10_leaves (zu I28 155 65 v28) P28 (fun (I29 : zI) (P29 : zP) => (K I29 P29))))))))))))))))))
theorem gj_X10_said_22 {κ : zX} (cx : Cx yX10_said cX10_said 5 none 5 120 κ) {K : zI → zP → Prop} (hE : zEnd (zKv K) 0 0 κ) {y1 : Int32} {y2 : Int32} {y3 : Int32} {s0 : Int32} {s1 : Int32} {I : zI} {P : zP} (hP : PSt P) (h : j_X10_said_22 K y1 y2 y3 s0 s1 I P) : Gx κ 22 [.ref 155, .int y1, .int y2, .int y3, .float 0] [.int s0, .int s1, .ref 176] SHy I P 0 0 := by
  unfold j_X10_said_22 at h
  refine g_iadd cx dX10_said_22 ?_
  obtain ⟨hc1, h⟩ := h
  refine g_iald cx dX10_said_23 rfl hc1 (x := (I 176 (((s1 + s0)).toNatClampNeg))) rfl ?_
  refine g_istore cx dX10_said_24 (Nat.le_of_ble_eq_true rfl) (Gx.L [.ref 155, .int y1, .int y2, .int y3, .int (I 176 (((s1 + s0)).toNatClampNeg))] rfl ?_)
  refine g_aload_n cx dX10_said_26 rfl ?_
  refine g_getR cx lk_X10_138 rfl (Nat.le_of_ble_eq_true rfl) rfl dX10_said_27 (v := 197) (pst hP 196 rfl) ?_
  refine g_aload_n cx dX10_said_30 rfl ?_
  refine g_getI cx lk_X10_415 rfl (Nat.le_of_ble_eq_true rfl) rfl dX10_said_31 (x := (I 155 54)) rfl ?_
  refine g_iconst cx dX10_said_34 ic_1 ?_
  refine g_isub cx dX10_said_35 ?_
  refine g_iload_n cx dX10_said_36 rfl ?_
  refine g_iload_n cx dX10_said_37 rfl ?_
  refine g_iconst cx dX10_said_38 ic_0 ?_
  refine g_wSi cx [.int y3, .int 0] [.int y2, .int ((I 155 54) - 1), .ref 197] (e_X10_sizeOf hP h) mt_X10_sizeOf ml_X10_222 dX10_said_39 rfl rfl (Nat.le_of_ble_eq_true rfl) (Nat.le_of_ble_eq_true rfl) (Nat.le_of_ble_eq_true rfl) (fun v2 I2 P2 hP h => ?_)
  refine g_iadd cx dX10_said_42 ?_
  obtain ⟨hc3, h⟩ := h
  refine g_iast cx dX10_said_43 rfl hc3 ?_
  refine g_iload_n cx dX10_said_44 rfl ?_
  by_cases c4 : y3 = 48
  · have h := zifp c4 h
    refine g_tabIn cx (tgt := 100) (off := 55) dX10_said_45 (by rw [c4]; decide) (by rw [c4]; decide) (by rw [c4]; rfl) rfl ?_
    refine g_aload_n cx dX10_said_100 rfl ?_
    refine g_iload cx dX10_said_101 rfl ?_
    refine g_iconst cx dX10_said_103 ic_0 ?_
    refine g_wVv cx [.int (I 176 (((s1 + s0)).toNatClampNeg)), .int 0] [] (e_X10_tell hP h) mt_X10_tell ml_X10_442 rfl rfl rfl dX10_said_104 rfl rfl (Nat.le_of_ble_eq_true rfl) (Nat.le_of_ble_eq_true rfl) (Nat.le_of_ble_eq_true rfl) (fun I5 P5 hP h => ?_)
    refine g_goto cx (tgt := 224) dX10_said_107 rfl ?_
    exact g_wv cx hE dX10_said_224 rfl hP h
  · have h := zifn c4 h
    by_cases c6 : y3 = 49
    · have h := zifp c6 h
      refine g_tabIn cx (tgt := 110) (off := 65) dX10_said_45 (by rw [c6]; decide) (by rw [c6]; decide) (by rw [c6]; rfl) rfl ?_
      refine g_aload_n cx dX10_said_110 rfl ?_
      refine g_iload cx dX10_said_111 rfl ?_
      refine g_aload_n cx dX10_said_113 rfl ?_
      refine g_getR cx lk_X10_75 rfl (Nat.le_of_ble_eq_true rfl) rfl dX10_said_114 (v := 176) (pst hP 175 rfl) ?_
      refine g_sipush cx dX10_said_117 sp_1000 ?_
      refine g_iload_n cx dX10_said_120 rfl ?_
      refine g_imul cx dX10_said_121 ?_
      refine g_iload_n cx dX10_said_122 rfl ?_
      refine g_iadd cx dX10_said_123 ?_
      refine g_iconst cx dX10_said_124 ic_2 ?_
      refine g_iadd cx dX10_said_125 ?_
      obtain ⟨hc7, h⟩ := h
      refine g_iald cx dX10_said_126 rfl hc7 (x := ((zu I2 197 ((((I 155 54) - 1)).toNatClampNeg) (y2 + v2)) 176 (((((1000 * y1) + y2) + 2)).toNatClampNeg))) rfl ?_
      refine g_wVv cx [.int (I 176 (((s1 + s0)).toNatClampNeg)), .int ((zu I2 197 ((((I 155 54) - 1)).toNatClampNeg) (y2 + v2)) 176 (((((1000 * y1) + y2) + 2)).toNatClampNeg))] [] (e_X10_tell hP h) mt_X10_tell ml_X10_442 rfl rfl rfl dX10_said_127 rfl rfl (Nat.le_of_ble_eq_true rfl) (Nat.le_of_ble_eq_true rfl) (Nat.le_of_ble_eq_true rfl) (fun I8 P8 hP h => ?_)
      refine g_goto cx (tgt := 224) dX10_said_130 rfl ?_
      exact g_wv cx hE dX10_said_224 rfl hP h
    · have h := zifn c6 h
      by_cases c9 : y3 = 50
      · have h := zifp c9 h
        refine g_tabIn cx (tgt := 133) (off := 88) dX10_said_45 (by rw [c9]; decide) (by rw [c9]; decide) (by rw [c9]; rfl) rfl ?_
        refine g_aload_n cx dX10_said_133 rfl ?_
        refine g_iload cx dX10_said_134 rfl ?_
        refine g_iload_n cx dX10_said_136 rfl ?_
        refine g_wVv cx [.int (I 176 (((s1 + s0)).toNatClampNeg)), .int y1] [] (e_X10_tellArguments hP h) mt_X10_tellArguments ml_X10_439 rfl rfl rfl dX10_said_137 rfl rfl (Nat.le_of_ble_eq_true rfl) (Nat.le_of_ble_eq_true rfl) (Nat.le_of_ble_eq_true rfl) (fun I10 P10 hP h => ?_)
        refine g_goto cx (tgt := 224) dX10_said_140 rfl ?_
        exact g_wv cx hE dX10_said_224 rfl hP h
      · have h := zifn c9 h
        by_cases c11 : y3 = 51
        · have h := zifp c11 h
          refine g_tabIn cx (tgt := 143) (off := 98) dX10_said_45 (by rw [c11]; decide) (by rw [c11]; decide) (by rw [c11]; rfl) rfl ?_
          refine g_aload_n cx dX10_said_143 rfl ?_
          refine g_iload cx dX10_said_144 rfl ?_
          refine g_aload_n cx dX10_said_146 rfl ?_
          refine g_iconst cx dX10_said_147 ic_0 ?_
          refine g_wVi cx [.int 0] [.int (I 176 (((s1 + s0)).toNatClampNeg)), .ref 155] (e_X10_top hP h) mt_X10_top ml_X10_474 rfl rfl rfl dX10_said_148 rfl rfl (Nat.le_of_ble_eq_true rfl) (Nat.le_of_ble_eq_true rfl) (Nat.le_of_ble_eq_true rfl) (fun v12 I12 P12 hP h => ?_)
          refine g_wVv cx [.int (I 176 (((s1 + s0)).toNatClampNeg)), .int v12] [] (e_X10_tell hP h) mt_X10_tell ml_X10_442 rfl rfl rfl dX10_said_151 rfl rfl (Nat.le_of_ble_eq_true rfl) (Nat.le_of_ble_eq_true rfl) (Nat.le_of_ble_eq_true rfl) (fun I13 P13 hP h => ?_)
          refine g_goto cx (tgt := 224) dX10_said_154 rfl ?_
          exact g_wv cx hE dX10_said_224 rfl hP h
        · have h := zifn c11 h
          by_cases c14 : y3 = 52
          · have h := zifp c14 h
            refine g_tabIn cx (tgt := 157) (off := 112) dX10_said_45 (by rw [c14]; decide) (by rw [c14]; decide) (by rw [c14]; rfl) rfl ?_
            refine g_aload_n cx dX10_said_157 rfl ?_
            refine g_iload cx dX10_said_158 rfl ?_
            refine g_aload_n cx dX10_said_160 rfl ?_
            refine g_iconst cx dX10_said_161 ic_0 ?_
            refine g_wVi cx [.int 0] [.int (I 176 (((s1 + s0)).toNatClampNeg)), .ref 155] (e_X10_top hP h) mt_X10_top ml_X10_474 rfl rfl rfl dX10_said_162 rfl rfl (Nat.le_of_ble_eq_true rfl) (Nat.le_of_ble_eq_true rfl) (Nat.le_of_ble_eq_true rfl) (fun v15 I15 P15 hP h => ?_)
            refine g_ineg cx dX10_said_165 ?_
            refine g_wVv cx [.int (I 176 (((s1 + s0)).toNatClampNeg)), .int (-v15)] [] (e_X10_tell hP h) mt_X10_tell ml_X10_442 rfl rfl rfl dX10_said_166 rfl rfl (Nat.le_of_ble_eq_true rfl) (Nat.le_of_ble_eq_true rfl) (Nat.le_of_ble_eq_true rfl) (fun I16 P16 hP h => ?_)
            refine g_goto cx (tgt := 224) dX10_said_169 rfl ?_
            exact g_wv cx hE dX10_said_224 rfl hP h
          · have h := zifn c14 h
            by_cases c17 : y3 = 53
            · have h := zifp c17 h
              refine g_tabIn cx (tgt := 172) (off := 127) dX10_said_45 (by rw [c17]; decide) (by rw [c17]; decide) (by rw [c17]; rfl) rfl ?_
              refine g_aload_n cx dX10_said_172 rfl ?_
              refine g_iload_n cx dX10_said_173 rfl ?_
              refine g_iload_n cx dX10_said_174 rfl ?_
              refine g_iload cx dX10_said_175 rfl ?_
              refine g_wVv cx [.int y1, .int y2, .int (I 176 (((s1 + s0)).toNatClampNeg))] [] (e_X10_oldWoven hP h) mt_X10_oldWoven ml_X10_492 rfl rfl rfl dX10_said_177 rfl rfl (Nat.le_of_ble_eq_true rfl) (Nat.le_of_ble_eq_true rfl) (Nat.le_of_ble_eq_true rfl) (fun I18 P18 hP h => ?_)
              refine g_goto cx (tgt := 224) dX10_said_180 rfl ?_
              exact g_wv cx hE dX10_said_224 rfl hP h
            · have h := zifn c17 h
              by_cases c19 : y3 = 54
              · have h := zifp c19 h
                refine g_tabIn cx (tgt := 183) (off := 138) dX10_said_45 (by rw [c19]; decide) (by rw [c19]; decide) (by rw [c19]; rfl) rfl ?_
                refine g_aload_n cx dX10_said_183 rfl ?_
                refine g_iload cx dX10_said_184 rfl ?_
                refine g_wVv cx [.int (I 176 (((s1 + s0)).toNatClampNeg))] [] (e_X10_tellStore hP h) mt_X10_tellStore ml_X10_486 rfl rfl rfl dX10_said_186 rfl rfl (Nat.le_of_ble_eq_true rfl) (Nat.le_of_ble_eq_true rfl) (Nat.le_of_ble_eq_true rfl) (fun I20 P20 hP h => ?_)
                refine g_goto cx (tgt := 224) dX10_said_189 rfl ?_
                exact g_wv cx hE dX10_said_224 rfl hP h
              · have h := zifn c19 h
                by_cases c21 : y3 = 55
                · have h := zifp c21 h
                  refine g_tabIn cx (tgt := 143) (off := 98) dX10_said_45 (by rw [c21]; decide) (by rw [c21]; decide) (by rw [c21]; rfl) rfl ?_
                  refine g_aload_n cx dX10_said_143 rfl ?_
                  refine g_iload cx dX10_said_144 rfl ?_
                  refine g_aload_n cx dX10_said_146 rfl ?_
                  refine g_iconst cx dX10_said_147 ic_0 ?_
                  refine g_wVi cx [.int 0] [.int (I 176 (((s1 + s0)).toNatClampNeg)), .ref 155] (e_X10_top hP h) mt_X10_top ml_X10_474 rfl rfl rfl dX10_said_148 rfl rfl (Nat.le_of_ble_eq_true rfl) (Nat.le_of_ble_eq_true rfl) (Nat.le_of_ble_eq_true rfl) (fun v22 I22 P22 hP h => ?_)
                  refine g_wVv cx [.int (I 176 (((s1 + s0)).toNatClampNeg)), .int v22] [] (e_X10_tell hP h) mt_X10_tell ml_X10_442 rfl rfl rfl dX10_said_151 rfl rfl (Nat.le_of_ble_eq_true rfl) (Nat.le_of_ble_eq_true rfl) (Nat.le_of_ble_eq_true rfl) (fun I23 P23 hP h => ?_)
                  refine g_goto cx (tgt := 224) dX10_said_154 rfl ?_
                  exact g_wv cx hE dX10_said_224 rfl hP h
                · have h := zifn c21 h
                  by_cases c24 : y3 = 56
                  · have h := zifp c24 h
                    refine g_tabIn cx (tgt := 192) (off := 147) dX10_said_45 (by rw [c24]; decide) (by rw [c24]; decide) (by rw [c24]; rfl) rfl ?_
                    refine g_aload_n cx dX10_said_192 rfl ?_
                    refine g_iload_n cx dX10_said_193 rfl ?_
                    refine g_iload_n cx dX10_said_194 rfl ?_
                    refine g_iload cx dX10_said_195 rfl ?_
                    refine g_wVv cx [.int y1, .int y2, .int (I 176 (((s1 + s0)).toNatClampNeg))] [] (e_X10_faultWoven hP h) mt_X10_faultWoven ml_X10_495 rfl rfl rfl dX10_said_197 rfl rfl (Nat.le_of_ble_eq_true rfl) (Nat.le_of_ble_eq_true rfl) (Nat.le_of_ble_eq_true rfl) (fun I25 P25 hP h => ?_)
                    refine g_goto cx (tgt := 224) dX10_said_200 rfl ?_
                    exact g_wv cx hE dX10_said_224 rfl hP h
                  · have h := zifn c24 h
                    by_cases c26 : y3 = 57
                    · have h := zifp c26 h
                      refine g_tabIn cx (tgt := 203) (off := 158) dX10_said_45 (by rw [c26]; decide) (by rw [c26]; decide) (by rw [c26]; rfl) rfl ?_
                      refine g_aload_n cx dX10_said_203 rfl ?_
                      refine g_iload cx dX10_said_204 rfl ?_
                      refine g_wVv cx [.int (I 176 (((s1 + s0)).toNatClampNeg))] [] (e_X10_replace hP h) mt_X10_replace ml_X10_489 rfl rfl rfl dX10_said_206 rfl rfl (Nat.le_of_ble_eq_true rfl) (Nat.le_of_ble_eq_true rfl) (Nat.le_of_ble_eq_true rfl) (fun I27 P27 hP h => ?_)
                      refine g_goto cx (tgt := 224) dX10_said_209 rfl ?_
                      exact g_wv cx hE dX10_said_224 rfl hP h
                    · have h := zifn c26 h
                      refine g_tabOut cx (tgt := 212) dX10_said_45 (by have q0 : (y3 : Int32).toInt ≠ 48 := i32ne c4; have q1 : (y3 : Int32).toInt ≠ 49 := i32ne c6; have q2 : (y3 : Int32).toInt ≠ 50 := i32ne c9; have q3 : (y3 : Int32).toInt ≠ 51 := i32ne c11; have q4 : (y3 : Int32).toInt ≠ 52 := i32ne c14; have q5 : (y3 : Int32).toInt ≠ 53 := i32ne c17; have q6 : (y3 : Int32).toInt ≠ 54 := i32ne c19; have q7 : (y3 : Int32).toInt ≠ 55 := i32ne c21; have q8 : (y3 : Int32).toInt ≠ 56 := i32ne c24; have q9 : (y3 : Int32).toInt ≠ 57 := i32ne c26; omega) rfl ?_
                      refine g_aload_n cx dX10_said_212 rfl ?_
                      refine g_aload_n cx dX10_said_213 rfl ?_
                      refine g_wVi cx [] [.ref 155] (e_X10_take hP h) mt_X10_take ml_X10_498 rfl rfl rfl dX10_said_214 rfl rfl (Nat.le_of_ble_eq_true rfl) (Nat.le_of_ble_eq_true rfl) (Nat.le_of_ble_eq_true rfl) (fun v28 I28 P28 hP h => ?_)
                      refine g_pI cx lk_X10_424 rfl (Nat.le_of_ble_eq_true rfl) rfl dX10_said_217 fi_10_65 rfl rfl ?_
                      refine g_aload_n cx dX10_said_220 rfl ?_
                      refine g_wVv cx [] [] (e_X10_leaves hP h) mt_X10_leaves ml_X10_501 rfl rfl rfl dX10_said_221 rfl rfl (Nat.le_of_ble_eq_true rfl) (Nat.le_of_ble_eq_true rfl) (Nat.le_of_ble_eq_true rfl) (fun I29 P29 hP h => ?_)
                      exact g_wv cx hE dX10_said_224 rfl hP h
def w_X10_said (x1 : Int32) (x2 : Int32) (x3 : Int32) (I : zI) (P : zP) (K : zI → zP → Prop) : Prop := if x3 = 58 then (j_X10_said_22 K x1 x2 x3 0 ((1000 * x1) + x2) I P) else (j_X10_said_22 K x1 x2 x3 1 ((1000 * x1) + x2) I P)
theorem e_X10_said {x1 : Int32} {x2 : Int32} {x3 : Int32} {I : zI} {P : zP} {K : zI → zP → Prop} (hP : PSt P) (h : w_X10_said x1 x2 x3 I P K) : Ev yX10_said cX10_said 5 none 5 120 0 0 [.ref 155, .int x1, .int x2, .int x3] SHy I P (zKv K) := by
  refine Ev.start [.ref 155, .int x1, .int x2, .int x3, .float 0] pn_X10 rfl (Nat.le_of_ble_eq_true rfl) rfl (fun κ cx hE => ?_)
  unfold w_X10_said at h
  refine g_aload_n cx dX10_said_0 rfl ?_
  refine g_getR cx lk_X10_75 rfl (Nat.le_of_ble_eq_true rfl) rfl dX10_said_1 (v := 176) (pst hP 175 rfl) ?_
  refine g_sipush cx dX10_said_4 sp_1000 ?_
  refine g_iload_n cx dX10_said_7 rfl ?_
  refine g_imul cx dX10_said_8 ?_
  refine g_iload_n cx dX10_said_9 rfl ?_
  refine g_iadd cx dX10_said_10 ?_
  refine g_iload_n cx dX10_said_11 rfl ?_
  refine g_bipush cx dX10_said_12 bp_58 ?_
  refine g_icmp_ne cx (tgt := 21) dX10_said_14 rfl (fun c1 => ?_) (fun c1 => ?_)
  · have h := zifn c1 h
    refine g_iconst cx dX10_said_21 ic_1 ?_
    exact gj_X10_said_22 cx hE hP h
  · have h := zifp c1 h
    refine g_iconst cx dX10_said_17 ic_0 ?_
    refine g_goto cx (tgt := 22) dX10_said_18 rfl ?_
    exact gj_X10_said_22 cx hE hP h
def j_X10_step_74 (K : zI → zP → Prop) (y1 : Int32) (y2 : Int32) (y3 : Int32) (s0 : Int32) (I : zI) (P : zP) : Prop := if s0 = (-1) then (w_X10_jumpTo y1 y2 y3 I P (fun (v12 : Int32) (I12 : zI) (P12 : zP) => (vp_in ((I 155 54) - 1) 12 ∧ (K (zu I12 197 ((((I 155 54) - 1)).toNatClampNeg) v12) P12)))) else (w_X10_ahead y1 y2 y3 I P (fun (v2 : Int32) (I2 : zI) (P2 : zP) => (if v2 = 0 then (if (I2 155 53) = (I2 155 51) then (K (zu I2 155 52 2) P2) else (w_X10_done y1 y2 y3 s0 (zu (zu I2 155 53 ((I2 155 53) + 1)) 155 65 0) P2 (fun (v5 : Int32) (I5 : zI) (P5 : zP) => (if (I5 155 65) = 0 then (if ((I5 155 54) - 1) = ((I2 155 54) - 1) then (if (I5 155 52) = (-1) then (if y3 = 42 then (K I5 P5) else (w_X10_behind y1 y2 y3 v5 I5 P5 (fun (I10 : zI) (P10 : zP) => (K I10 P10)))) else (K I5 P5)) else (K I5 P5)) else (w_X10_isThrown (zu (zu I5 155 66 y1) 155 67 s0) P5 (fun (I11 : zI) (P11 : zP) => (K I11 P11))))))) else (K I2 P2))))
theorem gj_X10_step_74 {κ : zX} (cx : Cx yX10_step cX10_step 7 none 6 144 κ) {K : zI → zP → Prop} (hE : zEnd (zKv K) 0 0 κ) {y1 : Int32} {y2 : Int32} {y3 : Int32} {s0 : Int32} {I : zI} {P : zP} (hP : PSt P) (h : j_X10_step_74 K y1 y2 y3 s0 I P) : Gx κ 74 [.ref 155, .int y1, .int y2, .int y3, .float 0, .float 0, .float 0] [.int s0] SHy I P 0 0 := by
  unfold j_X10_step_74 at h
  refine g_istore cx dX10_step_74 (Nat.le_of_ble_eq_true rfl) (Gx.L [.ref 155, .int y1, .int y2, .int y3, .int s0, .float 0, .float 0] rfl ?_)
  refine g_iload cx dX10_step_76 rfl ?_
  refine g_iconst cx dX10_step_78 ic_m1 ?_
  refine g_icmp_ne cx (tgt := 101) dX10_step_79 rfl (fun c1 => ?_) (fun c1 => ?_)
  · have h := zifn c1 h
    refine g_aload_n cx dX10_step_101 rfl ?_
    refine g_iload_n cx dX10_step_102 rfl ?_
    refine g_iload_n cx dX10_step_103 rfl ?_
    refine g_iload_n cx dX10_step_104 rfl ?_
    refine g_wVi cx [.int y1, .int y2, .int y3] [] (e_X10_ahead hP h) mt_X10_ahead ml_X10_457 rfl rfl rfl dX10_step_105 rfl rfl (Nat.le_of_ble_eq_true rfl) (Nat.le_of_ble_eq_true rfl) (Nat.le_of_ble_eq_true rfl) (fun v2 I2 P2 hP h => ?_)
    refine g_if_eq cx (tgt := 112) dX10_step_108 rfl (fun c3 => ?_) (fun c3 => ?_)
    · have h := zifp c3 h
      refine g_aload_n cx dX10_step_112 rfl ?_
      refine g_getI cx lk_X10_412 rfl (Nat.le_of_ble_eq_true rfl) rfl dX10_step_113 (x := (I2 155 53)) rfl ?_
      refine g_aload_n cx dX10_step_116 rfl ?_
      refine g_getI cx lk_X10_388 rfl (Nat.le_of_ble_eq_true rfl) rfl dX10_step_117 (x := (I2 155 51)) rfl ?_
      refine g_icmp_ne cx (tgt := 129) dX10_step_120 rfl (fun c4 => ?_) (fun c4 => ?_)
      · have h := zifn c4 h
        refine g_aload_n cx dX10_step_129 rfl ?_
        refine g_dup cx dX10_step_130 rfl ?_
        refine g_getI cx lk_X10_412 rfl (Nat.le_of_ble_eq_true rfl) rfl dX10_step_131 (x := (I2 155 53)) rfl ?_
        refine g_iconst cx dX10_step_134 ic_1 ?_
        refine g_iadd cx dX10_step_135 ?_
        refine g_pI cx lk_X10_412 rfl (Nat.le_of_ble_eq_true rfl) rfl dX10_step_136 fi_10_53 rfl rfl ?_
        refine g_aload_n cx dX10_step_139 rfl ?_
        refine g_iconst cx dX10_step_140 ic_0 ?_
        refine g_pI cx lk_X10_424 rfl (Nat.le_of_ble_eq_true rfl) rfl dX10_step_141 fi_10_65 rfl rfl ?_
        refine g_aload_n cx dX10_step_144 rfl ?_
        refine g_getI cx lk_X10_415 rfl (Nat.le_of_ble_eq_true rfl) rfl dX10_step_145 (x := (I2 155 54)) rfl ?_
        refine g_iconst cx dX10_step_148 ic_1 ?_
        refine g_isub cx dX10_step_149 ?_
        refine g_istore cx dX10_step_150 (Nat.le_of_ble_eq_true rfl) (Gx.L [.ref 155, .int y1, .int y2, .int y3, .int s0, .int ((I2 155 54) - 1), .float 0] rfl ?_)
        refine g_aload_n cx dX10_step_152 rfl ?_
        refine g_iload_n cx dX10_step_153 rfl ?_
        refine g_iload_n cx dX10_step_154 rfl ?_
        refine g_iload_n cx dX10_step_155 rfl ?_
        refine g_iload cx dX10_step_156 rfl ?_
        refine g_wVi cx [.int y1, .int y2, .int y3, .int s0] [] (e_X10_done hP h) mt_X10_done ml_X10_460 rfl rfl rfl dX10_step_158 rfl rfl (Nat.le_of_ble_eq_true rfl) (Nat.le_of_ble_eq_true rfl) (Nat.le_of_ble_eq_true rfl) (fun v5 I5 P5 hP h => ?_)
        refine g_istore cx dX10_step_161 (Nat.le_of_ble_eq_true rfl) (Gx.L [.ref 155, .int y1, .int y2, .int y3, .int s0, .int ((I2 155 54) - 1), .int v5] rfl ?_)
        refine g_aload_n cx dX10_step_163 rfl ?_
        refine g_getI cx lk_X10_424 rfl (Nat.le_of_ble_eq_true rfl) rfl dX10_step_164 (x := (I5 155 65)) rfl ?_
        refine g_if_eq cx (tgt := 188) dX10_step_167 rfl (fun c6 => ?_) (fun c6 => ?_)
        · have h := zifp c6 h
          refine g_aload_n cx dX10_step_188 rfl ?_
          refine g_getI cx lk_X10_415 rfl (Nat.le_of_ble_eq_true rfl) rfl dX10_step_189 (x := (I5 155 54)) rfl ?_
          refine g_iconst cx dX10_step_192 ic_1 ?_
          refine g_isub cx dX10_step_193 ?_
          refine g_iload cx dX10_step_194 rfl ?_
          refine g_icmp_ne cx (tgt := 222) dX10_step_196 rfl (fun c7 => ?_) (fun c7 => ?_)
          · have h := zifn c7 h
            exact g_wv cx hE dX10_step_222 rfl hP h
          · have h := zifp c7 h
            refine g_aload_n cx dX10_step_199 rfl ?_
            refine g_getI cx lk_X10_403 rfl (Nat.le_of_ble_eq_true rfl) rfl dX10_step_200 (x := (I5 155 52)) rfl ?_
            refine g_iconst cx dX10_step_203 ic_m1 ?_
            refine g_icmp_ne cx (tgt := 222) dX10_step_204 rfl (fun c8 => ?_) (fun c8 => ?_)
            · have h := zifn c8 h
              exact g_wv cx hE dX10_step_222 rfl hP h
            · have h := zifp c8 h
              refine g_iload_n cx dX10_step_207 rfl ?_
              refine g_bipush cx dX10_step_208 bp_42 ?_
              refine g_icmp_eq cx (tgt := 222) dX10_step_210 rfl (fun c9 => ?_) (fun c9 => ?_)
              · have h := zifp c9 h
                exact g_wv cx hE dX10_step_222 rfl hP h
              · have h := zifn c9 h
                refine g_aload_n cx dX10_step_213 rfl ?_
                refine g_iload_n cx dX10_step_214 rfl ?_
                refine g_iload_n cx dX10_step_215 rfl ?_
                refine g_iload_n cx dX10_step_216 rfl ?_
                refine g_iload cx dX10_step_217 rfl ?_
                refine g_wVv cx [.int y1, .int y2, .int y3, .int v5] [] (e_X10_behind hP h) mt_X10_behind ml_X10_467 rfl rfl rfl dX10_step_219 rfl rfl (Nat.le_of_ble_eq_true rfl) (Nat.le_of_ble_eq_true rfl) (Nat.le_of_ble_eq_true rfl) (fun I10 P10 hP h => ?_)
                exact g_wv cx hE dX10_step_222 rfl hP h
        · have h := zifn c6 h
          refine g_aload_n cx dX10_step_170 rfl ?_
          refine g_iload_n cx dX10_step_171 rfl ?_
          refine g_pI cx lk_X10_427 rfl (Nat.le_of_ble_eq_true rfl) rfl dX10_step_172 fi_10_66 rfl rfl ?_
          refine g_aload_n cx dX10_step_175 rfl ?_
          refine g_iload cx dX10_step_176 rfl ?_
          refine g_pI cx lk_X10_430 rfl (Nat.le_of_ble_eq_true rfl) rfl dX10_step_178 fi_10_67 rfl rfl ?_
          refine g_aload_n cx dX10_step_181 rfl ?_
          refine g_wVv cx [] [] (e_X10_isThrown hP h) mt_X10_isThrown ml_X10_464 rfl rfl rfl dX10_step_182 rfl rfl (Nat.le_of_ble_eq_true rfl) (Nat.le_of_ble_eq_true rfl) (Nat.le_of_ble_eq_true rfl) (fun I11 P11 hP h => ?_)
          refine g_goto cx (tgt := 222) dX10_step_185 rfl ?_
          exact g_wv cx hE dX10_step_222 rfl hP h
      · have h := zifp c4 h
        refine g_aload_n cx dX10_step_123 rfl ?_
        refine g_iconst cx dX10_step_124 ic_2 ?_
        refine g_pI cx lk_X10_403 rfl (Nat.le_of_ble_eq_true rfl) rfl dX10_step_125 fi_10_52 rfl rfl ?_
        exact g_wv cx hE dX10_step_128 rfl hP h
    · have h := zifn c3 h
      exact g_wv cx hE dX10_step_111 rfl hP h
  · have h := zifp c1 h
    refine g_aload_n cx dX10_step_82 rfl ?_
    refine g_getR cx lk_X10_138 rfl (Nat.le_of_ble_eq_true rfl) rfl dX10_step_83 (v := 197) (pst hP 196 rfl) ?_
    refine g_aload_n cx dX10_step_86 rfl ?_
    refine g_getI cx lk_X10_415 rfl (Nat.le_of_ble_eq_true rfl) rfl dX10_step_87 (x := (I 155 54)) rfl ?_
    refine g_iconst cx dX10_step_90 ic_1 ?_
    refine g_isub cx dX10_step_91 ?_
    refine g_aload_n cx dX10_step_92 rfl ?_
    refine g_iload_n cx dX10_step_93 rfl ?_
    refine g_iload_n cx dX10_step_94 rfl ?_
    refine g_iload_n cx dX10_step_95 rfl ?_
    refine g_wVi cx [.int y1, .int y2, .int y3] [.int ((I 155 54) - 1), .ref 197] (e_X10_jumpTo hP h) mt_X10_jumpTo ml_X10_454 rfl rfl rfl dX10_step_96 rfl rfl (Nat.le_of_ble_eq_true rfl) (Nat.le_of_ble_eq_true rfl) (Nat.le_of_ble_eq_true rfl) (fun v12 I12 P12 hP h => ?_)
    obtain ⟨hc13, h⟩ := h
    refine g_iast cx dX10_step_99 rfl hc13 ?_
    exact g_wv cx hE dX10_step_100 rfl hP h
def w_X10_step (I : zI) (P : zP) (K : zI → zP → Prop) : Prop := vp_in ((I 155 54) - 1) 12 ∧ (vp_in ((I 155 54) - 1) 12 ∧ (w_X10_octetAt (I 196 ((((I 155 54) - 1)).toNatClampNeg)) (I 197 ((((I 155 54) - 1)).toNatClampNeg)) I P (fun (v3 : Int32) (I3 : zI) (P3 : zP) => (w_X10_in v3 48 58 I3 P3 (fun (v4 : Int32) (I4 : zI) (P4 : zP) => (if v4 = 0 then (w_X10_runsWoven (I 196 ((((I 155 54) - 1)).toNatClampNeg)) I4 P4 (fun (v6 : Int32) (I6 : zI) (P6 : zP) => (if v6 = 0 then (j_X10_step_74 K (I 196 ((((I 155 54) - 1)).toNatClampNeg)) (I 197 ((((I 155 54) - 1)).toNatClampNeg)) v3 (I 197 ((((I 155 54) - 1)).toNatClampNeg)) I6 P6) else (vp_in ((1000 * (I 196 ((((I 155 54) - 1)).toNatClampNeg))) + (I 197 ((((I 155 54) - 1)).toNatClampNeg))) 6000 ∧ (j_X10_step_74 K (I 196 ((((I 155 54) - 1)).toNatClampNeg)) (I 197 ((((I 155 54) - 1)).toNatClampNeg)) v3 (I6 178 ((((1000 * (I 196 ((((I 155 54) - 1)).toNatClampNeg))) + (I 197 ((((I 155 54) - 1)).toNatClampNeg)))).toNatClampNeg)) I6 P6))))) else (w_X10_said (I 196 ((((I 155 54) - 1)).toNatClampNeg)) (I 197 ((((I 155 54) - 1)).toNatClampNeg)) v3 I4 P4 (fun (I9 : zI) (P9 : zP) => (K I9 P9)))))))))
theorem e_X10_step {I : zI} {P : zP} {K : zI → zP → Prop} (hP : PSt P) (h : w_X10_step I P K) : Ev yX10_step cX10_step 7 none 6 144 0 0 [.ref 155] SHy I P (zKv K) := by
  refine Ev.start [.ref 155, .float 0, .float 0, .float 0, .float 0, .float 0, .float 0] pn_X10 rfl (Nat.le_of_ble_eq_true rfl) rfl (fun κ cx hE => ?_)
  unfold w_X10_step at h
  refine g_aload_n cx dX10_step_0 rfl ?_
  refine g_getR cx lk_X10_135 rfl (Nat.le_of_ble_eq_true rfl) rfl dX10_step_1 (v := 196) (pst hP 195 rfl) ?_
  refine g_aload_n cx dX10_step_4 rfl ?_
  refine g_getI cx lk_X10_415 rfl (Nat.le_of_ble_eq_true rfl) rfl dX10_step_5 (x := (I 155 54)) rfl ?_
  refine g_iconst cx dX10_step_8 ic_1 ?_
  refine g_isub cx dX10_step_9 ?_
  obtain ⟨hc1, h⟩ := h
  refine g_iald cx dX10_step_10 rfl hc1 (x := (I 196 ((((I 155 54) - 1)).toNatClampNeg))) rfl ?_
  refine g_istore_n cx dX10_step_11 (Nat.le_of_ble_eq_true rfl) (Gx.L [.ref 155, .int (I 196 ((((I 155 54) - 1)).toNatClampNeg)), .float 0, .float 0, .float 0, .float 0, .float 0] rfl ?_)
  refine g_aload_n cx dX10_step_12 rfl ?_
  refine g_getR cx lk_X10_138 rfl (Nat.le_of_ble_eq_true rfl) rfl dX10_step_13 (v := 197) (pst hP 196 rfl) ?_
  refine g_aload_n cx dX10_step_16 rfl ?_
  refine g_getI cx lk_X10_415 rfl (Nat.le_of_ble_eq_true rfl) rfl dX10_step_17 (x := (I 155 54)) rfl ?_
  refine g_iconst cx dX10_step_20 ic_1 ?_
  refine g_isub cx dX10_step_21 ?_
  obtain ⟨hc2, h⟩ := h
  refine g_iald cx dX10_step_22 rfl hc2 (x := (I 197 ((((I 155 54) - 1)).toNatClampNeg))) rfl ?_
  refine g_istore_n cx dX10_step_23 (Nat.le_of_ble_eq_true rfl) (Gx.L [.ref 155, .int (I 196 ((((I 155 54) - 1)).toNatClampNeg)), .int (I 197 ((((I 155 54) - 1)).toNatClampNeg)), .float 0, .float 0, .float 0, .float 0] rfl ?_)
  refine g_aload_n cx dX10_step_24 rfl ?_
  refine g_iload_n cx dX10_step_25 rfl ?_
  refine g_iload_n cx dX10_step_26 rfl ?_
  refine g_wVi cx [.int (I 196 ((((I 155 54) - 1)).toNatClampNeg)), .int (I 197 ((((I 155 54) - 1)).toNatClampNeg))] [] (e_X10_octetAt hP h) mt_X10_octetAt ml_X10_448 rfl rfl rfl dX10_step_27 rfl rfl (Nat.le_of_ble_eq_true rfl) (Nat.le_of_ble_eq_true rfl) (Nat.le_of_ble_eq_true rfl) (fun v3 I3 P3 hP h => ?_)
  refine g_istore_n cx dX10_step_30 (Nat.le_of_ble_eq_true rfl) (Gx.L [.ref 155, .int (I 196 ((((I 155 54) - 1)).toNatClampNeg)), .int (I 197 ((((I 155 54) - 1)).toNatClampNeg)), .int v3, .float 0, .float 0, .float 0] rfl ?_)
  refine g_iload_n cx dX10_step_31 rfl ?_
  refine g_bipush cx dX10_step_32 bp_48 ?_
  refine g_bipush cx dX10_step_34 bp_58 ?_
  refine Gx.N 36 rfl ?_
  refine g_wSi cx [.int v3, .int 48, .int 58] [] (e_X10_in hP h) mt_X10_in ml_X10_217 dX10_step_36 rfl rfl (Nat.le_of_ble_eq_true rfl) (Nat.le_of_ble_eq_true rfl) (Nat.le_of_ble_eq_true rfl) (fun v4 I4 P4 hP h => ?_)
  refine g_if_eq cx (tgt := 50) dX10_step_39 rfl (fun c5 => ?_) (fun c5 => ?_)
  · have h := zifp c5 h
    refine g_aload_n cx dX10_step_50 rfl ?_
    refine g_iload_n cx dX10_step_51 rfl ?_
    refine g_wVi cx [.int (I 196 ((((I 155 54) - 1)).toNatClampNeg))] [] (e_X10_runsWoven hP h) mt_X10_runsWoven ml_X10_445 rfl rfl rfl dX10_step_52 rfl rfl (Nat.le_of_ble_eq_true rfl) (Nat.le_of_ble_eq_true rfl) (Nat.le_of_ble_eq_true rfl) (fun v6 I6 P6 hP h => ?_)
    refine g_if_eq cx (tgt := 73) dX10_step_55 rfl (fun c7 => ?_) (fun c7 => ?_)
    · have h := zifp c7 h
      refine g_iload_n cx dX10_step_73 rfl ?_
      exact gj_X10_step_74 cx hE hP h
    · have h := zifn c7 h
      refine g_aload_n cx dX10_step_58 rfl ?_
      refine g_getR cx lk_X10_81 rfl (Nat.le_of_ble_eq_true rfl) rfl dX10_step_59 (v := 178) (pst hP 177 rfl) ?_
      refine g_sipush cx dX10_step_62 sp_1000 ?_
      refine g_iload_n cx dX10_step_65 rfl ?_
      refine g_imul cx dX10_step_66 ?_
      refine g_iload_n cx dX10_step_67 rfl ?_
      refine g_iadd cx dX10_step_68 ?_
      obtain ⟨hc8, h⟩ := h
      refine g_iald cx dX10_step_69 rfl hc8 (x := (I6 178 ((((1000 * (I 196 ((((I 155 54) - 1)).toNatClampNeg))) + (I 197 ((((I 155 54) - 1)).toNatClampNeg)))).toNatClampNeg))) rfl ?_
      refine g_goto cx (tgt := 74) dX10_step_70 rfl ?_
      exact gj_X10_step_74 cx hE hP h
  · have h := zifn c5 h
    refine g_aload_n cx dX10_step_42 rfl ?_
    refine g_iload_n cx dX10_step_43 rfl ?_
    refine g_iload_n cx dX10_step_44 rfl ?_
    refine g_iload_n cx dX10_step_45 rfl ?_
    refine g_wVv cx [.int (I 196 ((((I 155 54) - 1)).toNatClampNeg)), .int (I 197 ((((I 155 54) - 1)).toNatClampNeg)), .int v3] [] (e_X10_said hP h) mt_X10_said ml_X10_451 rfl rfl rfl dX10_step_46 rfl rfl (Nat.le_of_ble_eq_true rfl) (Nat.le_of_ble_eq_true rfl) (Nat.le_of_ble_eq_true rfl) (fun I9 P9 hP h => ?_)
    exact g_wv cx hE dX10_step_49 rfl hP h
def l_X10_run_115 (K : Int32 → zI → zP → Prop) : Nat → zI → zP → Prop
  | 0, _, _ => False
  | n + 1, I, P => if (I 155 52) = (-1) then (w_X10_step I P (fun (I3 : zI) (P3 : zP) => ((l_X10_run_115 K n) I3 P3))) else (w_X10_keepRun I P (fun (I2 : zI) (P2 : zP) => (K (I2 155 52) I2 P2)))
theorem gl_X10_run_115 {κ : zX} (cx : Cx yX10_run cX10_run 7 (some .int) 7 170 κ) {K : Int32 → zI → zP → Prop} (hE : zEnd (zKi K) 0 0 κ) : ∀ (n : Nat) (I : zI) (P : zP), PSt P → l_X10_run_115 K n I P → Gx κ 115 [.ref 155, .float 0, .float 0, .float 0, .float 0, .float 0, .float 0] [] SHy I P 0 0 := by
  intro n
  induction n with
  | zero =>
    intro I P hP h
    rw [l_X10_run_115] at h
    exact False.elim h
  | succ n ih =>
    intro I P hP h
    rw [l_X10_run_115] at h
    refine g_aload_n cx dX10_run_115 rfl ?_
    refine g_getI cx lk_X10_403 rfl (Nat.le_of_ble_eq_true rfl) rfl dX10_run_116 (x := (I 155 52)) rfl ?_
    refine g_iconst cx dX10_run_119 ic_m1 ?_
    refine g_icmp_ne cx (tgt := 130) dX10_run_120 rfl (fun c1 => ?_) (fun c1 => ?_)
    · have h := zifn c1 h
      refine g_aload_n cx dX10_run_130 rfl ?_
      refine g_wVv cx [] [] (e_X10_keepRun hP h) mt_X10_keepRun ml_X10_409 rfl rfl rfl dX10_run_131 rfl rfl (Nat.le_of_ble_eq_true rfl) (Nat.le_of_ble_eq_true rfl) (Nat.le_of_ble_eq_true rfl) (fun I2 P2 hP h => ?_)
      refine g_aload_n cx dX10_run_134 rfl ?_
      refine g_getI cx lk_X10_403 rfl (Nat.le_of_ble_eq_true rfl) rfl dX10_run_135 (x := (I2 155 52)) rfl ?_
      exact g_wi cx hE dX10_run_138 rfl rfl hP h
    · have h := zifp c1 h
      refine g_aload_n cx dX10_run_123 rfl ?_
      refine g_wVv cx [] [] (e_X10_step hP h) mt_X10_step ml_X10_406 rfl rfl rfl dX10_run_124 rfl rfl (Nat.le_of_ble_eq_true rfl) (Nat.le_of_ble_eq_true rfl) (Nat.le_of_ble_eq_true rfl) (fun I3 P3 hP h => ?_)
      refine g_goto cx (tgt := 115) dX10_run_127 rfl ?_
      exact ih _ _ hP h
def l_X10_run_65 (K : Int32 → zI → zP → Prop) : Nat → Int32 → Int32 → Int32 → Int32 → zI → zP → Prop
  | 0, _, _, _, _, _, _ => False
  | n + 1, y2, y3, y4, y6, I, P => vp_in y2 6 ∧ (if (I 157 ((y2).toNatClampNeg)) ≤ y6 then (w_X10_enters y2 I P (fun (I3 : zI) (P3 : zP) => (∃ n9, l_X10_run_115 K n9 I3 P3))) else (if y6 = 0 then (vp_in y6 144 ∧ ((l_X10_run_65 K n) y2 y3 y4 (y6 + 1) (zu I 199 ((y6).toNatClampNeg) y3) P)) else (if y6 = 1 then (vp_in y6 144 ∧ ((l_X10_run_65 K n) y2 y3 y4 (y6 + 1) (zu I 199 ((y6).toNatClampNeg) y4) P)) else (vp_in y6 144 ∧ ((l_X10_run_65 K n) y2 y3 y4 (y6 + 1) (zu I 199 ((y6).toNatClampNeg) 0) P)))))
theorem gl_X10_run_65 {κ : zX} (cx : Cx yX10_run cX10_run 7 (some .int) 7 170 κ) {K : Int32 → zI → zP → Prop} (hE : zEnd (zKi K) 0 0 κ) : ∀ (n : Nat) (y2 : Int32) (y3 : Int32) (y4 : Int32) (y6 : Int32) (I : zI) (P : zP), PSt P → l_X10_run_65 K n y2 y3 y4 y6 I P → Gx κ 65 [.ref 155, .float 0, .int y2, .int y3, .int y4, .float 0, .int y6] [] SHy I P 0 0 := by
  intro n
  induction n with
  | zero =>
    intro y2 y3 y4 y6 I P hP h
    rw [l_X10_run_65] at h
    exact False.elim h
  | succ n ih =>
    intro y2 y3 y4 y6 I P hP h
    rw [l_X10_run_65] at h
    refine g_iload cx dX10_run_65 rfl ?_
    refine g_aload_n cx dX10_run_67 rfl ?_
    refine g_getR cx lk_X10_17 rfl (Nat.le_of_ble_eq_true rfl) rfl dX10_run_68 (v := 157) (pst hP 156 rfl) ?_
    refine g_iload_n cx dX10_run_71 rfl ?_
    obtain ⟨hc1, h⟩ := h
    refine g_iald cx dX10_run_72 rfl hc1 (x := (I 157 ((y2).toNatClampNeg))) rfl ?_
    refine g_icmp_ge cx (tgt := 110) dX10_run_73 rfl (fun c2 => ?_) (fun c2 => ?_)
    · have h := zifp c2 h
      refine g_aload_n cx dX10_run_110 rfl ?_
      refine g_iload_n cx dX10_run_111 rfl ?_
      refine g_wVv cx [.int y2] [] (e_X10_enters hP h) mt_X10_enters ml_X10_400 rfl rfl rfl dX10_run_112 rfl rfl (Nat.le_of_ble_eq_true rfl) (Nat.le_of_ble_eq_true rfl) (Nat.le_of_ble_eq_true rfl) (fun I3 P3 hP h => ?_)
      refine (Gx.unset 2 (Gx.unset 3 (Gx.unset 4 (Gx.unset 6 (Gx.L [.ref 155, .float 0, .float 0, .float 0, .float 0, .float 0, .float 0] rfl ?_)))))
      obtain ⟨n9, h⟩ := h
      exact gl_X10_run_115 cx hE n9 _ _ hP h
    · have h := zifn c2 h
      refine g_aload_n cx dX10_run_76 rfl ?_
      refine g_getR cx lk_X10_144 rfl (Nat.le_of_ble_eq_true rfl) rfl dX10_run_77 (v := 199) (pst hP 198 rfl) ?_
      refine g_iload cx dX10_run_80 rfl ?_
      refine g_iload cx dX10_run_82 rfl ?_
      refine g_if_ne cx (tgt := 91) dX10_run_84 rfl (fun c4 => ?_) (fun c4 => ?_)
      · have h := zifn c4 h
        refine g_iload cx dX10_run_91 rfl ?_
        refine g_iconst cx dX10_run_93 ic_1 ?_
        refine g_icmp_ne cx (tgt := 102) dX10_run_94 rfl (fun c5 => ?_) (fun c5 => ?_)
        · have h := zifn c5 h
          refine g_iconst cx dX10_run_102 ic_0 ?_
          obtain ⟨hc6, h⟩ := h
          refine g_iast cx dX10_run_103 rfl hc6 ?_
          refine g_iinc cx (v := (y6 + 1)) dX10_run_104 rfl rfl (Nat.le_of_ble_eq_true rfl) (Gx.L [.ref 155, .float 0, .int y2, .int y3, .int y4, .float 0, .int (y6 + 1)] rfl ?_)
          refine g_goto cx (tgt := 65) dX10_run_107 rfl ?_
          exact ih _ _ _ _ _ _ hP h
        · have h := zifp c5 h
          refine g_iload cx dX10_run_97 rfl ?_
          refine g_goto cx (tgt := 103) dX10_run_99 rfl ?_
          obtain ⟨hc7, h⟩ := h
          refine g_iast cx dX10_run_103 rfl hc7 ?_
          refine g_iinc cx (v := (y6 + 1)) dX10_run_104 rfl rfl (Nat.le_of_ble_eq_true rfl) (Gx.L [.ref 155, .float 0, .int y2, .int y3, .int y4, .float 0, .int (y6 + 1)] rfl ?_)
          refine g_goto cx (tgt := 65) dX10_run_107 rfl ?_
          exact ih _ _ _ _ _ _ hP h
      · have h := zifp c4 h
        refine g_iload_n cx dX10_run_87 rfl ?_
        refine g_goto cx (tgt := 103) dX10_run_88 rfl ?_
        obtain ⟨hc8, h⟩ := h
        refine g_iast cx dX10_run_103 rfl hc8 ?_
        refine g_iinc cx (v := (y6 + 1)) dX10_run_104 rfl rfl (Nat.le_of_ble_eq_true rfl) (Gx.L [.ref 155, .float 0, .int y2, .int y3, .int y4, .float 0, .int (y6 + 1)] rfl ?_)
        refine g_goto cx (tgt := 65) dX10_run_107 rfl ?_
        exact ih _ _ _ _ _ _ hP h
def w_X10_run (x1 : Int32) (x2 : Int32) (x3 : Int32) (x4 : Int32) (x5 : Int32) (I : zI) (P : zP) (K : Int32 → zI → zP → Prop) : Prop := w_X10_in x1 0 2 I P (fun (v1 : Int32) (I1 : zI) (P1 : zP) => (if v1 = 0 then (K (-2) I1 P1) else (w_X10_isMethod x2 I1 P1 (fun (v3 : Int32) (I3 : zI) (P3 : zP) => (if v3 = 0 then (K (-2) I3 P3) else (w_X10_in x5 1 3000 I3 P3 (fun (v5 : Int32) (I5 : zI) (P5 : zP) => (if v5 = 0 then (K (-2) I5 P5) else (w_X10_begin (zu (zu (zu I5 155 50 x1) 155 51 x5) 155 73 ((I5 155 73) + 1)) P5 (fun (I7 : zI) (P7 : zP) => (w_X10_frame x2 I7 P7 (fun (I8 : zI) (P8 : zP) => (∃ n9, l_X10_run_65 K n9 x2 x3 x4 0 I8 P8)))))))))))))
theorem e_X10_run {x1 : Int32} {x2 : Int32} {x3 : Int32} {x4 : Int32} {x5 : Int32} {I : zI} {P : zP} {K : Int32 → zI → zP → Prop} (hP : PSt P) (h : w_X10_run x1 x2 x3 x4 x5 I P K) : Ev yX10_run cX10_run 7 (some .int) 7 170 0 0 [.ref 155, .int x1, .int x2, .int x3, .int x4, .int x5] SHy I P (zKi K) := by
  refine Ev.start [.ref 155, .int x1, .int x2, .int x3, .int x4, .int x5, .float 0] pn_X10 rfl (Nat.le_of_ble_eq_true rfl) rfl (fun κ cx hE => ?_)
  unfold w_X10_run at h
  refine g_iload_n cx dX10_run_0 rfl ?_
  refine g_iconst cx dX10_run_1 ic_0 ?_
  refine g_iconst cx dX10_run_2 ic_2 ?_
  refine g_wSi cx [.int x1, .int 0, .int 2] [] (e_X10_in hP h) mt_X10_in ml_X10_217 dX10_run_3 rfl rfl (Nat.le_of_ble_eq_true rfl) (Nat.le_of_ble_eq_true rfl) (Nat.le_of_ble_eq_true rfl) (fun v1 I1 P1 hP h => ?_)
  refine g_if_eq cx (tgt := 29) dX10_run_6 rfl (fun c2 => ?_) (fun c2 => ?_)
  · have h := zifp c2 h
    refine g_bipush cx dX10_run_29 bp_m2 ?_
    exact g_wi cx hE dX10_run_31 rfl rfl hP h
  · have h := zifn c2 h
    refine g_aload_n cx dX10_run_9 rfl ?_
    refine g_iload_n cx dX10_run_10 rfl ?_
    refine g_wVi cx [.int x2] [] (e_X10_isMethod hP h) mt_X10_isMethod ml_X10_318 rfl rfl rfl dX10_run_11 rfl rfl (Nat.le_of_ble_eq_true rfl) (Nat.le_of_ble_eq_true rfl) (Nat.le_of_ble_eq_true rfl) (fun v3 I3 P3 hP h => ?_)
    refine g_if_eq cx (tgt := 29) dX10_run_14 rfl (fun c4 => ?_) (fun c4 => ?_)
    · have h := zifp c4 h
      refine g_bipush cx dX10_run_29 bp_m2 ?_
      exact g_wi cx hE dX10_run_31 rfl rfl hP h
    · have h := zifn c4 h
      refine g_iload cx dX10_run_17 rfl ?_
      refine g_iconst cx dX10_run_19 ic_1 ?_
      refine g_sipush cx dX10_run_20 sp_3000 ?_
      refine g_wSi cx [.int x5, .int 1, .int 3000] [] (e_X10_in hP h) mt_X10_in ml_X10_217 dX10_run_23 rfl rfl (Nat.le_of_ble_eq_true rfl) (Nat.le_of_ble_eq_true rfl) (Nat.le_of_ble_eq_true rfl) (fun v5 I5 P5 hP h => ?_)
      refine g_if_ne cx (tgt := 32) dX10_run_26 rfl (fun c6 => ?_) (fun c6 => ?_)
      · have h := zifn c6 h
        refine g_aload_n cx dX10_run_32 rfl ?_
        refine g_iload_n cx dX10_run_33 rfl ?_
        refine g_pI cx lk_X10_385 rfl (Nat.le_of_ble_eq_true rfl) rfl dX10_run_34 fi_10_50 rfl rfl ?_
        refine g_aload_n cx dX10_run_37 rfl ?_
        refine g_iload cx dX10_run_38 rfl ?_
        refine g_pI cx lk_X10_388 rfl (Nat.le_of_ble_eq_true rfl) rfl dX10_run_40 fi_10_51 rfl rfl ?_
        refine g_aload_n cx dX10_run_43 rfl ?_
        refine g_dup cx dX10_run_44 rfl ?_
        refine g_getI cx lk_X10_391 rfl (Nat.le_of_ble_eq_true rfl) rfl dX10_run_45 (x := (I5 155 73)) rfl ?_
        refine g_iconst cx dX10_run_48 ic_1 ?_
        refine g_iadd cx dX10_run_49 ?_
        refine g_pI cx lk_X10_391 rfl (Nat.le_of_ble_eq_true rfl) rfl dX10_run_50 fi_10_73 rfl rfl ?_
        refine g_aload_n cx dX10_run_53 rfl ?_
        refine g_wVv cx [] [] (e_X10_begin hP h) mt_X10_begin ml_X10_394 rfl rfl rfl dX10_run_54 rfl rfl (Nat.le_of_ble_eq_true rfl) (Nat.le_of_ble_eq_true rfl) (Nat.le_of_ble_eq_true rfl) (fun I7 P7 hP h => ?_)
        refine g_aload_n cx dX10_run_57 rfl ?_
        refine g_iload_n cx dX10_run_58 rfl ?_
        refine g_wVv cx [.int x2] [] (e_X10_frame hP h) mt_X10_frame ml_X10_397 rfl rfl rfl dX10_run_59 rfl rfl (Nat.le_of_ble_eq_true rfl) (Nat.le_of_ble_eq_true rfl) (Nat.le_of_ble_eq_true rfl) (fun I8 P8 hP h => ?_)
        refine g_iconst cx dX10_run_62 ic_0 ?_
        refine g_istore cx dX10_run_63 (Nat.le_of_ble_eq_true rfl) (Gx.L [.ref 155, .int x1, .int x2, .int x3, .int x4, .int x5, .int 0] rfl ?_)
        refine (Gx.unset 1 (Gx.unset 5 (Gx.L [.ref 155, .float 0, .int x2, .int x3, .int x4, .float 0, .int 0] rfl ?_)))
        obtain ⟨n9, h⟩ := h
        exact gl_X10_run_65 cx hE n9 _ _ _ _ _ _ hP h
      · have h := zifp c6 h
        refine g_bipush cx dX10_run_29 bp_m2 ?_
        exact g_wi cx hE dX10_run_31 rfl rfl hP h
def w_X10_told (x1 : Int32) (x2 : Int32) (I : zI) (P : zP) (K : Int32 → zI → zP → Prop) : Prop := w_X10_in x1 0 2 I P (fun (v1 : Int32) (I1 : zI) (P1 : zP) => (if v1 = 0 then (K (-2) I1 P1) else (w_X10_in x2 0 8 I1 P1 (fun (v3 : Int32) (I3 : zI) (P3 : zP) => (if v3 = 0 then (K (-2) I3 P3) else (vp_in x1 3 ∧ (if (I3 208 ((x1).toNatClampNeg)) = (-1) then (if x2 = 0 then (K (-1) I3 P3) else (if x2 = 6 then (K (-1) I3 P3) else (if x2 = 7 then (K (-1) I3 P3) else (K 0 I3 P3)))) else (if x2 = 0 then (vp_in x1 3 ∧ (K (I3 208 ((x1).toNatClampNeg)) I3 P3)) else (if x2 = 1 then (vp_in x1 3 ∧ (K (I3 209 ((x1).toNatClampNeg)) I3 P3)) else (if x2 = 2 then (vp_in x1 3 ∧ (K (I3 210 ((x1).toNatClampNeg)) I3 P3)) else (if x2 = 3 then (vp_in x1 3 ∧ (K (I3 211 ((x1).toNatClampNeg)) I3 P3)) else (if x2 = 4 then (vp_in x1 3 ∧ (K (I3 212 ((x1).toNatClampNeg)) I3 P3)) else (if x2 = 5 then (vp_in x1 3 ∧ (K (I3 213 ((x1).toNatClampNeg)) I3 P3)) else (if x2 = 6 then (vp_in x1 3 ∧ (K (I3 214 ((x1).toNatClampNeg)) I3 P3)) else (if x2 = 7 then (vp_in x1 3 ∧ (K (I3 215 ((x1).toNatClampNeg)) I3 P3)) else (vp_in x1 3 ∧ (K (I3 216 ((x1).toNatClampNeg)) I3 P3)))))))))))))))))
theorem e_X10_told {x1 : Int32} {x2 : Int32} {I : zI} {P : zP} {K : Int32 → zI → zP → Prop} (hP : PSt P) (h : w_X10_told x1 x2 I P K) : Ev yX10_told cX10_told 3 (some .int) 1 22 0 0 [.ref 155, .int x1, .int x2] SHy I P (zKi K) := by
  refine Ev.start [.ref 155, .int x1, .int x2] pn_X10 rfl (Nat.le_of_ble_eq_true rfl) rfl (fun κ cx hE => ?_)
  unfold w_X10_told at h
  refine g_iload_n cx dX10_told_0 rfl ?_
  refine g_iconst cx dX10_told_1 ic_0 ?_
  refine g_iconst cx dX10_told_2 ic_2 ?_
  refine g_wSi cx [.int x1, .int 0, .int 2] [] (e_X10_in hP h) mt_X10_in ml_X10_217 dX10_told_3 rfl rfl (Nat.le_of_ble_eq_true rfl) (Nat.le_of_ble_eq_true rfl) (Nat.le_of_ble_eq_true rfl) (fun v1 I1 P1 hP h => ?_)
  refine g_if_eq cx (tgt := 19) dX10_told_6 rfl (fun c2 => ?_) (fun c2 => ?_)
  · have h := zifp c2 h
    refine g_bipush cx dX10_told_19 bp_m2 ?_
    exact g_wi cx hE dX10_told_21 rfl rfl hP h
  · have h := zifn c2 h
    refine g_iload_n cx dX10_told_9 rfl ?_
    refine g_iconst cx dX10_told_10 ic_0 ?_
    refine g_bipush cx dX10_told_11 bp_8 ?_
    refine g_wSi cx [.int x2, .int 0, .int 8] [] (e_X10_in hP h) mt_X10_in ml_X10_217 dX10_told_13 rfl rfl (Nat.le_of_ble_eq_true rfl) (Nat.le_of_ble_eq_true rfl) (Nat.le_of_ble_eq_true rfl) (fun v3 I3 P3 hP h => ?_)
    refine g_if_ne cx (tgt := 22) dX10_told_16 rfl (fun c4 => ?_) (fun c4 => ?_)
    · have h := zifn c4 h
      refine g_aload_n cx dX10_told_22 rfl ?_
      refine g_getR cx lk_X10_171 rfl (Nat.le_of_ble_eq_true rfl) rfl dX10_told_23 (v := 208) (pst hP 207 rfl) ?_
      refine g_iload_n cx dX10_told_26 rfl ?_
      obtain ⟨hc5, h⟩ := h
      refine g_iald cx dX10_told_27 rfl hc5 (x := (I3 208 ((x1).toNatClampNeg))) rfl ?_
      refine g_iconst cx dX10_told_28 ic_m1 ?_
      refine g_icmp_ne cx (tgt := 54) dX10_told_29 rfl (fun c6 => ?_) (fun c6 => ?_)
      · have h := zifn c6 h
        refine g_iload_n cx dX10_told_54 rfl ?_
        by_cases c7 : x2 = 0
        · have h := zifp c7 h
          refine g_tabIn cx (tgt := 100) (off := 45) dX10_told_55 (by rw [c7]; decide) (by rw [c7]; decide) (by rw [c7]; rfl) rfl ?_
          refine g_aload_n cx dX10_told_100 rfl ?_
          refine g_getR cx lk_X10_171 rfl (Nat.le_of_ble_eq_true rfl) rfl dX10_told_101 (v := 208) (pst hP 207 rfl) ?_
          refine g_iload_n cx dX10_told_104 rfl ?_
          obtain ⟨hc8, h⟩ := h
          refine g_iald cx dX10_told_105 rfl hc8 (x := (I3 208 ((x1).toNatClampNeg))) rfl ?_
          exact g_wi cx hE dX10_told_106 rfl rfl hP h
        · have h := zifn c7 h
          by_cases c9 : x2 = 1
          · have h := zifp c9 h
            refine g_tabIn cx (tgt := 107) (off := 52) dX10_told_55 (by rw [c9]; decide) (by rw [c9]; decide) (by rw [c9]; rfl) rfl ?_
            refine g_aload_n cx dX10_told_107 rfl ?_
            refine g_getR cx lk_X10_174 rfl (Nat.le_of_ble_eq_true rfl) rfl dX10_told_108 (v := 209) (pst hP 208 rfl) ?_
            refine g_iload_n cx dX10_told_111 rfl ?_
            obtain ⟨hc10, h⟩ := h
            refine g_iald cx dX10_told_112 rfl hc10 (x := (I3 209 ((x1).toNatClampNeg))) rfl ?_
            exact g_wi cx hE dX10_told_113 rfl rfl hP h
          · have h := zifn c9 h
            by_cases c11 : x2 = 2
            · have h := zifp c11 h
              refine g_tabIn cx (tgt := 114) (off := 59) dX10_told_55 (by rw [c11]; decide) (by rw [c11]; decide) (by rw [c11]; rfl) rfl ?_
              refine g_aload_n cx dX10_told_114 rfl ?_
              refine g_getR cx lk_X10_177 rfl (Nat.le_of_ble_eq_true rfl) rfl dX10_told_115 (v := 210) (pst hP 209 rfl) ?_
              refine g_iload_n cx dX10_told_118 rfl ?_
              obtain ⟨hc12, h⟩ := h
              refine g_iald cx dX10_told_119 rfl hc12 (x := (I3 210 ((x1).toNatClampNeg))) rfl ?_
              exact g_wi cx hE dX10_told_120 rfl rfl hP h
            · have h := zifn c11 h
              by_cases c13 : x2 = 3
              · have h := zifp c13 h
                refine g_tabIn cx (tgt := 121) (off := 66) dX10_told_55 (by rw [c13]; decide) (by rw [c13]; decide) (by rw [c13]; rfl) rfl ?_
                refine g_aload_n cx dX10_told_121 rfl ?_
                refine g_getR cx lk_X10_180 rfl (Nat.le_of_ble_eq_true rfl) rfl dX10_told_122 (v := 211) (pst hP 210 rfl) ?_
                refine g_iload_n cx dX10_told_125 rfl ?_
                obtain ⟨hc14, h⟩ := h
                refine g_iald cx dX10_told_126 rfl hc14 (x := (I3 211 ((x1).toNatClampNeg))) rfl ?_
                exact g_wi cx hE dX10_told_127 rfl rfl hP h
              · have h := zifn c13 h
                by_cases c15 : x2 = 4
                · have h := zifp c15 h
                  refine g_tabIn cx (tgt := 128) (off := 73) dX10_told_55 (by rw [c15]; decide) (by rw [c15]; decide) (by rw [c15]; rfl) rfl ?_
                  refine g_aload_n cx dX10_told_128 rfl ?_
                  refine g_getR cx lk_X10_183 rfl (Nat.le_of_ble_eq_true rfl) rfl dX10_told_129 (v := 212) (pst hP 211 rfl) ?_
                  refine g_iload_n cx dX10_told_132 rfl ?_
                  obtain ⟨hc16, h⟩ := h
                  refine g_iald cx dX10_told_133 rfl hc16 (x := (I3 212 ((x1).toNatClampNeg))) rfl ?_
                  exact g_wi cx hE dX10_told_134 rfl rfl hP h
                · have h := zifn c15 h
                  by_cases c17 : x2 = 5
                  · have h := zifp c17 h
                    refine g_tabIn cx (tgt := 135) (off := 80) dX10_told_55 (by rw [c17]; decide) (by rw [c17]; decide) (by rw [c17]; rfl) rfl ?_
                    refine g_aload_n cx dX10_told_135 rfl ?_
                    refine g_getR cx lk_X10_186 rfl (Nat.le_of_ble_eq_true rfl) rfl dX10_told_136 (v := 213) (pst hP 212 rfl) ?_
                    refine g_iload_n cx dX10_told_139 rfl ?_
                    obtain ⟨hc18, h⟩ := h
                    refine g_iald cx dX10_told_140 rfl hc18 (x := (I3 213 ((x1).toNatClampNeg))) rfl ?_
                    exact g_wi cx hE dX10_told_141 rfl rfl hP h
                  · have h := zifn c17 h
                    by_cases c19 : x2 = 6
                    · have h := zifp c19 h
                      refine g_tabIn cx (tgt := 142) (off := 87) dX10_told_55 (by rw [c19]; decide) (by rw [c19]; decide) (by rw [c19]; rfl) rfl ?_
                      refine g_aload_n cx dX10_told_142 rfl ?_
                      refine g_getR cx lk_X10_189 rfl (Nat.le_of_ble_eq_true rfl) rfl dX10_told_143 (v := 214) (pst hP 213 rfl) ?_
                      refine g_iload_n cx dX10_told_146 rfl ?_
                      obtain ⟨hc20, h⟩ := h
                      refine g_iald cx dX10_told_147 rfl hc20 (x := (I3 214 ((x1).toNatClampNeg))) rfl ?_
                      exact g_wi cx hE dX10_told_148 rfl rfl hP h
                    · have h := zifn c19 h
                      by_cases c21 : x2 = 7
                      · have h := zifp c21 h
                        refine g_tabIn cx (tgt := 149) (off := 94) dX10_told_55 (by rw [c21]; decide) (by rw [c21]; decide) (by rw [c21]; rfl) rfl ?_
                        refine g_aload_n cx dX10_told_149 rfl ?_
                        refine g_getR cx lk_X10_192 rfl (Nat.le_of_ble_eq_true rfl) rfl dX10_told_150 (v := 215) (pst hP 214 rfl) ?_
                        refine g_iload_n cx dX10_told_153 rfl ?_
                        obtain ⟨hc22, h⟩ := h
                        refine g_iald cx dX10_told_154 rfl hc22 (x := (I3 215 ((x1).toNatClampNeg))) rfl ?_
                        exact g_wi cx hE dX10_told_155 rfl rfl hP h
                      · have h := zifn c21 h
                        refine g_tabOut cx (tgt := 156) dX10_told_55 (by have q0 : (x2 : Int32).toInt ≠ 0 := i32ne c7; have q1 : (x2 : Int32).toInt ≠ 1 := i32ne c9; have q2 : (x2 : Int32).toInt ≠ 2 := i32ne c11; have q3 : (x2 : Int32).toInt ≠ 3 := i32ne c13; have q4 : (x2 : Int32).toInt ≠ 4 := i32ne c15; have q5 : (x2 : Int32).toInt ≠ 5 := i32ne c17; have q6 : (x2 : Int32).toInt ≠ 6 := i32ne c19; have q7 : (x2 : Int32).toInt ≠ 7 := i32ne c21; omega) rfl ?_
                        refine g_aload_n cx dX10_told_156 rfl ?_
                        refine g_getR cx lk_X10_195 rfl (Nat.le_of_ble_eq_true rfl) rfl dX10_told_157 (v := 216) (pst hP 215 rfl) ?_
                        refine g_iload_n cx dX10_told_160 rfl ?_
                        obtain ⟨hc23, h⟩ := h
                        refine g_iald cx dX10_told_161 rfl hc23 (x := (I3 216 ((x1).toNatClampNeg))) rfl ?_
                        exact g_wi cx hE dX10_told_162 rfl rfl hP h
      · have h := zifp c6 h
        refine g_iload_n cx dX10_told_32 rfl ?_
        refine g_if_eq cx (tgt := 48) dX10_told_33 rfl (fun c24 => ?_) (fun c24 => ?_)
        · have h := zifp c24 h
          refine g_iconst cx dX10_told_48 ic_m1 ?_
          refine g_goto cx (tgt := 53) dX10_told_49 rfl ?_
          exact g_wi cx hE dX10_told_53 rfl rfl hP h
        · have h := zifn c24 h
          refine g_iload_n cx dX10_told_36 rfl ?_
          refine g_bipush cx dX10_told_37 bp_6 ?_
          refine g_icmp_eq cx (tgt := 48) dX10_told_39 rfl (fun c25 => ?_) (fun c25 => ?_)
          · have h := zifp c25 h
            refine g_iconst cx dX10_told_48 ic_m1 ?_
            refine g_goto cx (tgt := 53) dX10_told_49 rfl ?_
            exact g_wi cx hE dX10_told_53 rfl rfl hP h
          · have h := zifn c25 h
            refine g_iload_n cx dX10_told_42 rfl ?_
            refine g_bipush cx dX10_told_43 bp_7 ?_
            refine g_icmp_ne cx (tgt := 52) dX10_told_45 rfl (fun c26 => ?_) (fun c26 => ?_)
            · have h := zifn c26 h
              refine g_iconst cx dX10_told_52 ic_0 ?_
              exact g_wi cx hE dX10_told_53 rfl rfl hP h
            · have h := zifp c26 h
              refine g_iconst cx dX10_told_48 ic_m1 ?_
              refine g_goto cx (tgt := 53) dX10_told_49 rfl ?_
              exact g_wi cx hE dX10_told_53 rfl rfl hP h
    · have h := zifp c4 h
      refine g_bipush cx dX10_told_19 bp_m2 ?_
      exact g_wi cx hE dX10_told_21 rfl rfl hP h
def w_X10_type (x1 : Int32) (x2 : Int32) (x3 : Int32) (I : zI) (P : zP) (K : Int32 → zI → zP → Prop) : Prop := w_X10_isMethod x1 I P (fun (v1 : Int32) (I1 : zI) (P1 : zP) => (if v1 = 0 then (K (-1) I1 P1) else (w_X10_isBegin x1 x2 I1 P1 (fun (v3 : Int32) (I3 : zI) (P3 : zP) => (if v3 = 0 then (K (-1) I3 P3) else (w_X10_in x3 0 22 I3 P3 (fun (v5 : Int32) (I5 : zI) (P5 : zP) => (if v5 = 0 then (K (-1) I5 P5) else (vp_in ((400 * x1) + x2) 2400 ∧ (if 0 ≤ (I5 167 ((((400 * x1) + x2)).toNatClampNeg)) then (if x3 = 0 then (vp_in ((400 * x1) + x2) 2400 ∧ (K (I5 167 ((((400 * x1) + x2)).toNatClampNeg)) I5 P5)) else (if 12 < x3 then (vp_in ((400 * x1) + x2) 2400 ∧ (if (I5 167 ((((400 * x1) + x2)).toNatClampNeg)) ≤ (x3 - 13) then (K (-1) I5 P5) else (vp_in (((10 * ((400 * x1) + x2)) + x3) - 13) 24000 ∧ (K (I5 169 (((((10 * ((400 * x1) + x2)) + x3) - 13)).toNatClampNeg)) I5 P5)))) else (vp_in x1 6 ∧ (if (I5 158 ((x1).toNatClampNeg)) < x3 then (K (-1) I5 P5) else (vp_in (((12 * ((400 * x1) + x2)) + x3) - 1) 28800 ∧ (K (I5 168 (((((12 * ((400 * x1) + x2)) + x3) - 1)).toNatClampNeg)) I5 P5)))))) else (K (-1) I5 P5)))))))))))
theorem e_X10_type {x1 : Int32} {x2 : Int32} {x3 : Int32} {I : zI} {P : zP} {K : Int32 → zI → zP → Prop} (hP : PSt P) (h : w_X10_type x1 x2 x3 I P K) : Ev yX10_type cX10_type 5 (some .int) 2 44 0 0 [.ref 155, .int x1, .int x2, .int x3] SHy I P (zKi K) := by
  refine Ev.start [.ref 155, .int x1, .int x2, .int x3, .float 0] pn_X10 rfl (Nat.le_of_ble_eq_true rfl) rfl (fun κ cx hE => ?_)
  unfold w_X10_type at h
  refine g_aload_n cx dX10_type_0 rfl ?_
  refine g_iload_n cx dX10_type_1 rfl ?_
  refine g_wVi cx [.int x1] [] (e_X10_isMethod hP h) mt_X10_isMethod ml_X10_318 rfl rfl rfl dX10_type_2 rfl rfl (Nat.le_of_ble_eq_true rfl) (Nat.le_of_ble_eq_true rfl) (Nat.le_of_ble_eq_true rfl) (fun v1 I1 P1 hP h => ?_)
  refine g_if_eq cx (tgt := 27) dX10_type_5 rfl (fun c2 => ?_) (fun c2 => ?_)
  · have h := zifp c2 h
    refine g_iconst cx dX10_type_27 ic_m1 ?_
    exact g_wi cx hE dX10_type_28 rfl rfl hP h
  · have h := zifn c2 h
    refine g_aload_n cx dX10_type_8 rfl ?_
    refine g_iload_n cx dX10_type_9 rfl ?_
    refine g_iload_n cx dX10_type_10 rfl ?_
    refine g_wVi cx [.int x1, .int x2] [] (e_X10_isBegin hP h) mt_X10_isBegin ml_X10_274 rfl rfl rfl dX10_type_11 rfl rfl (Nat.le_of_ble_eq_true rfl) (Nat.le_of_ble_eq_true rfl) (Nat.le_of_ble_eq_true rfl) (fun v3 I3 P3 hP h => ?_)
    refine g_if_eq cx (tgt := 27) dX10_type_14 rfl (fun c4 => ?_) (fun c4 => ?_)
    · have h := zifp c4 h
      refine g_iconst cx dX10_type_27 ic_m1 ?_
      exact g_wi cx hE dX10_type_28 rfl rfl hP h
    · have h := zifn c4 h
      refine g_iload_n cx dX10_type_17 rfl ?_
      refine g_iconst cx dX10_type_18 ic_0 ?_
      refine g_bipush cx dX10_type_19 bp_22 ?_
      refine g_wSi cx [.int x3, .int 0, .int 22] [] (e_X10_in hP h) mt_X10_in ml_X10_217 dX10_type_21 rfl rfl (Nat.le_of_ble_eq_true rfl) (Nat.le_of_ble_eq_true rfl) (Nat.le_of_ble_eq_true rfl) (fun v5 I5 P5 hP h => ?_)
      refine g_if_ne cx (tgt := 29) dX10_type_24 rfl (fun c6 => ?_) (fun c6 => ?_)
      · have h := zifn c6 h
        refine g_sipush cx dX10_type_29 sp_400 ?_
        refine g_iload_n cx dX10_type_32 rfl ?_
        refine g_imul cx dX10_type_33 ?_
        refine g_iload_n cx dX10_type_34 rfl ?_
        refine g_iadd cx dX10_type_35 ?_
        refine g_istore cx dX10_type_36 (Nat.le_of_ble_eq_true rfl) (Gx.L [.ref 155, .int x1, .int x2, .int x3, .int ((400 * x1) + x2)] rfl ?_)
        refine g_aload_n cx dX10_type_38 rfl ?_
        refine g_getR cx lk_X10_48 rfl (Nat.le_of_ble_eq_true rfl) rfl dX10_type_39 (v := 167) (pst hP 166 rfl) ?_
        refine g_iload cx dX10_type_42 rfl ?_
        obtain ⟨hc7, h⟩ := h
        refine g_iald cx dX10_type_44 rfl hc7 (x := (I5 167 ((((400 * x1) + x2)).toNatClampNeg))) rfl ?_
        refine g_if_ge cx (tgt := 50) dX10_type_45 rfl (fun c8 => ?_) (fun c8 => ?_)
        · have h := zifp c8 h
          refine g_iload_n cx dX10_type_50 rfl ?_
          refine g_if_ne cx (tgt := 62) dX10_type_51 rfl (fun c9 => ?_) (fun c9 => ?_)
          · have h := zifn c9 h
            refine g_iload_n cx dX10_type_62 rfl ?_
            refine g_bipush cx dX10_type_63 bp_12 ?_
            refine g_icmp_gt cx (tgt := 97) dX10_type_65 rfl (fun c10 => ?_) (fun c10 => ?_)
            · have h := zifp c10 h
              refine g_iload_n cx dX10_type_97 rfl ?_
              refine g_bipush cx dX10_type_98 bp_13 ?_
              refine g_isub cx dX10_type_100 ?_
              refine g_aload_n cx dX10_type_101 rfl ?_
              refine g_getR cx lk_X10_48 rfl (Nat.le_of_ble_eq_true rfl) rfl dX10_type_102 (v := 167) (pst hP 166 rfl) ?_
              refine g_iload cx dX10_type_105 rfl ?_
              obtain ⟨hc11, h⟩ := h
              refine g_iald cx dX10_type_107 rfl hc11 (x := (I5 167 ((((400 * x1) + x2)).toNatClampNeg))) rfl ?_
              refine g_icmp_ge cx (tgt := 129) dX10_type_108 rfl (fun c12 => ?_) (fun c12 => ?_)
              · have h := zifp c12 h
                refine g_iconst cx dX10_type_129 ic_m1 ?_
                exact g_wi cx hE dX10_type_130 rfl rfl hP h
              · have h := zifn c12 h
                refine g_aload_n cx dX10_type_111 rfl ?_
                refine g_getR cx lk_X10_54 rfl (Nat.le_of_ble_eq_true rfl) rfl dX10_type_112 (v := 169) (pst hP 168 rfl) ?_
                refine g_bipush cx dX10_type_115 bp_10 ?_
                refine g_iload cx dX10_type_117 rfl ?_
                refine g_imul cx dX10_type_119 ?_
                refine g_iload_n cx dX10_type_120 rfl ?_
                refine g_iadd cx dX10_type_121 ?_
                refine g_bipush cx dX10_type_122 bp_13 ?_
                refine g_isub cx dX10_type_124 ?_
                obtain ⟨hc13, h⟩ := h
                refine g_iald cx dX10_type_125 rfl hc13 (x := (I5 169 (((((10 * ((400 * x1) + x2)) + x3) - 13)).toNatClampNeg))) rfl ?_
                refine g_goto cx (tgt := 130) dX10_type_126 rfl ?_
                exact g_wi cx hE dX10_type_130 rfl rfl hP h
            · have h := zifn c10 h
              refine g_iload_n cx dX10_type_68 rfl ?_
              refine g_aload_n cx dX10_type_69 rfl ?_
              refine g_getR cx lk_X10_20 rfl (Nat.le_of_ble_eq_true rfl) rfl dX10_type_70 (v := 158) (pst hP 157 rfl) ?_
              refine g_iload_n cx dX10_type_73 rfl ?_
              obtain ⟨hc14, h⟩ := h
              refine g_iald cx dX10_type_74 rfl hc14 (x := (I5 158 ((x1).toNatClampNeg))) rfl ?_
              refine g_icmp_gt cx (tgt := 95) dX10_type_75 rfl (fun c15 => ?_) (fun c15 => ?_)
              · have h := zifp c15 h
                refine g_iconst cx dX10_type_95 ic_m1 ?_
                exact g_wi cx hE dX10_type_96 rfl rfl hP h
              · have h := zifn c15 h
                refine g_aload_n cx dX10_type_78 rfl ?_
                refine g_getR cx lk_X10_51 rfl (Nat.le_of_ble_eq_true rfl) rfl dX10_type_79 (v := 168) (pst hP 167 rfl) ?_
                refine g_bipush cx dX10_type_82 bp_12 ?_
                refine g_iload cx dX10_type_84 rfl ?_
                refine g_imul cx dX10_type_86 ?_
                refine g_iload_n cx dX10_type_87 rfl ?_
                refine g_iadd cx dX10_type_88 ?_
                refine g_iconst cx dX10_type_89 ic_1 ?_
                refine g_isub cx dX10_type_90 ?_
                obtain ⟨hc16, h⟩ := h
                refine g_iald cx dX10_type_91 rfl hc16 (x := (I5 168 (((((12 * ((400 * x1) + x2)) + x3) - 1)).toNatClampNeg))) rfl ?_
                refine g_goto cx (tgt := 96) dX10_type_92 rfl ?_
                exact g_wi cx hE dX10_type_96 rfl rfl hP h
          · have h := zifp c9 h
            refine g_aload_n cx dX10_type_54 rfl ?_
            refine g_getR cx lk_X10_48 rfl (Nat.le_of_ble_eq_true rfl) rfl dX10_type_55 (v := 167) (pst hP 166 rfl) ?_
            refine g_iload cx dX10_type_58 rfl ?_
            obtain ⟨hc17, h⟩ := h
            refine g_iald cx dX10_type_60 rfl hc17 (x := (I5 167 ((((400 * x1) + x2)).toNatClampNeg))) rfl ?_
            exact g_wi cx hE dX10_type_61 rfl rfl hP h
        · have h := zifn c8 h
          refine g_iconst cx dX10_type_48 ic_m1 ?_
          exact g_wi cx hE dX10_type_49 rfl rfl hP h
      · have h := zifp c6 h
        refine g_iconst cx dX10_type_27 ic_m1 ?_
        exact g_wi cx hE dX10_type_28 rfl rfl hP h
def j_X10_unweave_24 (K : Int32 → zI → zP → Prop) (y1 : Int32) (s0 : Int32) (I : zI) (P : zP) : Prop := vp_in y1 6 ∧ (K s0 (zu I 175 ((y1).toNatClampNeg) (-1)) P)
theorem gj_X10_unweave_24 {κ : zX} (cx : Cx yX10_unweave cX10_unweave 3 (some .int) 2 43 κ) {K : Int32 → zI → zP → Prop} (hE : zEnd (zKi K) 0 0 κ) {y1 : Int32} {s0 : Int32} {I : zI} {P : zP} (hP : PSt P) (h : j_X10_unweave_24 K y1 s0 I P) : Gx κ 24 [.ref 155, .int y1, .float 0] [.int s0] SHy I P 0 0 := by
  unfold j_X10_unweave_24 at h
  refine g_istore_n cx dX10_unweave_24 (Nat.le_of_ble_eq_true rfl) (Gx.L [.ref 155, .int y1, .int s0] rfl ?_)
  refine g_aload_n cx dX10_unweave_25 rfl ?_
  refine g_getR cx lk_X10_72 rfl (Nat.le_of_ble_eq_true rfl) rfl dX10_unweave_26 (v := 175) (pst hP 174 rfl) ?_
  refine g_iload_n cx dX10_unweave_29 rfl ?_
  refine g_iconst cx dX10_unweave_30 ic_m1 ?_
  obtain ⟨hc1, h⟩ := h
  refine g_iast cx dX10_unweave_31 rfl hc1 ?_
  refine g_iload_n cx dX10_unweave_32 rfl ?_
  exact g_wi cx hE dX10_unweave_33 rfl rfl hP h
def w_X10_unweave (x1 : Int32) (I : zI) (P : zP) (K : Int32 → zI → zP → Prop) : Prop := w_X10_isMethod x1 I P (fun (v1 : Int32) (I1 : zI) (P1 : zP) => (if v1 = 0 then (K (-2) I1 P1) else (w_X10_isWoven x1 I1 P1 (fun (v3 : Int32) (I3 : zI) (P3 : zP) => (if v3 = 0 then (j_X10_unweave_24 K x1 0 I3 P3) else (j_X10_unweave_24 K x1 1 I3 P3))))))
theorem e_X10_unweave {x1 : Int32} {I : zI} {P : zP} {K : Int32 → zI → zP → Prop} (hP : PSt P) (h : w_X10_unweave x1 I P K) : Ev yX10_unweave cX10_unweave 3 (some .int) 2 43 0 0 [.ref 155, .int x1] SHy I P (zKi K) := by
  refine Ev.start [.ref 155, .int x1, .float 0] pn_X10 rfl (Nat.le_of_ble_eq_true rfl) rfl (fun κ cx hE => ?_)
  unfold w_X10_unweave at h
  refine g_aload_n cx dX10_unweave_0 rfl ?_
  refine g_iload_n cx dX10_unweave_1 rfl ?_
  refine g_wVi cx [.int x1] [] (e_X10_isMethod hP h) mt_X10_isMethod ml_X10_318 rfl rfl rfl dX10_unweave_2 rfl rfl (Nat.le_of_ble_eq_true rfl) (Nat.le_of_ble_eq_true rfl) (Nat.le_of_ble_eq_true rfl) (fun v1 I1 P1 hP h => ?_)
  refine g_if_ne cx (tgt := 11) dX10_unweave_5 rfl (fun c2 => ?_) (fun c2 => ?_)
  · have h := zifn c2 h
    refine g_aload_n cx dX10_unweave_11 rfl ?_
    refine g_iload_n cx dX10_unweave_12 rfl ?_
    refine g_wVi cx [.int x1] [] (e_X10_isWoven hP h) mt_X10_isWoven ml_X10_325 rfl rfl rfl dX10_unweave_13 rfl rfl (Nat.le_of_ble_eq_true rfl) (Nat.le_of_ble_eq_true rfl) (Nat.le_of_ble_eq_true rfl) (fun v3 I3 P3 hP h => ?_)
    refine g_if_eq cx (tgt := 23) dX10_unweave_16 rfl (fun c4 => ?_) (fun c4 => ?_)
    · have h := zifp c4 h
      refine g_iconst cx dX10_unweave_23 ic_0 ?_
      exact gj_X10_unweave_24 cx hE hP h
    · have h := zifn c4 h
      refine g_iconst cx dX10_unweave_19 ic_1 ?_
      refine g_goto cx (tgt := 24) dX10_unweave_20 rfl ?_
      exact gj_X10_unweave_24 cx hE hP h
  · have h := zifp c2 h
    refine g_bipush cx dX10_unweave_8 bp_m2 ?_
    exact g_wi cx hE dX10_unweave_10 rfl rfl hP h
def l_X10_weave_83 (K : Int32 → zI → zP → Prop) : Nat → Int32 → Int32 → zI → zP → Prop
  | 0, _, _, _, _ => False
  | n + 1, y1, y2, I, P => if y2 = 0 then (if (I 155 42) ≤ 1000 then (w_X10_keep y1 I P (fun (I3 : zI) (P3 : zP) => (vp_in y1 6 ∧ (K (I3 177 ((y1).toNatClampNeg)) I3 P3)))) else (K (-3) I P)) else (w_X10_layAll y1 I P (fun (I5 : zI) (P5 : zP) => (w_X10_layAll y1 I5 P5 (fun (I6 : zI) (P6 : zP) => (w_X10_grows y1 I6 P6 (fun (v7 : Int32) (I7 : zI) (P7 : zP) => ((l_X10_weave_83 K n) y1 v7 I7 P7)))))))
theorem gl_X10_weave_83 {κ : zX} (cx : Cx yX10_weave cX10_weave 3 (some .int) 6 147 κ) {K : Int32 → zI → zP → Prop} (hE : zEnd (zKi K) 0 0 κ) : ∀ (n : Nat) (y1 : Int32) (y2 : Int32) (I : zI) (P : zP), PSt P → l_X10_weave_83 K n y1 y2 I P → Gx κ 83 [.ref 155, .int y1, .int y2] [] SHy I P 0 0 := by
  intro n
  induction n with
  | zero =>
    intro y1 y2 I P hP h
    rw [l_X10_weave_83] at h
    exact False.elim h
  | succ n ih =>
    intro y1 y2 I P hP h
    rw [l_X10_weave_83] at h
    refine g_iload_n cx dX10_weave_83 rfl ?_
    refine g_if_eq cx (tgt := 106) dX10_weave_84 rfl (fun c1 => ?_) (fun c1 => ?_)
    · have h := zifp c1 h
      refine g_aload_n cx dX10_weave_106 rfl ?_
      refine g_getI cx lk_X10_341 rfl (Nat.le_of_ble_eq_true rfl) rfl dX10_weave_107 (x := (I 155 42)) rfl ?_
      refine g_sipush cx dX10_weave_110 sp_1000 ?_
      refine g_icmp_le cx (tgt := 119) dX10_weave_113 rfl (fun c2 => ?_) (fun c2 => ?_)
      · have h := zifp c2 h
        refine g_aload_n cx dX10_weave_119 rfl ?_
        refine g_iload_n cx dX10_weave_120 rfl ?_
        refine g_wVv cx [.int y1] [] (e_X10_keep hP h) mt_X10_keep ml_X10_353 rfl rfl rfl dX10_weave_121 rfl rfl (Nat.le_of_ble_eq_true rfl) (Nat.le_of_ble_eq_true rfl) (Nat.le_of_ble_eq_true rfl) (fun I3 P3 hP h => ?_)
        refine g_aload_n cx dX10_weave_124 rfl ?_
        refine g_getR cx lk_X10_78 rfl (Nat.le_of_ble_eq_true rfl) rfl dX10_weave_125 (v := 177) (pst hP 176 rfl) ?_
        refine g_iload_n cx dX10_weave_128 rfl ?_
        obtain ⟨hc4, h⟩ := h
        refine g_iald cx dX10_weave_129 rfl hc4 (x := (I3 177 ((y1).toNatClampNeg))) rfl ?_
        exact g_wi cx hE dX10_weave_130 rfl rfl hP h
      · have h := zifn c2 h
        refine g_bipush cx dX10_weave_116 bp_m3 ?_
        exact g_wi cx hE dX10_weave_118 rfl rfl hP h
    · have h := zifn c1 h
      refine g_aload_n cx dX10_weave_87 rfl ?_
      refine g_iload_n cx dX10_weave_88 rfl ?_
      refine g_wVv cx [.int y1] [] (e_X10_layAll hP h) mt_X10_layAll ml_X10_347 rfl rfl rfl dX10_weave_89 rfl rfl (Nat.le_of_ble_eq_true rfl) (Nat.le_of_ble_eq_true rfl) (Nat.le_of_ble_eq_true rfl) (fun I5 P5 hP h => ?_)
      refine g_aload_n cx dX10_weave_92 rfl ?_
      refine g_iload_n cx dX10_weave_93 rfl ?_
      refine g_wVv cx [.int y1] [] (e_X10_layAll hP h) mt_X10_layAll ml_X10_347 rfl rfl rfl dX10_weave_94 rfl rfl (Nat.le_of_ble_eq_true rfl) (Nat.le_of_ble_eq_true rfl) (Nat.le_of_ble_eq_true rfl) (fun I6 P6 hP h => ?_)
      refine g_aload_n cx dX10_weave_97 rfl ?_
      refine g_iload_n cx dX10_weave_98 rfl ?_
      refine g_wVi cx [.int y1] [] (e_X10_grows hP h) mt_X10_grows ml_X10_350 rfl rfl rfl dX10_weave_99 rfl rfl (Nat.le_of_ble_eq_true rfl) (Nat.le_of_ble_eq_true rfl) (Nat.le_of_ble_eq_true rfl) (fun v7 I7 P7 hP h => ?_)
      refine g_istore_n cx dX10_weave_102 (Nat.le_of_ble_eq_true rfl) (Gx.L [.ref 155, .int y1, .int v7] rfl ?_)
      refine g_goto cx (tgt := 83) dX10_weave_103 rfl ?_
      exact ih _ _ _ _ hP h
def j_X10_weave_73 (X13 : Int32 → Int32 → zI → zP → Prop) (K : Int32 → zI → zP → Prop) (y1 : Int32) (y2 : Int32) (s0 : Int32) (I : zI) (P : zP) : Prop := vp_in s0 1000 ∧ (X13 y1 (y2 + 1) (zu I 194 ((s0).toNatClampNeg) (vp_nar .boolean 0)) P)
theorem gj_X10_weave_73 {κ : zX} (cx : Cx yX10_weave cX10_weave 3 (some .int) 6 147 κ) {K : Int32 → zI → zP → Prop} (hE : zEnd (zKi K) 0 0 κ) {X13 : Int32 → Int32 → zI → zP → Prop} (hX13 : ∀ (y1 : Int32) (y2 : Int32) (I : zI) (P : zP), PSt P → X13 y1 y2 I P → Gx κ 13 [.ref 155, .int y1, .int y2] [] SHy I P 0 0) {y1 : Int32} {y2 : Int32} {s0 : Int32} {I : zI} {P : zP} (hP : PSt P) (h : j_X10_weave_73 X13 K y1 y2 s0 I P) : Gx κ 73 [.ref 155, .int y1, .int y2] [.int s0, .ref 194] SHy I P 0 0 := by
  unfold j_X10_weave_73 at h
  refine g_iconst cx dX10_weave_73 ic_0 ?_
  obtain ⟨hc1, h⟩ := h
  refine g_bast cx dX10_weave_74 rfl hc1 ?_
  refine g_iinc cx (v := (y2 + 1)) dX10_weave_75 rfl rfl (Nat.le_of_ble_eq_true rfl) (Gx.L [.ref 155, .int y1, .int (y2 + 1)] rfl ?_)
  refine g_goto cx (tgt := 13) dX10_weave_78 rfl ?_
  exact hX13 _ _ _ _ hP h
def l_X10_weave_13 (K : Int32 → zI → zP → Prop) : Nat → Int32 → Int32 → zI → zP → Prop
  | 0, _, _, _, _ => False
  | n + 1, y1, y2, I, P => if 1000 ≤ y2 then (∃ n9, l_X10_weave_83 K n9 y1 1 I P) else (if 400 ≤ y2 then (j_X10_weave_73 (l_X10_weave_13 K n) K y1 y2 y2 I P) else (vp_in ((400 * y1) + y2) 2400 ∧ (if (I 166 ((((400 * y1) + y2)).toNatClampNeg)) = 0 then (j_X10_weave_73 (l_X10_weave_13 K n) K y1 y2 y2 I P) else (vp_in ((400 * y1) + y2) 2400 ∧ (w_X10_in (I 160 ((((400 * y1) + y2)).toNatClampNeg)) 84 96 I P (fun (v6 : Int32) (I6 : zI) (P6 : zP) => (if v6 = 0 then (j_X10_weave_73 (l_X10_weave_13 K n) K y1 y2 y2 I6 P6) else (vp_in y2 1000 ∧ ((l_X10_weave_13 K n) y1 (y2 + 1) (zu I6 194 ((y2).toNatClampNeg) (vp_nar .boolean 1)) P6)))))))))
theorem gl_X10_weave_13 {κ : zX} (cx : Cx yX10_weave cX10_weave 3 (some .int) 6 147 κ) {K : Int32 → zI → zP → Prop} (hE : zEnd (zKi K) 0 0 κ) : ∀ (n : Nat) (y1 : Int32) (y2 : Int32) (I : zI) (P : zP), PSt P → l_X10_weave_13 K n y1 y2 I P → Gx κ 13 [.ref 155, .int y1, .int y2] [] SHy I P 0 0 := by
  intro n
  induction n with
  | zero =>
    intro y1 y2 I P hP h
    rw [l_X10_weave_13] at h
    exact False.elim h
  | succ n ih =>
    intro y1 y2 I P hP h
    rw [l_X10_weave_13] at h
    refine g_iload_n cx dX10_weave_13 rfl ?_
    refine g_sipush cx dX10_weave_14 sp_1000 ?_
    refine g_icmp_ge cx (tgt := 81) dX10_weave_17 rfl (fun c1 => ?_) (fun c1 => ?_)
    · have h := zifp c1 h
      refine g_iconst cx dX10_weave_81 ic_1 ?_
      refine g_istore_n cx dX10_weave_82 (Nat.le_of_ble_eq_true rfl) (Gx.L [.ref 155, .int y1, .int 1] rfl ?_)
      obtain ⟨n9, h⟩ := h
      exact gl_X10_weave_83 cx hE n9 _ _ _ _ hP h
    · have h := zifn c1 h
      refine g_aload_n cx dX10_weave_20 rfl ?_
      refine g_getR cx lk_X10_129 rfl (Nat.le_of_ble_eq_true rfl) rfl dX10_weave_21 (v := 194) (pst hP 193 rfl) ?_
      refine g_iload_n cx dX10_weave_24 rfl ?_
      refine g_iload_n cx dX10_weave_25 rfl ?_
      refine g_sipush cx dX10_weave_26 sp_400 ?_
      refine g_icmp_ge cx (tgt := 73) dX10_weave_29 rfl (fun c2 => ?_) (fun c2 => ?_)
      · have h := zifp c2 h
        exact gj_X10_weave_73 cx hE ih hP h
      · have h := zifn c2 h
        refine g_aload_n cx dX10_weave_32 rfl ?_
        refine g_getR cx lk_X10_44 rfl (Nat.le_of_ble_eq_true rfl) rfl dX10_weave_33 (v := 166) (pst hP 165 rfl) ?_
        refine g_sipush cx dX10_weave_36 sp_400 ?_
        refine g_iload_n cx dX10_weave_39 rfl ?_
        refine g_imul cx dX10_weave_40 ?_
        refine g_iload_n cx dX10_weave_41 rfl ?_
        refine g_iadd cx dX10_weave_42 ?_
        obtain ⟨hc3, h⟩ := h
        refine g_bald cx dX10_weave_43 rfl hc3 (x := (I 166 ((((400 * y1) + y2)).toNatClampNeg))) rfl ?_
        refine g_if_eq cx (tgt := 73) dX10_weave_44 rfl (fun c4 => ?_) (fun c4 => ?_)
        · have h := zifp c4 h
          exact gj_X10_weave_73 cx hE ih hP h
        · have h := zifn c4 h
          refine g_aload_n cx dX10_weave_47 rfl ?_
          refine g_getR cx lk_X10_26 rfl (Nat.le_of_ble_eq_true rfl) rfl dX10_weave_48 (v := 160) (pst hP 159 rfl) ?_
          refine g_sipush cx dX10_weave_51 sp_400 ?_
          refine g_iload_n cx dX10_weave_54 rfl ?_
          refine g_imul cx dX10_weave_55 ?_
          refine g_iload_n cx dX10_weave_56 rfl ?_
          refine g_iadd cx dX10_weave_57 ?_
          obtain ⟨hc5, h⟩ := h
          refine g_iald cx dX10_weave_58 rfl hc5 (x := (I 160 ((((400 * y1) + y2)).toNatClampNeg))) rfl ?_
          refine g_bipush cx dX10_weave_59 bp_84 ?_
          refine g_bipush cx dX10_weave_61 bp_96 ?_
          refine g_wSi cx [.int (I 160 ((((400 * y1) + y2)).toNatClampNeg)), .int 84, .int 96] [.int y2, .ref 194] (e_X10_in hP h) mt_X10_in ml_X10_217 dX10_weave_63 rfl rfl (Nat.le_of_ble_eq_true rfl) (Nat.le_of_ble_eq_true rfl) (Nat.le_of_ble_eq_true rfl) (fun v6 I6 P6 hP h => ?_)
          refine g_if_eq cx (tgt := 73) dX10_weave_66 rfl (fun c7 => ?_) (fun c7 => ?_)
          · have h := zifp c7 h
            exact gj_X10_weave_73 cx hE ih hP h
          · have h := zifn c7 h
            refine g_iconst cx dX10_weave_69 ic_1 ?_
            refine g_goto cx (tgt := 74) dX10_weave_70 rfl ?_
            obtain ⟨hc8, h⟩ := h
            refine g_bast cx dX10_weave_74 rfl hc8 ?_
            refine g_iinc cx (v := (y2 + 1)) dX10_weave_75 rfl rfl (Nat.le_of_ble_eq_true rfl) (Gx.L [.ref 155, .int y1, .int (y2 + 1)] rfl ?_)
            refine g_goto cx (tgt := 13) dX10_weave_78 rfl ?_
            exact ih _ _ _ _ hP h
def w_X10_weave (x1 : Int32) (I : zI) (P : zP) (K : Int32 → zI → zP → Prop) : Prop := w_X10_isMethod x1 I P (fun (v1 : Int32) (I1 : zI) (P1 : zP) => (if v1 = 0 then (K (-2) I1 P1) else (∃ n9, l_X10_weave_13 K n9 x1 0 I1 P1)))
theorem e_X10_weave {x1 : Int32} {I : zI} {P : zP} {K : Int32 → zI → zP → Prop} (hP : PSt P) (h : w_X10_weave x1 I P K) : Ev yX10_weave cX10_weave 3 (some .int) 6 147 0 0 [.ref 155, .int x1] SHy I P (zKi K) := by
  refine Ev.start [.ref 155, .int x1, .float 0] pn_X10 rfl (Nat.le_of_ble_eq_true rfl) rfl (fun κ cx hE => ?_)
  unfold w_X10_weave at h
  refine g_aload_n cx dX10_weave_0 rfl ?_
  refine g_iload_n cx dX10_weave_1 rfl ?_
  refine g_wVi cx [.int x1] [] (e_X10_isMethod hP h) mt_X10_isMethod ml_X10_318 rfl rfl rfl dX10_weave_2 rfl rfl (Nat.le_of_ble_eq_true rfl) (Nat.le_of_ble_eq_true rfl) (Nat.le_of_ble_eq_true rfl) (fun v1 I1 P1 hP h => ?_)
  refine g_if_ne cx (tgt := 11) dX10_weave_5 rfl (fun c2 => ?_) (fun c2 => ?_)
  · have h := zifn c2 h
    refine g_iconst cx dX10_weave_11 ic_0 ?_
    refine g_istore_n cx dX10_weave_12 (Nat.le_of_ble_eq_true rfl) (Gx.L [.ref 155, .int x1, .int 0] rfl ?_)
    obtain ⟨n9, h⟩ := h
    exact gl_X10_weave_13 cx hE n9 _ _ _ _ hP h
  · have h := zifp c2 h
    refine g_bipush cx dX10_weave_8 bp_m2 ?_
    exact g_wi cx hE dX10_weave_10 rfl rfl hP h
