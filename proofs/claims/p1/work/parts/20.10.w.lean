def j_X2_choosesJump_46 (K : Int32 → zI → zP → Prop) (y3 : Int32) (y4 : Int32) (s0 : Int32) (I : zI) (P : zP) : Prop := if s0 = 0 then (if y4 = y3 then (K 1 I P) else (K 0 I P)) else (if s0 = 1 then (if y4 = y3 then (K 0 I P) else (K 1 I P)) else (if s0 = 2 then (if y3 ≤ y4 then (K 0 I P) else (K 1 I P)) else (if s0 = 3 then (if y4 < y3 then (K 0 I P) else (K 1 I P)) else (if s0 = 4 then (if y4 ≤ y3 then (K 0 I P) else (K 1 I P)) else (if y3 < y4 then (K 0 I P) else (K 1 I P))))))
theorem gj_X2_choosesJump_46 {κ : zX} (cx : Cx yX2_choosesJump cX2_choosesJump 5 (some .boolean) 1 20 κ) {K : Int32 → zI → zP → Prop} (hE : zEnd (zKi K) 0 0 κ) {y3 : Int32} {y4 : Int32} {s0 : Int32} {I : zI} {P : zP} (hP : PSt P) (h : j_X2_choosesJump_46 K y3 y4 s0 I P) : Gx κ 46 [.float 0, .float 0, .float 0, .int y3, .int y4] [.int s0] SHy I P 0 0 := by
  unfold j_X2_choosesJump_46 at h
  by_cases c1 : s0 = 0
  · have h := zifp c1 h
    refine g_tabIn cx (tgt := 80) (off := 34) dX2_choosesJump_46 (by rw [c1]; decide) (by rw [c1]; decide) (by rw [c1]; rfl) rfl ?_
    refine g_iload cx dX2_choosesJump_80 rfl ?_
    refine g_iload_n cx dX2_choosesJump_82 rfl ?_
    refine g_icmp_ne cx (tgt := 90) dX2_choosesJump_83 rfl (fun c2 => ?_) (fun c2 => ?_)
    · have h := zifn c2 h
      refine g_iconst cx dX2_choosesJump_90 ic_0 ?_
      exact g_wi cx hE dX2_choosesJump_91 rfl rfl hP h
    · have h := zifp c2 h
      refine g_iconst cx dX2_choosesJump_86 ic_1 ?_
      refine g_goto cx (tgt := 91) dX2_choosesJump_87 rfl ?_
      exact g_wi cx hE dX2_choosesJump_91 rfl rfl hP h
  · have h := zifn c1 h
    by_cases c3 : s0 = 1
    · have h := zifp c3 h
      refine g_tabIn cx (tgt := 92) (off := 46) dX2_choosesJump_46 (by rw [c3]; decide) (by rw [c3]; decide) (by rw [c3]; rfl) rfl ?_
      refine g_iload cx dX2_choosesJump_92 rfl ?_
      refine g_iload_n cx dX2_choosesJump_94 rfl ?_
      refine g_icmp_eq cx (tgt := 102) dX2_choosesJump_95 rfl (fun c4 => ?_) (fun c4 => ?_)
      · have h := zifp c4 h
        refine g_iconst cx dX2_choosesJump_102 ic_0 ?_
        exact g_wi cx hE dX2_choosesJump_103 rfl rfl hP h
      · have h := zifn c4 h
        refine g_iconst cx dX2_choosesJump_98 ic_1 ?_
        refine g_goto cx (tgt := 103) dX2_choosesJump_99 rfl ?_
        exact g_wi cx hE dX2_choosesJump_103 rfl rfl hP h
    · have h := zifn c3 h
      by_cases c5 : s0 = 2
      · have h := zifp c5 h
        refine g_tabIn cx (tgt := 104) (off := 58) dX2_choosesJump_46 (by rw [c5]; decide) (by rw [c5]; decide) (by rw [c5]; rfl) rfl ?_
        refine g_iload cx dX2_choosesJump_104 rfl ?_
        refine g_iload_n cx dX2_choosesJump_106 rfl ?_
        refine g_icmp_ge cx (tgt := 114) dX2_choosesJump_107 rfl (fun c6 => ?_) (fun c6 => ?_)
        · have h := zifp c6 h
          refine g_iconst cx dX2_choosesJump_114 ic_0 ?_
          exact g_wi cx hE dX2_choosesJump_115 rfl rfl hP h
        · have h := zifn c6 h
          refine g_iconst cx dX2_choosesJump_110 ic_1 ?_
          refine g_goto cx (tgt := 115) dX2_choosesJump_111 rfl ?_
          exact g_wi cx hE dX2_choosesJump_115 rfl rfl hP h
      · have h := zifn c5 h
        by_cases c7 : s0 = 3
        · have h := zifp c7 h
          refine g_tabIn cx (tgt := 116) (off := 70) dX2_choosesJump_46 (by rw [c7]; decide) (by rw [c7]; decide) (by rw [c7]; rfl) rfl ?_
          refine g_iload cx dX2_choosesJump_116 rfl ?_
          refine g_iload_n cx dX2_choosesJump_118 rfl ?_
          refine g_icmp_lt cx (tgt := 126) dX2_choosesJump_119 rfl (fun c8 => ?_) (fun c8 => ?_)
          · have h := zifp c8 h
            refine g_iconst cx dX2_choosesJump_126 ic_0 ?_
            exact g_wi cx hE dX2_choosesJump_127 rfl rfl hP h
          · have h := zifn c8 h
            refine g_iconst cx dX2_choosesJump_122 ic_1 ?_
            refine g_goto cx (tgt := 127) dX2_choosesJump_123 rfl ?_
            exact g_wi cx hE dX2_choosesJump_127 rfl rfl hP h
        · have h := zifn c7 h
          by_cases c9 : s0 = 4
          · have h := zifp c9 h
            refine g_tabIn cx (tgt := 128) (off := 82) dX2_choosesJump_46 (by rw [c9]; decide) (by rw [c9]; decide) (by rw [c9]; rfl) rfl ?_
            refine g_iload cx dX2_choosesJump_128 rfl ?_
            refine g_iload_n cx dX2_choosesJump_130 rfl ?_
            refine g_icmp_le cx (tgt := 138) dX2_choosesJump_131 rfl (fun c10 => ?_) (fun c10 => ?_)
            · have h := zifp c10 h
              refine g_iconst cx dX2_choosesJump_138 ic_0 ?_
              exact g_wi cx hE dX2_choosesJump_139 rfl rfl hP h
            · have h := zifn c10 h
              refine g_iconst cx dX2_choosesJump_134 ic_1 ?_
              refine g_goto cx (tgt := 139) dX2_choosesJump_135 rfl ?_
              exact g_wi cx hE dX2_choosesJump_139 rfl rfl hP h
          · have h := zifn c9 h
            refine g_tabOut cx (tgt := 140) dX2_choosesJump_46 (by have q0 : (s0 : Int32).toInt ≠ 0 := i32ne c1; have q1 : (s0 : Int32).toInt ≠ 1 := i32ne c3; have q2 : (s0 : Int32).toInt ≠ 2 := i32ne c5; have q3 : (s0 : Int32).toInt ≠ 3 := i32ne c7; have q4 : (s0 : Int32).toInt ≠ 4 := i32ne c9; omega) rfl ?_
            refine g_iload cx dX2_choosesJump_140 rfl ?_
            refine g_iload_n cx dX2_choosesJump_142 rfl ?_
            refine g_icmp_gt cx (tgt := 150) dX2_choosesJump_143 rfl (fun c11 => ?_) (fun c11 => ?_)
            · have h := zifp c11 h
              refine g_iconst cx dX2_choosesJump_150 ic_0 ?_
              exact g_wi cx hE dX2_choosesJump_151 rfl rfl hP h
            · have h := zifn c11 h
              refine g_iconst cx dX2_choosesJump_146 ic_1 ?_
              refine g_goto cx (tgt := 151) dX2_choosesJump_147 rfl ?_
              exact g_wi cx hE dX2_choosesJump_151 rfl rfl hP h
def j_X2_choosesJump_24 (K : Int32 → zI → zP → Prop) (y0 : Nat) (y1 : Int32) (y2 : Int32) (s0 : Int32) (I : zI) (P : zP) : Prop := SHy[y0]? = some (0, 6) ∧ (w_X0_pop y0 I P (fun (v2 : Int32) (I2 : zI) (P2 : zP) => (if y2 = 0 then (j_X2_choosesJump_46 K s0 v2 (y1 - 21) I2 P2) else (j_X2_choosesJump_46 K s0 v2 (y1 - 27) I2 P2))))
theorem gj_X2_choosesJump_24 {κ : zX} (cx : Cx yX2_choosesJump cX2_choosesJump 5 (some .boolean) 1 20 κ) {K : Int32 → zI → zP → Prop} (hE : zEnd (zKi K) 0 0 κ) {y0 : Nat} {y1 : Int32} {y2 : Int32} {s0 : Int32} {I : zI} {P : zP} (hP : PSt P) (h : j_X2_choosesJump_24 K y0 y1 y2 s0 I P) : Gx κ 24 [.ref y0, .int y1, .int y2, .float 0, .float 0] [.int s0] SHy I P 0 0 := by
  unfold j_X2_choosesJump_24 at h
  refine g_istore_n cx dX2_choosesJump_24 (Nat.le_of_ble_eq_true rfl) (Gx.L [.ref y0, .int y1, .int y2, .int s0, .float 0] rfl ?_)
  refine g_aload_n cx dX2_choosesJump_25 rfl ?_
  obtain ⟨hs1, h⟩ := h
  refine g_wVi cx [] [] (e_X0_pop hP h) mt_X0_pop ml_X2_215 hs1 rfl rfl dX2_choosesJump_26 rfl rfl (Nat.le_of_ble_eq_true rfl) (Nat.le_of_ble_eq_true rfl) (Nat.le_of_ble_eq_true rfl) (fun v2 I2 P2 hP h => ?_)
  refine g_istore cx dX2_choosesJump_29 (Nat.le_of_ble_eq_true rfl) (Gx.L [.ref y0, .int y1, .int y2, .int s0, .int v2] rfl ?_)
  refine g_iload_n cx dX2_choosesJump_31 rfl ?_
  refine g_if_eq cx (tgt := 42) dX2_choosesJump_32 rfl (fun c3 => ?_) (fun c3 => ?_)
  · have h := zifp c3 h
    refine g_iload_n cx dX2_choosesJump_42 rfl ?_
    refine g_bipush cx dX2_choosesJump_43 bp_21 ?_
    refine g_isub cx dX2_choosesJump_45 ?_
    refine (Gx.unset 0 (Gx.unset 1 (Gx.unset 2 (Gx.L [.float 0, .float 0, .float 0, .int s0, .int v2] rfl ?_))))
    exact gj_X2_choosesJump_46 cx hE hP h
  · have h := zifn c3 h
    refine g_iload_n cx dX2_choosesJump_35 rfl ?_
    refine g_bipush cx dX2_choosesJump_36 bp_27 ?_
    refine g_isub cx dX2_choosesJump_38 ?_
    refine g_goto cx (tgt := 46) dX2_choosesJump_39 rfl ?_
    refine (Gx.unset 0 (Gx.unset 1 (Gx.unset 2 (Gx.L [.float 0, .float 0, .float 0, .int s0, .int v2] rfl ?_))))
    exact gj_X2_choosesJump_46 cx hE hP h
def j_X2_choosesJump_11 (K : Int32 → zI → zP → Prop) (y0 : Nat) (y1 : Int32) (s0 : Int32) (I : zI) (P : zP) : Prop := if s0 = 0 then (j_X2_choosesJump_24 K y0 y1 s0 0 I P) else (SHy[y0]? = some (0, 6) ∧ (w_X0_pop y0 I P (fun (v3 : Int32) (I3 : zI) (P3 : zP) => (j_X2_choosesJump_24 K y0 y1 s0 v3 I3 P3))))
theorem gj_X2_choosesJump_11 {κ : zX} (cx : Cx yX2_choosesJump cX2_choosesJump 5 (some .boolean) 1 20 κ) {K : Int32 → zI → zP → Prop} (hE : zEnd (zKi K) 0 0 κ) {y0 : Nat} {y1 : Int32} {s0 : Int32} {I : zI} {P : zP} (hP : PSt P) (h : j_X2_choosesJump_11 K y0 y1 s0 I P) : Gx κ 11 [.ref y0, .int y1, .float 0, .float 0, .float 0] [.int s0] SHy I P 0 0 := by
  unfold j_X2_choosesJump_11 at h
  refine g_istore_n cx dX2_choosesJump_11 (Nat.le_of_ble_eq_true rfl) (Gx.L [.ref y0, .int y1, .int s0, .float 0, .float 0] rfl ?_)
  refine g_iload_n cx dX2_choosesJump_12 rfl ?_
  refine g_if_eq cx (tgt := 23) dX2_choosesJump_13 rfl (fun c1 => ?_) (fun c1 => ?_)
  · have h := zifp c1 h
    refine g_iconst cx dX2_choosesJump_23 ic_0 ?_
    exact gj_X2_choosesJump_24 cx hE hP h
  · have h := zifn c1 h
    refine g_aload_n cx dX2_choosesJump_16 rfl ?_
    obtain ⟨hs2, h⟩ := h
    refine g_wVi cx [] [] (e_X0_pop hP h) mt_X0_pop ml_X2_215 hs2 rfl rfl dX2_choosesJump_17 rfl rfl (Nat.le_of_ble_eq_true rfl) (Nat.le_of_ble_eq_true rfl) (Nat.le_of_ble_eq_true rfl) (fun v3 I3 P3 hP h => ?_)
    refine g_goto cx (tgt := 24) dX2_choosesJump_20 rfl ?_
    exact gj_X2_choosesJump_24 cx hE hP h
def w_X2_choosesJump (x1 : Nat) (x2 : Int32) (I : zI) (P : zP) (K : Int32 → zI → zP → Prop) : Prop := if x2 < 27 then (j_X2_choosesJump_11 K x1 x2 0 I P) else (j_X2_choosesJump_11 K x1 x2 1 I P)
theorem e_X2_choosesJump {x1 : Nat} {x2 : Int32} {I : zI} {P : zP} {K : Int32 → zI → zP → Prop} (hP : PSt P) (h : w_X2_choosesJump x1 x2 I P K) : Ev yX2_choosesJump cX2_choosesJump 5 (some .boolean) 1 20 0 0 [.ref x1, .int x2] SHy I P (zKi K) := by
  refine Ev.start [.ref x1, .int x2, .float 0, .float 0, .float 0] pn_X2 rfl (Nat.le_of_ble_eq_true rfl) rfl (fun κ cx hE => ?_)
  unfold w_X2_choosesJump at h
  refine g_iload_n cx dX2_choosesJump_0 rfl ?_
  refine g_bipush cx dX2_choosesJump_1 bp_27 ?_
  refine g_icmp_lt cx (tgt := 10) dX2_choosesJump_3 rfl (fun c1 => ?_) (fun c1 => ?_)
  · have h := zifp c1 h
    refine g_iconst cx dX2_choosesJump_10 ic_0 ?_
    exact gj_X2_choosesJump_11 cx hE hP h
  · have h := zifn c1 h
    refine g_iconst cx dX2_choosesJump_6 ic_1 ?_
    refine g_goto cx (tgt := 11) dX2_choosesJump_7 rfl ?_
    exact gj_X2_choosesJump_11 cx hE hP h
def w_X2_isWatched (x1 : Nat) (I : zI) (P : zP) (K : Int32 → zI → zP → Prop) : Prop := if (I 114 7) = 2 then (SHy[x1]? = some (0, 6) ∧ (∃ v3, P x1 3 = some v3 ∧ (SHy[v3]? = some (3, 11) ∧ (∃ v6, P v3 6 = some v6 ∧ (SHy[v6]? = some (8, 11) ∧ (if (I v6 5) = 0 then (K 0 I P) else (K 1 I P))))))) else (K 0 I P)
theorem e_X2_isWatched {x1 : Nat} {I : zI} {P : zP} {K : Int32 → zI → zP → Prop} (hP : PSt P) (h : w_X2_isWatched x1 I P K) : Ev yX2_isWatched cX2_isWatched 2 (some .boolean) 0 0 0 0 [.ref 114, .ref x1] SHy I P (zKi K) := by
  refine Ev.start [.ref 114, .ref x1] pn_X2 rfl (Nat.le_of_ble_eq_true rfl) rfl (fun κ cx hE => ?_)
  unfold w_X2_isWatched at h
  refine g_aload_n cx dX2_isWatched_0 rfl ?_
  refine g_getI cx lk_X2_27 rfl (Nat.le_of_ble_eq_true rfl) rfl dX2_isWatched_1 (x := (I 114 7)) rfl ?_
  refine g_iconst cx dX2_isWatched_4 ic_2 ?_
  refine g_icmp_ne cx (tgt := 25) dX2_isWatched_5 rfl (fun c1 => ?_) (fun c1 => ?_)
  · have h := zifn c1 h
    refine g_iconst cx dX2_isWatched_25 ic_0 ?_
    exact g_wi cx hE dX2_isWatched_26 rfl rfl hP h
  · have h := zifp c1 h
    refine g_aload_n cx dX2_isWatched_8 rfl ?_
    obtain ⟨hs2, h⟩ := h
    obtain ⟨v3, hv4, h⟩ := h
    refine g_getR cx lk_X2_289 hs2 (Nat.le_of_ble_eq_true rfl) rfl dX2_isWatched_9 hv4 ?_
    obtain ⟨hs5, h⟩ := h
    obtain ⟨v6, hv7, h⟩ := h
    refine g_getR cx lk_X2_130 hs5 (Nat.le_of_ble_eq_true rfl) rfl dX2_isWatched_12 hv7 ?_
    obtain ⟨hs8, h⟩ := h
    refine g_getI cx lk_X2_134 hs8 (Nat.le_of_ble_eq_true rfl) rfl dX2_isWatched_15 (x := (I v6 5)) rfl ?_
    refine g_if_eq cx (tgt := 25) dX2_isWatched_18 rfl (fun c9 => ?_) (fun c9 => ?_)
    · have h := zifp c9 h
      refine g_iconst cx dX2_isWatched_25 ic_0 ?_
      exact g_wi cx hE dX2_isWatched_26 rfl rfl hP h
    · have h := zifn c9 h
      refine g_iconst cx dX2_isWatched_21 ic_1 ?_
      refine g_goto cx (tgt := 26) dX2_isWatched_22 rfl ?_
      exact g_wi cx hE dX2_isWatched_26 rfl rfl hP h
def j_X6_addRecord_37 (K : zI → zP → Prop) (y0 : Nat) (I : zI) (P : zP) : Prop := SHy[y0]? = some (6, 13) ∧ (K (zu I y0 12 ((I y0 12) + 1)) P)
theorem gj_X6_addRecord_37 {κ : zX} (cx : Cx yX6_addRecord cX6_addRecord 3 none 0 0 κ) {K : zI → zP → Prop} (hE : zEnd (zKv K) 0 0 κ) {y0 : Nat} {I : zI} {P : zP} (hP : PSt P) (h : j_X6_addRecord_37 K y0 I P) : Gx κ 37 [.ref y0, .float 0, .float 0] [] SHy I P 0 0 := by
  unfold j_X6_addRecord_37 at h
  refine g_aload_n cx dX6_addRecord_37 rfl ?_
  refine g_dup cx dX6_addRecord_38 rfl ?_
  obtain ⟨hs1, h⟩ := h
  refine g_getI cx lk_X6_49 hs1 (Nat.le_of_ble_eq_true rfl) rfl dX6_addRecord_39 (x := (I y0 12)) rfl ?_
  refine g_iconst cx dX6_addRecord_42 ic_1 ?_
  refine g_iadd cx dX6_addRecord_43 ?_
  refine g_pI cx lk_X6_49 hs1 (Nat.le_of_ble_eq_true rfl) rfl dX6_addRecord_44 fi_6_12 rfl rfl ?_
  exact g_wv cx hE dX6_addRecord_47 rfl hP h
def w_X6_addRecord (o : Nat) (x1 : Int32) (x2 : Int32) (I : zI) (P : zP) (K : zI → zP → Prop) : Prop := SHy[o]? = some (6, 13) ∧ (if (I o 12) < 0 then (j_X6_addRecord_37 K o I P) else (if 400 ≤ (I o 12) then (j_X6_addRecord_37 K o I P) else (∃ v4, P o 2 = some v4 ∧ (SHy[v4]? = some (11, (zlen v4)) ∧ (vp_in (I o 12) (zlen v4) ∧ (∃ v8, P o 3 = some v8 ∧ (SHy[v8]? = some (11, (zlen v8)) ∧ (vp_in ((zu I v4 (((I o 12)).toNatClampNeg) x1) o 12) (zlen v8) ∧ (j_X6_addRecord_37 K o (zu (zu I v4 (((I o 12)).toNatClampNeg) x1) v8 ((((zu I v4 (((I o 12)).toNatClampNeg) x1) o 12)).toNatClampNeg) x2) P)))))))))
theorem e_X6_addRecord {o : Nat} {x1 : Int32} {x2 : Int32} {I : zI} {P : zP} {K : zI → zP → Prop} (hP : PSt P) (h : w_X6_addRecord o x1 x2 I P K) : Ev yX6_addRecord cX6_addRecord 3 none 0 0 0 0 [.ref o, .int x1, .int x2] SHy I P (zKv K) := by
  refine Ev.start [.ref o, .int x1, .int x2] pn_X6 rfl (Nat.le_of_ble_eq_true rfl) rfl (fun κ cx hE => ?_)
  unfold w_X6_addRecord at h
  refine g_aload_n cx dX6_addRecord_0 rfl ?_
  obtain ⟨hs1, h⟩ := h
  refine g_getI cx lk_X6_49 hs1 (Nat.le_of_ble_eq_true rfl) rfl dX6_addRecord_1 (x := (I o 12)) rfl ?_
  refine g_if_lt cx (tgt := 37) dX6_addRecord_4 rfl (fun c2 => ?_) (fun c2 => ?_)
  · have h := zifp c2 h
    refine (Gx.unset 1 (Gx.unset 2 (Gx.L [.ref o, .float 0, .float 0] rfl ?_)))
    exact gj_X6_addRecord_37 cx hE hP h
  · have h := zifn c2 h
    refine g_aload_n cx dX6_addRecord_7 rfl ?_
    refine g_getI cx lk_X6_49 hs1 (Nat.le_of_ble_eq_true rfl) rfl dX6_addRecord_8 (x := (I o 12)) rfl ?_
    refine g_sipush cx dX6_addRecord_11 sp_400 ?_
    refine g_icmp_ge cx (tgt := 37) dX6_addRecord_14 rfl (fun c3 => ?_) (fun c3 => ?_)
    · have h := zifp c3 h
      refine (Gx.unset 1 (Gx.unset 2 (Gx.L [.ref o, .float 0, .float 0] rfl ?_)))
      exact gj_X6_addRecord_37 cx hE hP h
    · have h := zifn c3 h
      refine g_aload_n cx dX6_addRecord_17 rfl ?_
      obtain ⟨v4, hv5, h⟩ := h
      refine g_getR cx lk_X6_18 hs1 (Nat.le_of_ble_eq_true rfl) rfl dX6_addRecord_18 hv5 ?_
      refine g_aload_n cx dX6_addRecord_21 rfl ?_
      refine g_getI cx lk_X6_49 hs1 (Nat.le_of_ble_eq_true rfl) rfl dX6_addRecord_22 (x := (I o 12)) rfl ?_
      refine g_iload_n cx dX6_addRecord_25 rfl ?_
      obtain ⟨hs6, h⟩ := h
      obtain ⟨hc7, h⟩ := h
      refine g_iast cx dX6_addRecord_26 hs6 hc7 ?_
      refine g_aload_n cx dX6_addRecord_27 rfl ?_
      obtain ⟨v8, hv9, h⟩ := h
      refine g_getR cx lk_X6_21 hs1 (Nat.le_of_ble_eq_true rfl) rfl dX6_addRecord_28 hv9 ?_
      refine g_aload_n cx dX6_addRecord_31 rfl ?_
      refine g_getI cx lk_X6_49 hs1 (Nat.le_of_ble_eq_true rfl) rfl dX6_addRecord_32 (x := ((zu I v4 (((I o 12)).toNatClampNeg) x1) o 12)) rfl ?_
      refine g_iload_n cx dX6_addRecord_35 rfl ?_
      obtain ⟨hs10, h⟩ := h
      obtain ⟨hc11, h⟩ := h
      refine g_iast cx dX6_addRecord_36 hs10 hc11 ?_
      refine (Gx.unset 1 (Gx.unset 2 (Gx.L [.ref o, .float 0, .float 0] rfl ?_)))
      exact gj_X6_addRecord_37 cx hE hP h
def j_X2_noteArguments_39 (K : zI → zP → Prop) (y1 : Nat) (y2 : Int32) (I : zI) (P : zP) : Prop := SHy[y1]? = some (0, 6) ∧ (∃ v2, P y1 3 = some v2 ∧ (SHy[v2]? = some (3, 11) ∧ (if (I v2 7) = 0 then (∃ v6, P 114 6 = some v6 ∧ (SHy[v6]? = some (6, 13) ∧ (w_X6_addRecord v6 y2 0 I P (fun (I9 : zI) (P9 : zP) => (K I9 P9))))) else (K I P))))
theorem gj_X2_noteArguments_39 {κ : zX} (cx : Cx yX2_noteArguments cX2_noteArguments 4 none 1 22 κ) {K : zI → zP → Prop} (hE : zEnd (zKv K) 0 0 κ) {y1 : Nat} {y2 : Int32} {I : zI} {P : zP} (hP : PSt P) (h : j_X2_noteArguments_39 K y1 y2 I P) : Gx κ 39 [.ref 114, .ref y1, .int y2, .float 0] [] SHy I P 0 0 := by
  unfold j_X2_noteArguments_39 at h
  refine g_aload_n cx dX2_noteArguments_39 rfl ?_
  obtain ⟨hs1, h⟩ := h
  obtain ⟨v2, hv3, h⟩ := h
  refine g_getR cx lk_X2_289 hs1 (Nat.le_of_ble_eq_true rfl) rfl dX2_noteArguments_40 hv3 ?_
  obtain ⟨hs4, h⟩ := h
  refine g_getI cx lk_X2_92 hs4 (Nat.le_of_ble_eq_true rfl) rfl dX2_noteArguments_43 (x := (I v2 7)) rfl ?_
  refine g_if_ne cx (tgt := 58) dX2_noteArguments_46 rfl (fun c5 => ?_) (fun c5 => ?_)
  · have h := zifn c5 h
    exact g_wv cx hE dX2_noteArguments_58 rfl hP h
  · have h := zifp c5 h
    refine g_aload_n cx dX2_noteArguments_49 rfl ?_
    obtain ⟨v6, hv7, h⟩ := h
    refine g_getR cx lk_X2_67 rfl (Nat.le_of_ble_eq_true rfl) rfl dX2_noteArguments_50 hv7 ?_
    refine g_iload_n cx dX2_noteArguments_53 rfl ?_
    refine g_iconst cx dX2_noteArguments_54 ic_0 ?_
    obtain ⟨hs8, h⟩ := h
    refine g_wVv cx [.int y2, .int 0] [] (e_X6_addRecord hP h) mt_X6_addRecord ml_X2_324 hs8 rfl rfl dX2_noteArguments_55 rfl rfl (Nat.le_of_ble_eq_true rfl) (Nat.le_of_ble_eq_true rfl) (Nat.le_of_ble_eq_true rfl) (fun I9 P9 hP h => ?_)
    exact g_wv cx hE dX2_noteArguments_58 rfl hP h
def l_X2_noteArguments_2 (K : zI → zP → Prop) : Nat → Nat → Int32 → Int32 → zI → zP → Prop
  | 0, _, _, _, _, _ => False
  | n + 1, y1, y2, y3, I, P => SHy[y1]? = some (0, 6) ∧ (∃ v2, P y1 3 = some v2 ∧ (SHy[v2]? = some (3, 11) ∧ (if (I v2 7) ≤ y3 then (j_X2_noteArguments_39 K y1 y2 I P) else (if 12 ≤ y3 then (j_X2_noteArguments_39 K y1 y2 I P) else (∃ v7, P 114 6 = some v7 ∧ (∃ v9, P y1 0 = some v9 ∧ (SHy[v9]? = some (11, (zlen v9)) ∧ (vp_in y3 (zlen v9) ∧ (SHy[v7]? = some (6, 13) ∧ (w_X6_addRecord v7 y2 (I v9 ((y3).toNatClampNeg)) I P (fun (I14 : zI) (P14 : zP) => ((l_X2_noteArguments_2 K n) y1 y2 (y3 + 1) I14 P14))))))))))))
theorem gl_X2_noteArguments_2 {κ : zX} (cx : Cx yX2_noteArguments cX2_noteArguments 4 none 1 22 κ) {K : zI → zP → Prop} (hE : zEnd (zKv K) 0 0 κ) : ∀ (n : Nat) (y1 : Nat) (y2 : Int32) (y3 : Int32) (I : zI) (P : zP), PSt P → l_X2_noteArguments_2 K n y1 y2 y3 I P → Gx κ 2 [.ref 114, .ref y1, .int y2, .int y3] [] SHy I P 0 0 := by
  intro n
  induction n with
  | zero =>
    intro y1 y2 y3 I P hP h
    rw [l_X2_noteArguments_2] at h
    exact False.elim h
  | succ n ih =>
    intro y1 y2 y3 I P hP h
    rw [l_X2_noteArguments_2] at h
    refine g_iload_n cx dX2_noteArguments_2 rfl ?_
    refine g_aload_n cx dX2_noteArguments_3 rfl ?_
    obtain ⟨hs1, h⟩ := h
    obtain ⟨v2, hv3, h⟩ := h
    refine g_getR cx lk_X2_289 hs1 (Nat.le_of_ble_eq_true rfl) rfl dX2_noteArguments_4 hv3 ?_
    obtain ⟨hs4, h⟩ := h
    refine g_getI cx lk_X2_92 hs4 (Nat.le_of_ble_eq_true rfl) rfl dX2_noteArguments_7 (x := (I v2 7)) rfl ?_
    refine g_icmp_ge cx (tgt := 39) dX2_noteArguments_10 rfl (fun c5 => ?_) (fun c5 => ?_)
    · have h := zifp c5 h
      refine (Gx.unset 3 (Gx.L [.ref 114, .ref y1, .int y2, .float 0] rfl ?_))
      exact gj_X2_noteArguments_39 cx hE hP h
    · have h := zifn c5 h
      refine g_iload_n cx dX2_noteArguments_13 rfl ?_
      refine g_bipush cx dX2_noteArguments_14 bp_12 ?_
      refine g_icmp_ge cx (tgt := 39) dX2_noteArguments_16 rfl (fun c6 => ?_) (fun c6 => ?_)
      · have h := zifp c6 h
        refine (Gx.unset 3 (Gx.L [.ref 114, .ref y1, .int y2, .float 0] rfl ?_))
        exact gj_X2_noteArguments_39 cx hE hP h
      · have h := zifn c6 h
        refine g_aload_n cx dX2_noteArguments_19 rfl ?_
        obtain ⟨v7, hv8, h⟩ := h
        refine g_getR cx lk_X2_67 rfl (Nat.le_of_ble_eq_true rfl) rfl dX2_noteArguments_20 hv8 ?_
        refine g_iload_n cx dX2_noteArguments_23 rfl ?_
        refine g_aload_n cx dX2_noteArguments_24 rfl ?_
        obtain ⟨v9, hv10, h⟩ := h
        refine g_getR cx lk_X2_330 hs1 (Nat.le_of_ble_eq_true rfl) rfl dX2_noteArguments_25 hv10 ?_
        refine g_iload_n cx dX2_noteArguments_28 rfl ?_
        obtain ⟨hs11, h⟩ := h
        obtain ⟨hc12, h⟩ := h
        refine g_iald cx dX2_noteArguments_29 hs11 hc12 (x := (I v9 ((y3).toNatClampNeg))) rfl ?_
        obtain ⟨hs13, h⟩ := h
        refine g_wVv cx [.int y2, .int (I v9 ((y3).toNatClampNeg))] [] (e_X6_addRecord hP h) mt_X6_addRecord ml_X2_324 hs13 rfl rfl dX2_noteArguments_30 rfl rfl (Nat.le_of_ble_eq_true rfl) (Nat.le_of_ble_eq_true rfl) (Nat.le_of_ble_eq_true rfl) (fun I14 P14 hP h => ?_)
        refine g_iinc cx (v := (y3 + 1)) dX2_noteArguments_33 rfl rfl (Nat.le_of_ble_eq_true rfl) (Gx.L [.ref 114, .ref y1, .int y2, .int (y3 + 1)] rfl ?_)
        refine g_goto cx (tgt := 2) dX2_noteArguments_36 rfl ?_
        exact ih _ _ _ _ _ hP h
def w_X2_noteArguments (x1 : Nat) (x2 : Int32) (I : zI) (P : zP) (K : zI → zP → Prop) : Prop := ∃ n9, l_X2_noteArguments_2 K n9 x1 x2 0 I P
theorem e_X2_noteArguments {x1 : Nat} {x2 : Int32} {I : zI} {P : zP} {K : zI → zP → Prop} (hP : PSt P) (h : w_X2_noteArguments x1 x2 I P K) : Ev yX2_noteArguments cX2_noteArguments 4 none 1 22 0 0 [.ref 114, .ref x1, .int x2] SHy I P (zKv K) := by
  refine Ev.start [.ref 114, .ref x1, .int x2, .float 0] pn_X2 rfl (Nat.le_of_ble_eq_true rfl) rfl (fun κ cx hE => ?_)
  unfold w_X2_noteArguments at h
  refine g_iconst cx dX2_noteArguments_0 ic_0 ?_
  refine g_istore_n cx dX2_noteArguments_1 (Nat.le_of_ble_eq_true rfl) (Gx.L [.ref 114, .ref x1, .int x2, .int 0] rfl ?_)
  obtain ⟨n9, h⟩ := h
  exact gl_X2_noteArguments_2 cx hE n9 _ _ _ _ _ hP h
def w_X4_isAt (x1 : Int32) (x2 : Int32) (x3 : Int32) (I : zI) (P : zP) (K : Int32 → zI → zP → Prop) : Prop := if x1 < 0 then (K 0 I P) else (if (I 108 5) ≤ x1 then (K 0 I P) else (if 24 ≤ x1 then (K 0 I P) else (vp_in x1 24 ∧ (if (I 110 ((x1).toNatClampNeg)) = x2 then (vp_in x1 24 ∧ (if (I 111 ((x1).toNatClampNeg)) = x3 then (K 1 I P) else (K 0 I P))) else (K 0 I P)))))
theorem e_X4_isAt {x1 : Int32} {x2 : Int32} {x3 : Int32} {I : zI} {P : zP} {K : Int32 → zI → zP → Prop} (hP : PSt P) (h : w_X4_isAt x1 x2 x3 I P K) : Ev yX4_isAt cX4_isAt 4 (some .boolean) 0 0 0 0 [.ref 108, .int x1, .int x2, .int x3] SHy I P (zKi K) := by
  refine Ev.start [.ref 108, .int x1, .int x2, .int x3] pn_X4 rfl (Nat.le_of_ble_eq_true rfl) rfl (fun κ cx hE => ?_)
  unfold w_X4_isAt at h
  refine g_iload_n cx dX4_isAt_0 rfl ?_
  refine g_if_lt cx (tgt := 42) dX4_isAt_1 rfl (fun c1 => ?_) (fun c1 => ?_)
  · have h := zifp c1 h
    refine g_iconst cx dX4_isAt_42 ic_0 ?_
    exact g_wi cx hE dX4_isAt_43 rfl rfl hP h
  · have h := zifn c1 h
    refine g_iload_n cx dX4_isAt_4 rfl ?_
    refine g_aload_n cx dX4_isAt_5 rfl ?_
    refine g_getI cx lk_X4_27 rfl (Nat.le_of_ble_eq_true rfl) rfl dX4_isAt_6 (x := (I 108 5)) rfl ?_
    refine g_icmp_ge cx (tgt := 42) dX4_isAt_9 rfl (fun c2 => ?_) (fun c2 => ?_)
    · have h := zifp c2 h
      refine g_iconst cx dX4_isAt_42 ic_0 ?_
      exact g_wi cx hE dX4_isAt_43 rfl rfl hP h
    · have h := zifn c2 h
      refine g_iload_n cx dX4_isAt_12 rfl ?_
      refine g_bipush cx dX4_isAt_13 bp_24 ?_
      refine g_icmp_ge cx (tgt := 42) dX4_isAt_15 rfl (fun c3 => ?_) (fun c3 => ?_)
      · have h := zifp c3 h
        refine g_iconst cx dX4_isAt_42 ic_0 ?_
        exact g_wi cx hE dX4_isAt_43 rfl rfl hP h
      · have h := zifn c3 h
        refine g_aload_n cx dX4_isAt_18 rfl ?_
        refine g_getR cx lk_X4_15 rfl (Nat.le_of_ble_eq_true rfl) rfl dX4_isAt_19 (v := 110) (pst hP 105 rfl) ?_
        refine g_iload_n cx dX4_isAt_22 rfl ?_
        obtain ⟨hc4, h⟩ := h
        refine g_iald cx dX4_isAt_23 rfl hc4 (x := (I 110 ((x1).toNatClampNeg))) rfl ?_
        refine g_iload_n cx dX4_isAt_24 rfl ?_
        refine g_icmp_ne cx (tgt := 42) dX4_isAt_25 rfl (fun c5 => ?_) (fun c5 => ?_)
        · have h := zifn c5 h
          refine g_iconst cx dX4_isAt_42 ic_0 ?_
          exact g_wi cx hE dX4_isAt_43 rfl rfl hP h
        · have h := zifp c5 h
          refine g_aload_n cx dX4_isAt_28 rfl ?_
          refine g_getR cx lk_X4_18 rfl (Nat.le_of_ble_eq_true rfl) rfl dX4_isAt_29 (v := 111) (pst hP 106 rfl) ?_
          refine g_iload_n cx dX4_isAt_32 rfl ?_
          obtain ⟨hc6, h⟩ := h
          refine g_iald cx dX4_isAt_33 rfl hc6 (x := (I 111 ((x1).toNatClampNeg))) rfl ?_
          refine g_iload_n cx dX4_isAt_34 rfl ?_
          refine g_icmp_ne cx (tgt := 42) dX4_isAt_35 rfl (fun c7 => ?_) (fun c7 => ?_)
          · have h := zifn c7 h
            refine g_iconst cx dX4_isAt_42 ic_0 ?_
            exact g_wi cx hE dX4_isAt_43 rfl rfl hP h
          · have h := zifp c7 h
            refine g_iconst cx dX4_isAt_38 ic_1 ?_
            refine g_goto cx (tgt := 43) dX4_isAt_39 rfl ?_
            exact g_wi cx hE dX4_isAt_43 rfl rfl hP h
def w_X4_sortOf (x1 : Int32) (I : zI) (P : zP) (K : Int32 → zI → zP → Prop) : Prop := if x1 < 0 then (K (-1) I P) else (if 24 ≤ x1 then (K (-1) I P) else (vp_in x1 24 ∧ (K (I 109 ((x1).toNatClampNeg)) I P)))
theorem e_X4_sortOf {x1 : Int32} {I : zI} {P : zP} {K : Int32 → zI → zP → Prop} (hP : PSt P) (h : w_X4_sortOf x1 I P K) : Ev yX4_sortOf cX4_sortOf 2 (some .int) 0 0 0 0 [.ref 108, .int x1] SHy I P (zKi K) := by
  refine Ev.start [.ref 108, .int x1] pn_X4 rfl (Nat.le_of_ble_eq_true rfl) rfl (fun κ cx hE => ?_)
  unfold w_X4_sortOf at h
  refine g_iload_n cx dX4_sortOf_0 rfl ?_
  refine g_if_lt cx (tgt := 19) dX4_sortOf_1 rfl (fun c1 => ?_) (fun c1 => ?_)
  · have h := zifp c1 h
    refine g_iconst cx dX4_sortOf_19 ic_m1 ?_
    exact g_wi cx hE dX4_sortOf_20 rfl rfl hP h
  · have h := zifn c1 h
    refine g_iload_n cx dX4_sortOf_4 rfl ?_
    refine g_bipush cx dX4_sortOf_5 bp_24 ?_
    refine g_icmp_ge cx (tgt := 19) dX4_sortOf_7 rfl (fun c2 => ?_) (fun c2 => ?_)
    · have h := zifp c2 h
      refine g_iconst cx dX4_sortOf_19 ic_m1 ?_
      exact g_wi cx hE dX4_sortOf_20 rfl rfl hP h
    · have h := zifn c2 h
      refine g_aload_n cx dX4_sortOf_10 rfl ?_
      refine g_getR cx lk_X4_9 rfl (Nat.le_of_ble_eq_true rfl) rfl dX4_sortOf_11 (v := 109) (pst hP 104 rfl) ?_
      refine g_iload_n cx dX4_sortOf_14 rfl ?_
      obtain ⟨hc3, h⟩ := h
      refine g_iald cx dX4_sortOf_15 rfl hc3 (x := (I 109 ((x1).toNatClampNeg))) rfl ?_
      refine g_goto cx (tgt := 20) dX4_sortOf_16 rfl ?_
      exact g_wi cx hE dX4_sortOf_20 rfl rfl hP h
def l_X2_noteEnter_11 (K : zI → zP → Prop) : Nat → Nat → Int32 → zI → zP → Prop
  | 0, _, _, _, _ => False
  | n + 1, y1, y2, I, P => SHy[y1]? = some (0, 6) ∧ (∃ v2, P y1 3 = some v2 ∧ (SHy[v2]? = some (3, 11) ∧ (∃ v5, P v2 6 = some v5 ∧ (SHy[v5]? = some (8, 11) ∧ (if (I v5 10) ≤ y2 then (K I P) else (w_X4_sortOf y2 I P (fun (v9 : Int32) (I9 : zI) (P9 : zP) => (if v9 = 2 then (∃ v11, P9 y1 3 = some v11 ∧ (SHy[v11]? = some (3, 11) ∧ (w_X4_isAt y2 (I9 v11 0) 0 I9 P9 (fun (v14 : Int32) (I14 : zI) (P14 : zP) => (if v14 = 0 then ((l_X2_noteEnter_11 K n) y1 (y2 + 1) I14 P14) else (w_X2_noteArguments y1 y2 I14 P14 (fun (I16 : zI) (P16 : zP) => ((l_X2_noteEnter_11 K n) y1 (y2 + 1) I16 P16)))))))) else ((l_X2_noteEnter_11 K n) y1 (y2 + 1) I9 P9)))))))))
theorem gl_X2_noteEnter_11 {κ : zX} (cx : Cx yX2_noteEnter cX2_noteEnter 3 none 2 45 κ) {K : zI → zP → Prop} (hE : zEnd (zKv K) 0 0 κ) : ∀ (n : Nat) (y1 : Nat) (y2 : Int32) (I : zI) (P : zP), PSt P → l_X2_noteEnter_11 K n y1 y2 I P → Gx κ 11 [.ref 114, .ref y1, .int y2] [] SHy I P 0 0 := by
  intro n
  induction n with
  | zero =>
    intro y1 y2 I P hP h
    rw [l_X2_noteEnter_11] at h
    exact False.elim h
  | succ n ih =>
    intro y1 y2 I P hP h
    rw [l_X2_noteEnter_11] at h
    refine g_iload_n cx dX2_noteEnter_11 rfl ?_
    refine g_aload_n cx dX2_noteEnter_12 rfl ?_
    obtain ⟨hs1, h⟩ := h
    obtain ⟨v2, hv3, h⟩ := h
    refine g_getR cx lk_X2_289 hs1 (Nat.le_of_ble_eq_true rfl) rfl dX2_noteEnter_13 hv3 ?_
    obtain ⟨hs4, h⟩ := h
    obtain ⟨v5, hv6, h⟩ := h
    refine g_getR cx lk_X2_130 hs4 (Nat.le_of_ble_eq_true rfl) rfl dX2_noteEnter_16 hv6 ?_
    obtain ⟨hs7, h⟩ := h
    refine g_getI cx lk_X2_312 hs7 (Nat.le_of_ble_eq_true rfl) rfl dX2_noteEnter_19 (x := (I v5 10)) rfl ?_
    refine g_icmp_ge cx (tgt := 68) dX2_noteEnter_22 rfl (fun c8 => ?_) (fun c8 => ?_)
    · have h := zifp c8 h
      exact g_wv cx hE dX2_noteEnter_68 rfl hP h
    · have h := zifn c8 h
      refine g_aload_n cx dX2_noteEnter_25 rfl ?_
      refine g_getR cx lk_X2_63 rfl (Nat.le_of_ble_eq_true rfl) rfl dX2_noteEnter_26 (v := 108) (pst hP 117 rfl) ?_
      refine g_iload_n cx dX2_noteEnter_29 rfl ?_
      refine g_wVi cx [.int y2] [] (e_X4_sortOf hP h) mt_X4_sortOf ml_X2_315 rfl rfl rfl dX2_noteEnter_30 rfl rfl (Nat.le_of_ble_eq_true rfl) (Nat.le_of_ble_eq_true rfl) (Nat.le_of_ble_eq_true rfl) (fun v9 I9 P9 hP h => ?_)
      refine g_iconst cx dX2_noteEnter_33 ic_2 ?_
      refine g_icmp_ne cx (tgt := 62) dX2_noteEnter_34 rfl (fun c10 => ?_) (fun c10 => ?_)
      · have h := zifn c10 h
        refine g_iinc cx (v := (y2 + 1)) dX2_noteEnter_62 rfl rfl (Nat.le_of_ble_eq_true rfl) (Gx.L [.ref 114, .ref y1, .int (y2 + 1)] rfl ?_)
        refine g_goto cx (tgt := 11) dX2_noteEnter_65 rfl ?_
        exact ih _ _ _ _ hP h
      · have h := zifp c10 h
        refine g_aload_n cx dX2_noteEnter_37 rfl ?_
        refine g_getR cx lk_X2_63 rfl (Nat.le_of_ble_eq_true rfl) rfl dX2_noteEnter_38 (v := 108) (pst hP 117 rfl) ?_
        refine g_iload_n cx dX2_noteEnter_41 rfl ?_
        refine g_aload_n cx dX2_noteEnter_42 rfl ?_
        obtain ⟨v11, hv12, h⟩ := h
        refine g_getR cx lk_X2_289 hs1 (Nat.le_of_ble_eq_true rfl) rfl dX2_noteEnter_43 hv12 ?_
        obtain ⟨hs13, h⟩ := h
        refine g_getI cx lk_X2_293 hs13 (Nat.le_of_ble_eq_true rfl) rfl dX2_noteEnter_46 (x := (I9 v11 0)) rfl ?_
        refine g_iconst cx dX2_noteEnter_49 ic_0 ?_
        refine g_wVi cx [.int y2, .int (I9 v11 0), .int 0] [] (e_X4_isAt hP h) mt_X4_isAt ml_X2_320 rfl rfl rfl dX2_noteEnter_50 rfl rfl (Nat.le_of_ble_eq_true rfl) (Nat.le_of_ble_eq_true rfl) (Nat.le_of_ble_eq_true rfl) (fun v14 I14 P14 hP h => ?_)
        refine g_if_eq cx (tgt := 62) dX2_noteEnter_53 rfl (fun c15 => ?_) (fun c15 => ?_)
        · have h := zifp c15 h
          refine g_iinc cx (v := (y2 + 1)) dX2_noteEnter_62 rfl rfl (Nat.le_of_ble_eq_true rfl) (Gx.L [.ref 114, .ref y1, .int (y2 + 1)] rfl ?_)
          refine g_goto cx (tgt := 11) dX2_noteEnter_65 rfl ?_
          exact ih _ _ _ _ hP h
        · have h := zifn c15 h
          refine g_aload_n cx dX2_noteEnter_56 rfl ?_
          refine g_aload_n cx dX2_noteEnter_57 rfl ?_
          refine g_iload_n cx dX2_noteEnter_58 rfl ?_
          refine g_wVv cx [.ref y1, .int y2] [] (e_X2_noteArguments hP h) mt_X2_noteArguments ml_X2_327 rfl rfl rfl dX2_noteEnter_59 rfl rfl (Nat.le_of_ble_eq_true rfl) (Nat.le_of_ble_eq_true rfl) (Nat.le_of_ble_eq_true rfl) (fun I16 P16 hP h => ?_)
          refine g_iinc cx (v := (y2 + 1)) dX2_noteEnter_62 rfl rfl (Nat.le_of_ble_eq_true rfl) (Gx.L [.ref 114, .ref y1, .int (y2 + 1)] rfl ?_)
          refine g_goto cx (tgt := 11) dX2_noteEnter_65 rfl ?_
          exact ih _ _ _ _ hP h
def w_X2_noteEnter (x1 : Nat) (I : zI) (P : zP) (K : zI → zP → Prop) : Prop := w_X2_isWatched x1 I P (fun (v1 : Int32) (I1 : zI) (P1 : zP) => (if v1 = 0 then (K I1 P1) else (∃ n9, l_X2_noteEnter_11 K n9 x1 0 I1 P1)))
theorem e_X2_noteEnter {x1 : Nat} {I : zI} {P : zP} {K : zI → zP → Prop} (hP : PSt P) (h : w_X2_noteEnter x1 I P K) : Ev yX2_noteEnter cX2_noteEnter 3 none 2 45 0 0 [.ref 114, .ref x1] SHy I P (zKv K) := by
  refine Ev.start [.ref 114, .ref x1, .float 0] pn_X2 rfl (Nat.le_of_ble_eq_true rfl) rfl (fun κ cx hE => ?_)
  unfold w_X2_noteEnter at h
  refine g_aload_n cx dX2_noteEnter_0 rfl ?_
  refine g_aload_n cx dX2_noteEnter_1 rfl ?_
  refine g_wVi cx [.ref x1] [] (e_X2_isWatched hP h) mt_X2_isWatched ml_X2_306 rfl rfl rfl dX2_noteEnter_2 rfl rfl (Nat.le_of_ble_eq_true rfl) (Nat.le_of_ble_eq_true rfl) (Nat.le_of_ble_eq_true rfl) (fun v1 I1 P1 hP h => ?_)
  refine g_if_ne cx (tgt := 9) dX2_noteEnter_5 rfl (fun c2 => ?_) (fun c2 => ?_)
  · have h := zifn c2 h
    refine g_iconst cx dX2_noteEnter_9 ic_0 ?_
    refine g_istore_n cx dX2_noteEnter_10 (Nat.le_of_ble_eq_true rfl) (Gx.L [.ref 114, .ref x1, .int 0] rfl ?_)
    obtain ⟨n9, h⟩ := h
    exact gl_X2_noteEnter_11 cx hE n9 _ _ _ _ hP h
  · have h := zifp c2 h
    exact g_wv cx hE dX2_noteEnter_8 rfl hP h
def j_X2_openFrame_46 (K : Nat → zI → zP → Prop) (y2 : Int32) (y3 : Nat) (s0 : Int32) (s1 : Nat) (s2 : Nat) (I : zI) (P : zP) : Prop := SHy[s2]? = some (0, 6) ∧ (w_X0_begin s2 s1 s0 I P (fun (I2 : zI) (P2 : zP) => (∃ v3, P2 114 6 = some v3 ∧ (∃ v5, P2 114 6 = some v5 ∧ (SHy[v5]? = some (6, 13) ∧ (SHy[v3]? = some (6, 13) ∧ (K y3 (zu (zu I2 114 9 (y2 + 1)) v3 8 (if ((zu I2 114 9 (y2 + 1)) v5 8) < (y2 + 1) then (y2 + 1) else ((zu I2 114 9 (y2 + 1)) v5 8))) P2)))))))
theorem gj_X2_openFrame_46 {κ : zX} (cx : Cx yX2_openFrame cX2_openFrame 4 (some (.object "ProbeLoom$Frame")) 2 45 κ) {K : Nat → zI → zP → Prop} (hE : zEnd (zKr K) 0 0 κ) {y2 : Int32} {y3 : Nat} {s0 : Int32} {s1 : Nat} {s2 : Nat} {I : zI} {P : zP} (hP : PSt P) (h : j_X2_openFrame_46 K y2 y3 s0 s1 s2 I P) : Gx κ 46 [.ref 114, .float 0, .int y2, .ref y3] [.int s0, .ref s1, .ref s2] SHy I P 0 0 := by
  unfold j_X2_openFrame_46 at h
  obtain ⟨hs1, h⟩ := h
  refine g_wVv cx [.ref s1, .int s0] [] (e_X0_begin hP h) mt_X0_begin ml_X2_139 hs1 rfl rfl dX2_openFrame_46 rfl rfl (Nat.le_of_ble_eq_true rfl) (Nat.le_of_ble_eq_true rfl) (Nat.le_of_ble_eq_true rfl) (fun I2 P2 hP h => ?_)
  refine g_aload_n cx dX2_openFrame_49 rfl ?_
  refine g_iload_n cx dX2_openFrame_50 rfl ?_
  refine g_iconst cx dX2_openFrame_51 ic_1 ?_
  refine g_iadd cx dX2_openFrame_52 ?_
  refine g_pI cx lk_X2_34 rfl (Nat.le_of_ble_eq_true rfl) rfl dX2_openFrame_53 fi_2_9 rfl rfl ?_
  refine g_aload_n cx dX2_openFrame_56 rfl ?_
  obtain ⟨v3, hv4, h⟩ := h
  refine g_getR cx lk_X2_67 rfl (Nat.le_of_ble_eq_true rfl) rfl dX2_openFrame_57 hv4 ?_
  refine g_aload_n cx dX2_openFrame_60 rfl ?_
  obtain ⟨v5, hv6, h⟩ := h
  refine g_getR cx lk_X2_67 rfl (Nat.le_of_ble_eq_true rfl) rfl dX2_openFrame_61 hv6 ?_
  obtain ⟨hs7, h⟩ := h
  refine g_getI cx lk_X2_143 hs7 (Nat.le_of_ble_eq_true rfl) rfl dX2_openFrame_64 (x := ((zu I2 114 9 (y2 + 1)) v5 8)) rfl ?_
  refine g_aload_n cx dX2_openFrame_67 rfl ?_
  refine g_getI cx lk_X2_34 rfl (Nat.le_of_ble_eq_true rfl) rfl dX2_openFrame_68 (x := (y2 + 1)) rfl ?_
  refine g_mmax cx ml_X2_121 dX2_openFrame_71 rfl (Nat.le_of_ble_eq_true rfl) (Nat.le_of_ble_eq_true rfl) (Nat.le_of_ble_eq_true rfl) rfl rfl ?_
  obtain ⟨hs8, h⟩ := h
  refine g_pI cx lk_X2_143 hs8 (Nat.le_of_ble_eq_true rfl) rfl dX2_openFrame_74 fi_6_8 rfl rfl ?_
  refine g_aload_n cx dX2_openFrame_77 rfl ?_
  exact g_wr cx hE dX2_openFrame_78 rfl (by first | exact Or.inl ⟨_, rfl⟩ | exact Or.inr ⟨_, rfl⟩) hP h
def j_X2_openFrame_45 (K : Nat → zI → zP → Prop) (y2 : Int32) (y3 : Nat) (s0 : Nat) (s1 : Nat) (I : zI) (P : zP) : Prop := j_X2_openFrame_46 K y2 y3 0 s0 s1 I P
theorem gj_X2_openFrame_45 {κ : zX} (cx : Cx yX2_openFrame cX2_openFrame 4 (some (.object "ProbeLoom$Frame")) 2 45 κ) {K : Nat → zI → zP → Prop} (hE : zEnd (zKr K) 0 0 κ) {y2 : Int32} {y3 : Nat} {s0 : Nat} {s1 : Nat} {I : zI} {P : zP} (hP : PSt P) (h : j_X2_openFrame_45 K y2 y3 s0 s1 I P) : Gx κ 45 [.ref 114, .float 0, .int y2, .ref y3] [.ref s0, .ref s1] SHy I P 0 0 := by
  unfold j_X2_openFrame_45 at h
  refine g_iconst cx dX2_openFrame_45 ic_0 ?_
  exact gj_X2_openFrame_46 cx hE hP h
def w_X2_openFrame (x1 : Nat) (I : zI) (P : zP) (K : Nat → zI → zP → Prop) : Prop := vp_in (if 11 < (if (I 114 9) < 0 then 0 else (I 114 9)) then 11 else (if (I 114 9) < 0 then 0 else (I 114 9))) 12 ∧ (∃ v2, P 115 ((if 11 < (if (I 114 9) < 0 then 0 else (I 114 9)) then 11 else (if (I 114 9) < 0 then 0 else (I 114 9)))).toNatClampNeg = some v2 ∧ (if (I 114 7) = 1 then (SHy[x1]? = some (3, 11) ∧ (∃ v6, P x1 6 = some v6 ∧ (SHy[v6]? = some (8, 11) ∧ (if (I v6 5) = 0 then (j_X2_openFrame_45 K (if 11 < (if (I 114 9) < 0 then 0 else (I 114 9)) then 11 else (if (I 114 9) < 0 then 0 else (I 114 9))) v2 x1 v2 I P) else (j_X2_openFrame_46 K (if 11 < (if (I 114 9) < 0 then 0 else (I 114 9)) then 11 else (if (I 114 9) < 0 then 0 else (I 114 9))) v2 1 x1 v2 I P))))) else (j_X2_openFrame_45 K (if 11 < (if (I 114 9) < 0 then 0 else (I 114 9)) then 11 else (if (I 114 9) < 0 then 0 else (I 114 9))) v2 x1 v2 I P)))
theorem e_X2_openFrame {x1 : Nat} {I : zI} {P : zP} {K : Nat → zI → zP → Prop} (hP : PSt P) (h : w_X2_openFrame x1 I P K) : Ev yX2_openFrame cX2_openFrame 4 (some (.object "ProbeLoom$Frame")) 2 45 0 0 [.ref 114, .ref x1] SHy I P (zKr K) := by
  refine Ev.start [.ref 114, .ref x1, .float 0, .float 0] pn_X2 rfl (Nat.le_of_ble_eq_true rfl) rfl (fun κ cx hE => ?_)
  unfold w_X2_openFrame at h
  refine g_aload_n cx dX2_openFrame_0 rfl ?_
  refine g_getI cx lk_X2_34 rfl (Nat.le_of_ble_eq_true rfl) rfl dX2_openFrame_1 (x := (I 114 9)) rfl ?_
  refine g_iconst cx dX2_openFrame_4 ic_0 ?_
  refine g_mmax cx ml_X2_121 dX2_openFrame_5 rfl (Nat.le_of_ble_eq_true rfl) (Nat.le_of_ble_eq_true rfl) (Nat.le_of_ble_eq_true rfl) rfl rfl ?_
  refine g_bipush cx dX2_openFrame_8 bp_11 ?_
  refine g_mmin cx ml_X2_127 dX2_openFrame_10 rfl (Nat.le_of_ble_eq_true rfl) (Nat.le_of_ble_eq_true rfl) (Nat.le_of_ble_eq_true rfl) rfl rfl ?_
  refine g_istore_n cx dX2_openFrame_13 (Nat.le_of_ble_eq_true rfl) (Gx.L [.ref 114, .ref x1, .int (if 11 < (if (I 114 9) < 0 then 0 else (I 114 9)) then 11 else (if (I 114 9) < 0 then 0 else (I 114 9))), .float 0] rfl ?_)
  refine g_aload_n cx dX2_openFrame_14 rfl ?_
  refine g_getR cx lk_X2_11 rfl (Nat.le_of_ble_eq_true rfl) rfl dX2_openFrame_15 (v := 115) (pst hP 112 rfl) ?_
  refine g_iload_n cx dX2_openFrame_18 rfl ?_
  obtain ⟨hc1, h⟩ := h
  obtain ⟨v2, hv3, h⟩ := h
  refine g_aald cx rfl (Nat.le_of_ble_eq_true rfl) (Nat.le_of_ble_eq_true rfl) hc1 hv3 dX2_openFrame_19 ?_
  refine g_astore_n cx dX2_openFrame_20 (Nat.le_of_ble_eq_true rfl) (Gx.L [.ref 114, .ref x1, .int (if 11 < (if (I 114 9) < 0 then 0 else (I 114 9)) then 11 else (if (I 114 9) < 0 then 0 else (I 114 9))), .ref v2] rfl ?_)
  refine g_aload_n cx dX2_openFrame_21 rfl ?_
  refine g_aload_n cx dX2_openFrame_22 rfl ?_
  refine g_aload_n cx dX2_openFrame_23 rfl ?_
  refine g_getI cx lk_X2_27 rfl (Nat.le_of_ble_eq_true rfl) rfl dX2_openFrame_24 (x := (I 114 7)) rfl ?_
  refine g_iconst cx dX2_openFrame_27 ic_1 ?_
  refine g_icmp_ne cx (tgt := 45) dX2_openFrame_28 rfl (fun c4 => ?_) (fun c4 => ?_)
  · have h := zifn c4 h
    refine (Gx.unset 1 (Gx.L [.ref 114, .float 0, .int (if 11 < (if (I 114 9) < 0 then 0 else (I 114 9)) then 11 else (if (I 114 9) < 0 then 0 else (I 114 9))), .ref v2] rfl ?_))
    exact gj_X2_openFrame_45 cx hE hP h
  · have h := zifp c4 h
    refine g_aload_n cx dX2_openFrame_31 rfl ?_
    obtain ⟨hs5, h⟩ := h
    obtain ⟨v6, hv7, h⟩ := h
    refine g_getR cx lk_X2_130 hs5 (Nat.le_of_ble_eq_true rfl) rfl dX2_openFrame_32 hv7 ?_
    obtain ⟨hs8, h⟩ := h
    refine g_getI cx lk_X2_134 hs8 (Nat.le_of_ble_eq_true rfl) rfl dX2_openFrame_35 (x := (I v6 5)) rfl ?_
    refine g_if_eq cx (tgt := 45) dX2_openFrame_38 rfl (fun c9 => ?_) (fun c9 => ?_)
    · have h := zifp c9 h
      refine (Gx.unset 1 (Gx.L [.ref 114, .float 0, .int (if 11 < (if (I 114 9) < 0 then 0 else (I 114 9)) then 11 else (if (I 114 9) < 0 then 0 else (I 114 9))), .ref v2] rfl ?_))
      exact gj_X2_openFrame_45 cx hE hP h
    · have h := zifn c9 h
      refine g_iconst cx dX2_openFrame_41 ic_1 ?_
      refine g_goto cx (tgt := 46) dX2_openFrame_42 rfl ?_
      refine (Gx.unset 1 (Gx.L [.ref 114, .float 0, .int (if 11 < (if (I 114 9) < 0 then 0 else (I 114 9)) then 11 else (if (I 114 9) < 0 then 0 else (I 114 9))), .ref v2] rfl ?_))
      exact gj_X2_openFrame_46 cx hE hP h
def w_X2_throwAt (x1 : Nat) (x2 : Int32) (I : zI) (P : zP) (K : zI → zP → Prop) : Prop := SHy[x1]? = some (0, 6) ∧ (∃ v2, P x1 3 = some v2 ∧ (SHy[v2]? = some (3, 11) ∧ (K (zu (zu (zu I 114 10 x2) 114 11 (I 114 16)) 114 12 ((zu (zu I 114 10 x2) 114 11 (I 114 16)) v2 0)) P)))
theorem e_X2_throwAt {x1 : Nat} {x2 : Int32} {I : zI} {P : zP} {K : zI → zP → Prop} (hP : PSt P) (h : w_X2_throwAt x1 x2 I P K) : Ev yX2_throwAt cX2_throwAt 3 none 0 0 0 0 [.ref 114, .ref x1, .int x2] SHy I P (zKv K) := by
  refine Ev.start [.ref 114, .ref x1, .int x2] pn_X2 rfl (Nat.le_of_ble_eq_true rfl) rfl (fun κ cx hE => ?_)
  unfold w_X2_throwAt at h
  refine g_aload_n cx dX2_throwAt_0 rfl ?_
  refine g_iload_n cx dX2_throwAt_1 rfl ?_
  refine g_pI cx lk_X2_37 rfl (Nat.le_of_ble_eq_true rfl) rfl dX2_throwAt_2 fi_2_10 rfl rfl ?_
  refine g_aload_n cx dX2_throwAt_5 rfl ?_
  refine g_aload_n cx dX2_throwAt_6 rfl ?_
  refine g_getI cx lk_X2_56 rfl (Nat.le_of_ble_eq_true rfl) rfl dX2_throwAt_7 (x := (I 114 16)) rfl ?_
  refine g_pI cx lk_X2_40 rfl (Nat.le_of_ble_eq_true rfl) rfl dX2_throwAt_10 fi_2_11 rfl rfl ?_
  refine g_aload_n cx dX2_throwAt_13 rfl ?_
  refine g_aload_n cx dX2_throwAt_14 rfl ?_
  obtain ⟨hs1, h⟩ := h
  obtain ⟨v2, hv3, h⟩ := h
  refine g_getR cx lk_X2_289 hs1 (Nat.le_of_ble_eq_true rfl) rfl dX2_throwAt_15 hv3 ?_
  obtain ⟨hs4, h⟩ := h
  refine g_getI cx lk_X2_293 hs4 (Nat.le_of_ble_eq_true rfl) rfl dX2_throwAt_18 (x := ((zu (zu I 114 10 x2) 114 11 (I 114 16)) v2 0)) rfl ?_
  refine g_pI cx lk_X2_43 rfl (Nat.le_of_ble_eq_true rfl) rfl dX2_throwAt_21 fi_2_12 rfl rfl ?_
  exact g_wv cx hE dX2_throwAt_24 rfl hP h
def l_X2_doCall_55 (K : zI → zP → Prop) : Nat → Nat → Nat → Int32 → zI → zP → Prop
  | 0, _, _, _, _, _ => False
  | n + 1, y1, y3, y4, I, P => if y4 < 0 then (w_X2_noteEnter y3 I P (fun (I2 : zI) (P2 : zP) => (K I2 P2))) else (SHy[y1]? = some (0, 6) ∧ (w_X0_pop y1 I P (fun (v4 : Int32) (I4 : zI) (P4 : zP) => (SHy[y3]? = some (0, 6) ∧ (w_X0_setLocal y3 y4 v4 I4 P4 (fun (I6 : zI) (P6 : zP) => ((l_X2_doCall_55 K n) y1 y3 (y4 + (-1)) I6 P6)))))))
theorem gl_X2_doCall_55 {κ : zX} (cx : Cx yX2_doCall cX2_doCall 5 none 3 68 κ) {K : zI → zP → Prop} (hE : zEnd (zKv K) 0 0 κ) : ∀ (n : Nat) (y1 : Nat) (y3 : Nat) (y4 : Int32) (I : zI) (P : zP), PSt P → l_X2_doCall_55 K n y1 y3 y4 I P → Gx κ 55 [.ref 114, .ref y1, .float 0, .ref y3, .int y4] [] SHy I P 0 0 := by
  intro n
  induction n with
  | zero =>
    intro y1 y3 y4 I P hP h
    rw [l_X2_doCall_55] at h
    exact False.elim h
  | succ n ih =>
    intro y1 y3 y4 I P hP h
    rw [l_X2_doCall_55] at h
    refine g_iload cx dX2_doCall_55 rfl ?_
    refine g_if_lt cx (tgt := 76) dX2_doCall_57 rfl (fun c1 => ?_) (fun c1 => ?_)
    · have h := zifp c1 h
      refine g_aload_n cx dX2_doCall_76 rfl ?_
      refine g_aload_n cx dX2_doCall_77 rfl ?_
      refine g_wVv cx [.ref y3] [] (e_X2_noteEnter hP h) mt_X2_noteEnter ml_X2_101 rfl rfl rfl dX2_doCall_78 rfl rfl (Nat.le_of_ble_eq_true rfl) (Nat.le_of_ble_eq_true rfl) (Nat.le_of_ble_eq_true rfl) (fun I2 P2 hP h => ?_)
      exact g_wv cx hE dX2_doCall_81 rfl hP h
    · have h := zifn c1 h
      refine g_aload_n cx dX2_doCall_60 rfl ?_
      refine g_iload cx dX2_doCall_61 rfl ?_
      refine g_aload_n cx dX2_doCall_63 rfl ?_
      obtain ⟨hs3, h⟩ := h
      refine g_wVi cx [] [.int y4, .ref y3] (e_X0_pop hP h) mt_X0_pop ml_X2_215 hs3 rfl rfl dX2_doCall_64 rfl rfl (Nat.le_of_ble_eq_true rfl) (Nat.le_of_ble_eq_true rfl) (Nat.le_of_ble_eq_true rfl) (fun v4 I4 P4 hP h => ?_)
      obtain ⟨hs5, h⟩ := h
      refine g_wVv cx [.int y4, .int v4] [] (e_X0_setLocal hP h) mt_X0_setLocal ml_X2_97 hs5 rfl rfl dX2_doCall_67 rfl rfl (Nat.le_of_ble_eq_true rfl) (Nat.le_of_ble_eq_true rfl) (Nat.le_of_ble_eq_true rfl) (fun I6 P6 hP h => ?_)
      refine g_iinc cx (v := (y4 + (-1))) dX2_doCall_70 rfl rfl (Nat.le_of_ble_eq_true rfl) (Gx.L [.ref 114, .ref y1, .float 0, .ref y3, .int (y4 + (-1))] rfl ?_)
      refine g_goto cx (tgt := 55) dX2_doCall_73 rfl ?_
      exact ih _ _ _ _ _ hP h
def j_X2_doCall_23 (K : zI → zP → Prop) (y1 : Nat) (I : zI) (P : zP) : Prop := w_X2_throwAt y1 105 I P (fun (I1 : zI) (P1 : zP) => (K I1 P1))
theorem gj_X2_doCall_23 {κ : zX} (cx : Cx yX2_doCall cX2_doCall 5 none 3 68 κ) {K : zI → zP → Prop} (hE : zEnd (zKv K) 0 0 κ) {y1 : Nat} {I : zI} {P : zP} (hP : PSt P) (h : j_X2_doCall_23 K y1 I P) : Gx κ 23 [.ref 114, .ref y1, .float 0, .float 0, .float 0] [] SHy I P 0 0 := by
  unfold j_X2_doCall_23 at h
  refine g_aload_n cx dX2_doCall_23 rfl ?_
  refine g_aload_n cx dX2_doCall_24 rfl ?_
  refine g_bipush cx dX2_doCall_25 bp_105 ?_
  refine g_wVv cx [.ref y1, .int 105] [] (e_X2_throwAt hP h) mt_X2_throwAt ml_X2_218 rfl rfl rfl dX2_doCall_27 rfl rfl (Nat.le_of_ble_eq_true rfl) (Nat.le_of_ble_eq_true rfl) (Nat.le_of_ble_eq_true rfl) (fun I1 P1 hP h => ?_)
  exact g_wv cx hE dX2_doCall_30 rfl hP h
def w_X2_doCall (x1 : Nat) (I : zI) (P : zP) (K : zI → zP → Prop) : Prop := SHy[x1]? = some (0, 6) ∧ (w_X0_operand x1 I P (fun (v2 : Int32) (I2 : zI) (P2 : zP) => (if 12 ≤ (I2 114 9) then (j_X2_doCall_23 K x1 I2 P2) else (if v2 < 6 then (vp_in v2 6 ∧ (∃ v6, P2 19 (v2).toNatClampNeg = some v6 ∧ (w_X2_openFrame v6 I2 P2 (fun (v8 : Nat) (I8 : zI) (P8 : zP) => (vp_in v2 6 ∧ (∃ v10, P8 19 (v2).toNatClampNeg = some v10 ∧ (SHy[v10]? = some (3, 11) ∧ (∃ n9, l_X2_doCall_55 K n9 x1 v8 ((I8 v10 7) - 1) I8 P8)))))))) else (j_X2_doCall_23 K x1 I2 P2)))))
theorem e_X2_doCall {x1 : Nat} {I : zI} {P : zP} {K : zI → zP → Prop} (hP : PSt P) (h : w_X2_doCall x1 I P K) : Ev yX2_doCall cX2_doCall 5 none 3 68 0 0 [.ref 114, .ref x1] SHy I P (zKv K) := by
  refine Ev.start [.ref 114, .ref x1, .float 0, .float 0, .float 0] pn_X2 rfl (Nat.le_of_ble_eq_true rfl) rfl (fun κ cx hE => ?_)
  unfold w_X2_doCall at h
  refine g_aload_n cx dX2_doCall_0 rfl ?_
  obtain ⟨hs1, h⟩ := h
  refine g_wVi cx [] [] (e_X0_operand hP h) mt_X0_operand ml_X2_227 hs1 rfl rfl dX2_doCall_1 rfl rfl (Nat.le_of_ble_eq_true rfl) (Nat.le_of_ble_eq_true rfl) (Nat.le_of_ble_eq_true rfl) (fun v2 I2 P2 hP h => ?_)
  refine g_istore_n cx dX2_doCall_4 (Nat.le_of_ble_eq_true rfl) (Gx.L [.ref 114, .ref x1, .int v2, .float 0, .float 0] rfl ?_)
  refine g_aload_n cx dX2_doCall_5 rfl ?_
  refine g_getI cx lk_X2_34 rfl (Nat.le_of_ble_eq_true rfl) rfl dX2_doCall_6 (x := (I2 114 9)) rfl ?_
  refine g_bipush cx dX2_doCall_9 bp_12 ?_
  refine g_icmp_ge cx (tgt := 23) dX2_doCall_11 rfl (fun c3 => ?_) (fun c3 => ?_)
  · have h := zifp c3 h
    refine (Gx.unset 2 (Gx.L [.ref 114, .ref x1, .float 0, .float 0, .float 0] rfl ?_))
    exact gj_X2_doCall_23 cx hE hP h
  · have h := zifn c3 h
    refine g_iload_n cx dX2_doCall_14 rfl ?_
    refine g_aload_n cx dX2_doCall_15 rfl ?_
    refine g_getR cx lk_X2_59 rfl (Nat.le_of_ble_eq_true rfl) rfl dX2_doCall_16 (v := 19) (pst hP 116 rfl) ?_
    refine g_alen cx rfl (Nat.le_of_ble_eq_true rfl) (Nat.le_of_ble_eq_true rfl) dX2_doCall_19 ?_
    refine Gx.top 6 rfl ?_
    refine g_icmp_lt cx (tgt := 31) dX2_doCall_20 rfl (fun c4 => ?_) (fun c4 => ?_)
    · have h := zifp c4 h
      refine g_aload_n cx dX2_doCall_31 rfl ?_
      refine g_aload_n cx dX2_doCall_32 rfl ?_
      refine g_getR cx lk_X2_59 rfl (Nat.le_of_ble_eq_true rfl) rfl dX2_doCall_33 (v := 19) (pst hP 116 rfl) ?_
      refine g_iload_n cx dX2_doCall_36 rfl ?_
      obtain ⟨hc5, h⟩ := h
      obtain ⟨v6, hv7, h⟩ := h
      refine g_aald cx rfl (Nat.le_of_ble_eq_true rfl) (Nat.le_of_ble_eq_true rfl) hc5 hv7 dX2_doCall_37 ?_
      refine g_wVr cx [.ref v6] [] (e_X2_openFrame hP h) mt_X2_openFrame ml_X2_88 rfl rfl rfl dX2_doCall_38 rfl rfl (Nat.le_of_ble_eq_true rfl) (Nat.le_of_ble_eq_true rfl) (Nat.le_of_ble_eq_true rfl) (fun v8 I8 P8 hP h => ?_)
      refine g_astore_n cx dX2_doCall_41 (Nat.le_of_ble_eq_true rfl) (Gx.L [.ref 114, .ref x1, .int v2, .ref v8, .float 0] rfl ?_)
      refine g_aload_n cx dX2_doCall_42 rfl ?_
      refine g_getR cx lk_X2_59 rfl (Nat.le_of_ble_eq_true rfl) rfl dX2_doCall_43 (v := 19) (pst hP 116 rfl) ?_
      refine g_iload_n cx dX2_doCall_46 rfl ?_
      obtain ⟨hc9, h⟩ := h
      obtain ⟨v10, hv11, h⟩ := h
      refine g_aald cx rfl (Nat.le_of_ble_eq_true rfl) (Nat.le_of_ble_eq_true rfl) hc9 hv11 dX2_doCall_47 ?_
      obtain ⟨hs12, h⟩ := h
      refine g_getI cx lk_X2_92 hs12 (Nat.le_of_ble_eq_true rfl) rfl dX2_doCall_48 (x := (I8 v10 7)) rfl ?_
      refine g_iconst cx dX2_doCall_51 ic_1 ?_
      refine g_isub cx dX2_doCall_52 ?_
      refine g_istore cx dX2_doCall_53 (Nat.le_of_ble_eq_true rfl) (Gx.L [.ref 114, .ref x1, .int v2, .ref v8, .int ((I8 v10 7) - 1)] rfl ?_)
      refine (Gx.unset 2 (Gx.L [.ref 114, .ref x1, .float 0, .ref v8, .int ((I8 v10 7) - 1)] rfl ?_))
      obtain ⟨n9, h⟩ := h
      exact gl_X2_doCall_55 cx hE n9 _ _ _ _ _ hP h
    · have h := zifn c4 h
      refine (Gx.unset 2 (Gx.L [.ref 114, .ref x1, .float 0, .float 0, .float 0] rfl ?_))
      exact gj_X2_doCall_23 cx hE hP h
def w_X8_isBusyAt (o : Nat) (x1 : Int32) (I : zI) (P : zP) (K : Int32 → zI → zP → Prop) : Prop := if x1 < 0 then (K 0 I P) else (if 400 ≤ x1 then (K 0 I P) else (SHy[o]? = some (8, 11) ∧ (∃ v4, P o 3 = some v4 ∧ (SHy[v4]? = some (12, (zlen v4)) ∧ (vp_in x1 (zlen v4) ∧ (if (I v4 ((x1).toNatClampNeg)) = 0 then (K 0 I P) else (K 1 I P)))))))
theorem e_X8_isBusyAt {o : Nat} {x1 : Int32} {I : zI} {P : zP} {K : Int32 → zI → zP → Prop} (hP : PSt P) (h : w_X8_isBusyAt o x1 I P K) : Ev yX8_isBusyAt cX8_isBusyAt 2 (some .boolean) 0 0 0 0 [.ref o, .int x1] SHy I P (zKi K) := by
  refine Ev.start [.ref o, .int x1] pn_X8 rfl (Nat.le_of_ble_eq_true rfl) rfl (fun κ cx hE => ?_)
  unfold w_X8_isBusyAt at h
  refine g_iload_n cx dX8_isBusyAt_0 rfl ?_
  refine g_if_lt cx (tgt := 24) dX8_isBusyAt_1 rfl (fun c1 => ?_) (fun c1 => ?_)
  · have h := zifp c1 h
    refine g_iconst cx dX8_isBusyAt_24 ic_0 ?_
    exact g_wi cx hE dX8_isBusyAt_25 rfl rfl hP h
  · have h := zifn c1 h
    refine g_iload_n cx dX8_isBusyAt_4 rfl ?_
    refine g_sipush cx dX8_isBusyAt_5 sp_400 ?_
    refine g_icmp_ge cx (tgt := 24) dX8_isBusyAt_8 rfl (fun c2 => ?_) (fun c2 => ?_)
    · have h := zifp c2 h
      refine g_iconst cx dX8_isBusyAt_24 ic_0 ?_
      exact g_wi cx hE dX8_isBusyAt_25 rfl rfl hP h
    · have h := zifn c2 h
      refine g_aload_n cx dX8_isBusyAt_11 rfl ?_
      obtain ⟨hs3, h⟩ := h
      obtain ⟨v4, hv5, h⟩ := h
      refine g_getR cx lk_X8_21 hs3 (Nat.le_of_ble_eq_true rfl) rfl dX8_isBusyAt_12 hv5 ?_
      refine g_iload_n cx dX8_isBusyAt_15 rfl ?_
      obtain ⟨hs6, h⟩ := h
      obtain ⟨hc7, h⟩ := h
      refine g_bald cx dX8_isBusyAt_16 hs6 hc7 (x := (I v4 ((x1).toNatClampNeg))) rfl ?_
      refine g_if_eq cx (tgt := 24) dX8_isBusyAt_17 rfl (fun c8 => ?_) (fun c8 => ?_)
      · have h := zifp c8 h
        refine g_iconst cx dX8_isBusyAt_24 ic_0 ?_
        exact g_wi cx hE dX8_isBusyAt_25 rfl rfl hP h
      · have h := zifn c8 h
        refine g_iconst cx dX8_isBusyAt_20 ic_1 ?_
        refine g_goto cx (tgt := 25) dX8_isBusyAt_21 rfl ?_
        exact g_wi cx hE dX8_isBusyAt_25 rfl rfl hP h
def w_X2_isWatchedHere (x1 : Nat) (I : zI) (P : zP) (K : Int32 → zI → zP → Prop) : Prop := w_X2_isWatched x1 I P (fun (v1 : Int32) (I1 : zI) (P1 : zP) => (if v1 = 0 then (K 0 I1 P1) else (SHy[x1]? = some (0, 6) ∧ (∃ v4, P1 x1 3 = some v4 ∧ (SHy[v4]? = some (3, 11) ∧ (∃ v7, P1 v4 6 = some v7 ∧ (SHy[v7]? = some (8, 11) ∧ (w_X8_isBusyAt v7 (I1 x1 5) I1 P1 (fun (v10 : Int32) (I10 : zI) (P10 : zP) => (if v10 = 0 then (K 0 I10 P10) else (K 1 I10 P10)))))))))))
theorem e_X2_isWatchedHere {x1 : Nat} {I : zI} {P : zP} {K : Int32 → zI → zP → Prop} (hP : PSt P) (h : w_X2_isWatchedHere x1 I P K) : Ev yX2_isWatchedHere cX2_isWatchedHere 2 (some .boolean) 1 21 0 0 [.ref 114, .ref x1] SHy I P (zKi K) := by
  refine Ev.start [.ref 114, .ref x1] pn_X2 rfl (Nat.le_of_ble_eq_true rfl) rfl (fun κ cx hE => ?_)
  unfold w_X2_isWatchedHere at h
  refine g_aload_n cx dX2_isWatchedHere_0 rfl ?_
  refine g_aload_n cx dX2_isWatchedHere_1 rfl ?_
  refine g_wVi cx [.ref x1] [] (e_X2_isWatched hP h) mt_X2_isWatched ml_X2_306 rfl rfl rfl dX2_isWatchedHere_2 rfl rfl (Nat.le_of_ble_eq_true rfl) (Nat.le_of_ble_eq_true rfl) (Nat.le_of_ble_eq_true rfl) (fun v1 I1 P1 hP h => ?_)
  refine g_if_eq cx (tgt := 29) dX2_isWatchedHere_5 rfl (fun c2 => ?_) (fun c2 => ?_)
  · have h := zifp c2 h
    refine g_iconst cx dX2_isWatchedHere_29 ic_0 ?_
    exact g_wi cx hE dX2_isWatchedHere_30 rfl rfl hP h
  · have h := zifn c2 h
    refine g_aload_n cx dX2_isWatchedHere_8 rfl ?_
    obtain ⟨hs3, h⟩ := h
    obtain ⟨v4, hv5, h⟩ := h
    refine g_getR cx lk_X2_289 hs3 (Nat.le_of_ble_eq_true rfl) rfl dX2_isWatchedHere_9 hv5 ?_
    obtain ⟨hs6, h⟩ := h
    obtain ⟨v7, hv8, h⟩ := h
    refine g_getR cx lk_X2_130 hs6 (Nat.le_of_ble_eq_true rfl) rfl dX2_isWatchedHere_12 hv8 ?_
    refine g_aload_n cx dX2_isWatchedHere_15 rfl ?_
    refine g_getI cx lk_X2_150 hs3 (Nat.le_of_ble_eq_true rfl) rfl dX2_isWatchedHere_16 (x := (I1 x1 5)) rfl ?_
    obtain ⟨hs9, h⟩ := h
    refine g_wVi cx [.int (I1 x1 5)] [] (e_X8_isBusyAt hP h) mt_X8_isBusyAt ml_X2_309 hs9 rfl rfl dX2_isWatchedHere_19 rfl rfl (Nat.le_of_ble_eq_true rfl) (Nat.le_of_ble_eq_true rfl) (Nat.le_of_ble_eq_true rfl) (fun v10 I10 P10 hP h => ?_)
    refine g_if_eq cx (tgt := 29) dX2_isWatchedHere_22 rfl (fun c11 => ?_) (fun c11 => ?_)
    · have h := zifp c11 h
      refine g_iconst cx dX2_isWatchedHere_29 ic_0 ?_
      exact g_wi cx hE dX2_isWatchedHere_30 rfl rfl hP h
    · have h := zifn c11 h
      refine g_iconst cx dX2_isWatchedHere_25 ic_1 ?_
      refine g_goto cx (tgt := 30) dX2_isWatchedHere_26 rfl ?_
      exact g_wi cx hE dX2_isWatchedHere_30 rfl rfl hP h
def w_X2_noteStore (x1 : Int32) (I : zI) (P : zP) (K : zI → zP → Prop) : Prop := ∃ v1, P 114 6 = some v1 ∧ (SHy[v1]? = some (6, 13) ∧ (w_X6_addRecord v1 x1 (I 114 14) I P (fun (I4 : zI) (P4 : zP) => (∃ v5, P4 114 6 = some v5 ∧ (w_X2_cellInt (I4 114 13) I4 P4 (fun (v7 : Int32) (I7 : zI) (P7 : zP) => (SHy[v5]? = some (6, 13) ∧ (w_X6_addRecord v5 x1 v7 I7 P7 (fun (I9 : zI) (P9 : zP) => (K I9 P9))))))))))
theorem e_X2_noteStore {x1 : Int32} {I : zI} {P : zP} {K : zI → zP → Prop} (hP : PSt P) (h : w_X2_noteStore x1 I P K) : Ev yX2_noteStore cX2_noteStore 2 none 1 22 0 0 [.ref 114, .int x1] SHy I P (zKv K) := by
  refine Ev.start [.ref 114, .int x1] pn_X2 rfl (Nat.le_of_ble_eq_true rfl) rfl (fun κ cx hE => ?_)
  unfold w_X2_noteStore at h
  refine g_aload_n cx dX2_noteStore_0 rfl ?_
  obtain ⟨v1, hv2, h⟩ := h
  refine g_getR cx lk_X2_67 rfl (Nat.le_of_ble_eq_true rfl) rfl dX2_noteStore_1 hv2 ?_
  refine g_iload_n cx dX2_noteStore_4 rfl ?_
  refine g_aload_n cx dX2_noteStore_5 rfl ?_
  refine g_getI cx lk_X2_49 rfl (Nat.le_of_ble_eq_true rfl) rfl dX2_noteStore_6 (x := (I 114 14)) rfl ?_
  obtain ⟨hs3, h⟩ := h
  refine g_wVv cx [.int x1, .int (I 114 14)] [] (e_X6_addRecord hP h) mt_X6_addRecord ml_X2_324 hs3 rfl rfl dX2_noteStore_9 rfl rfl (Nat.le_of_ble_eq_true rfl) (Nat.le_of_ble_eq_true rfl) (Nat.le_of_ble_eq_true rfl) (fun I4 P4 hP h => ?_)
  refine g_aload_n cx dX2_noteStore_12 rfl ?_
  obtain ⟨v5, hv6, h⟩ := h
  refine g_getR cx lk_X2_67 rfl (Nat.le_of_ble_eq_true rfl) rfl dX2_noteStore_13 hv6 ?_
  refine g_iload_n cx dX2_noteStore_16 rfl ?_
  refine g_aload_n cx dX2_noteStore_17 rfl ?_
  refine g_aload_n cx dX2_noteStore_18 rfl ?_
  refine g_getI cx lk_X2_46 rfl (Nat.le_of_ble_eq_true rfl) rfl dX2_noteStore_19 (x := (I4 114 13)) rfl ?_
  refine g_wVi cx [.int (I4 114 13)] [.int x1, .ref v5] (e_X2_cellInt hP h) mt_X2_cellInt ml_X2_256 rfl rfl rfl dX2_noteStore_22 rfl rfl (Nat.le_of_ble_eq_true rfl) (Nat.le_of_ble_eq_true rfl) (Nat.le_of_ble_eq_true rfl) (fun v7 I7 P7 hP h => ?_)
  obtain ⟨hs8, h⟩ := h
  refine g_wVv cx [.int x1, .int v7] [] (e_X6_addRecord hP h) mt_X6_addRecord ml_X2_324 hs8 rfl rfl dX2_noteStore_25 rfl rfl (Nat.le_of_ble_eq_true rfl) (Nat.le_of_ble_eq_true rfl) (Nat.le_of_ble_eq_true rfl) (fun I9 P9 hP h => ?_)
  exact g_wv cx hE dX2_noteStore_28 rfl hP h
def w_X4_xOf (x1 : Int32) (I : zI) (P : zP) (K : Int32 → zI → zP → Prop) : Prop := if x1 < 0 then (K 0 I P) else (if 24 ≤ x1 then (K 0 I P) else (vp_in x1 24 ∧ (K (I 112 ((x1).toNatClampNeg)) I P)))
theorem e_X4_xOf {x1 : Int32} {I : zI} {P : zP} {K : Int32 → zI → zP → Prop} (hP : PSt P) (h : w_X4_xOf x1 I P K) : Ev yX4_xOf cX4_xOf 2 (some .int) 0 0 0 0 [.ref 108, .int x1] SHy I P (zKi K) := by
  refine Ev.start [.ref 108, .int x1] pn_X4 rfl (Nat.le_of_ble_eq_true rfl) rfl (fun κ cx hE => ?_)
  unfold w_X4_xOf at h
  refine g_iload_n cx dX4_xOf_0 rfl ?_
  refine g_if_lt cx (tgt := 19) dX4_xOf_1 rfl (fun c1 => ?_) (fun c1 => ?_)
  · have h := zifp c1 h
    refine g_iconst cx dX4_xOf_19 ic_0 ?_
    exact g_wi cx hE dX4_xOf_20 rfl rfl hP h
  · have h := zifn c1 h
    refine g_iload_n cx dX4_xOf_4 rfl ?_
    refine g_bipush cx dX4_xOf_5 bp_24 ?_
    refine g_icmp_ge cx (tgt := 19) dX4_xOf_7 rfl (fun c2 => ?_) (fun c2 => ?_)
    · have h := zifp c2 h
      refine g_iconst cx dX4_xOf_19 ic_0 ?_
      exact g_wi cx hE dX4_xOf_20 rfl rfl hP h
    · have h := zifn c2 h
      refine g_aload_n cx dX4_xOf_10 rfl ?_
      refine g_getR cx lk_X4_21 rfl (Nat.le_of_ble_eq_true rfl) rfl dX4_xOf_11 (v := 112) (pst hP 107 rfl) ?_
      refine g_iload_n cx dX4_xOf_14 rfl ?_
      obtain ⟨hc3, h⟩ := h
      refine g_iald cx dX4_xOf_15 rfl hc3 (x := (I 112 ((x1).toNatClampNeg))) rfl ?_
      refine g_goto cx (tgt := 20) dX4_xOf_16 rfl ?_
      exact g_wi cx hE dX4_xOf_20 rfl rfl hP h
def w_X2_replaceTop (x1 : Nat) (x2 : Int32) (I : zI) (P : zP) (K : zI → zP → Prop) : Prop := ∃ v1, P 114 6 = some v1 ∧ (SHy[x1]? = some (0, 6) ∧ (w_X0_pop x1 I P (fun (v4 : Int32) (I4 : zI) (P4 : zP) => (SHy[v1]? = some (6, 13) ∧ (w_X6_addRecord v1 x2 v4 I4 P4 (fun (I6 : zI) (P6 : zP) => (w_X4_xOf x2 I6 P6 (fun (v7 : Int32) (I7 : zI) (P7 : zP) => (w_X0_push x1 v7 I7 P7 (fun (I8 : zI) (P8 : zP) => (K I8 P8)))))))))))
theorem e_X2_replaceTop {x1 : Nat} {x2 : Int32} {I : zI} {P : zP} {K : zI → zP → Prop} (hP : PSt P) (h : w_X2_replaceTop x1 x2 I P K) : Ev yX2_replaceTop cX2_replaceTop 3 none 1 22 0 0 [.ref 114, .ref x1, .int x2] SHy I P (zKv K) := by
  refine Ev.start [.ref 114, .ref x1, .int x2] pn_X2 rfl (Nat.le_of_ble_eq_true rfl) rfl (fun κ cx hE => ?_)
  unfold w_X2_replaceTop at h
  refine g_aload_n cx dX2_replaceTop_0 rfl ?_
  obtain ⟨v1, hv2, h⟩ := h
  refine g_getR cx lk_X2_67 rfl (Nat.le_of_ble_eq_true rfl) rfl dX2_replaceTop_1 hv2 ?_
  refine g_iload_n cx dX2_replaceTop_4 rfl ?_
  refine g_aload_n cx dX2_replaceTop_5 rfl ?_
  obtain ⟨hs3, h⟩ := h
  refine g_wVi cx [] [.int x2, .ref v1] (e_X0_pop hP h) mt_X0_pop ml_X2_215 hs3 rfl rfl dX2_replaceTop_6 rfl rfl (Nat.le_of_ble_eq_true rfl) (Nat.le_of_ble_eq_true rfl) (Nat.le_of_ble_eq_true rfl) (fun v4 I4 P4 hP h => ?_)
  obtain ⟨hs5, h⟩ := h
  refine g_wVv cx [.int x2, .int v4] [] (e_X6_addRecord hP h) mt_X6_addRecord ml_X2_324 hs5 rfl rfl dX2_replaceTop_9 rfl rfl (Nat.le_of_ble_eq_true rfl) (Nat.le_of_ble_eq_true rfl) (Nat.le_of_ble_eq_true rfl) (fun I6 P6 hP h => ?_)
  refine g_aload_n cx dX2_replaceTop_12 rfl ?_
  refine g_aload_n cx dX2_replaceTop_13 rfl ?_
  refine g_getR cx lk_X2_63 rfl (Nat.le_of_ble_eq_true rfl) rfl dX2_replaceTop_14 (v := 108) (pst hP 117 rfl) ?_
  refine g_iload_n cx dX2_replaceTop_17 rfl ?_
  refine g_wVi cx [.int x2] [.ref x1] (e_X4_xOf hP h) mt_X4_xOf ml_X2_345 rfl rfl rfl dX2_replaceTop_18 rfl rfl (Nat.le_of_ble_eq_true rfl) (Nat.le_of_ble_eq_true rfl) (Nat.le_of_ble_eq_true rfl) (fun v7 I7 P7 hP h => ?_)
  refine g_wVv cx [.int v7] [] (e_X0_push hP h) mt_X0_push ml_X2_233 hs3 rfl rfl dX2_replaceTop_21 rfl rfl (Nat.le_of_ble_eq_true rfl) (Nat.le_of_ble_eq_true rfl) (Nat.le_of_ble_eq_true rfl) (fun I8 P8 hP h => ?_)
  exact g_wv cx hE dX2_replaceTop_24 rfl hP h
def l_X2_passBehind_11 (K : zI → zP → Prop) : Nat → Nat → Int32 → zI → zP → Prop
  | 0, _, _, _, _ => False
  | n + 1, y1, y2, I, P => SHy[y1]? = some (0, 6) ∧ (∃ v2, P y1 3 = some v2 ∧ (SHy[v2]? = some (3, 11) ∧ (∃ v5, P v2 6 = some v5 ∧ (SHy[v5]? = some (8, 11) ∧ (if (I v5 10) ≤ y2 then (K I P) else (∃ v9, P y1 3 = some v9 ∧ (SHy[v9]? = some (3, 11) ∧ (w_X4_isAt y2 (I v9 0) (I y1 5) I P (fun (v12 : Int32) (I12 : zI) (P12 : zP) => (if v12 = 0 then ((l_X2_passBehind_11 K n) y1 (y2 + 1) I12 P12) else (w_X4_sortOf y2 I12 P12 (fun (v14 : Int32) (I14 : zI) (P14 : zP) => (if v14 = 1 then (∃ v16, P14 114 6 = some v16 ∧ (if (I14 114 15) = 0 then (SHy[v16]? = some (6, 13) ∧ (w_X6_addRecord v16 y2 0 I14 P14 (fun (I20 : zI) (P20 : zP) => ((l_X2_passBehind_11 K n) y1 (y2 + 1) I20 P20)))) else (SHy[v16]? = some (6, 13) ∧ (w_X6_addRecord v16 y2 1 I14 P14 (fun (I22 : zI) (P22 : zP) => ((l_X2_passBehind_11 K n) y1 (y2 + 1) I22 P22)))))) else (if v14 = 4 then (w_X2_noteStore y2 I14 P14 (fun (I24 : zI) (P24 : zP) => ((l_X2_passBehind_11 K n) y1 (y2 + 1) I24 P24))) else (if v14 = 7 then (w_X2_replaceTop y1 y2 I14 P14 (fun (I26 : zI) (P26 : zP) => ((l_X2_passBehind_11 K n) y1 (y2 + 1) I26 P26))) else ((l_X2_passBehind_11 K n) y1 (y2 + 1) I14 P14))))))))))))))))
theorem gl_X2_passBehind_11 {κ : zX} (cx : Cx yX2_passBehind cX2_passBehind 3 none 2 44 κ) {K : zI → zP → Prop} (hE : zEnd (zKv K) 0 0 κ) : ∀ (n : Nat) (y1 : Nat) (y2 : Int32) (I : zI) (P : zP), PSt P → l_X2_passBehind_11 K n y1 y2 I P → Gx κ 11 [.ref 114, .ref y1, .int y2] [] SHy I P 0 0 := by
  intro n
  induction n with
  | zero =>
    intro y1 y2 I P hP h
    rw [l_X2_passBehind_11] at h
    exact False.elim h
  | succ n ih =>
    intro y1 y2 I P hP h
    rw [l_X2_passBehind_11] at h
    refine g_iload_n cx dX2_passBehind_11 rfl ?_
    refine g_aload_n cx dX2_passBehind_12 rfl ?_
    obtain ⟨hs1, h⟩ := h
    obtain ⟨v2, hv3, h⟩ := h
    refine g_getR cx lk_X2_289 hs1 (Nat.le_of_ble_eq_true rfl) rfl dX2_passBehind_13 hv3 ?_
    obtain ⟨hs4, h⟩ := h
    obtain ⟨v5, hv6, h⟩ := h
    refine g_getR cx lk_X2_130 hs4 (Nat.le_of_ble_eq_true rfl) rfl dX2_passBehind_16 hv6 ?_
    obtain ⟨hs7, h⟩ := h
    refine g_getI cx lk_X2_312 hs7 (Nat.le_of_ble_eq_true rfl) rfl dX2_passBehind_19 (x := (I v5 10)) rfl ?_
    refine g_icmp_ge cx (tgt := 134) dX2_passBehind_22 rfl (fun c8 => ?_) (fun c8 => ?_)
    · have h := zifp c8 h
      exact g_wv cx hE dX2_passBehind_134 rfl hP h
    · have h := zifn c8 h
      refine g_aload_n cx dX2_passBehind_25 rfl ?_
      refine g_getR cx lk_X2_63 rfl (Nat.le_of_ble_eq_true rfl) rfl dX2_passBehind_26 (v := 108) (pst hP 117 rfl) ?_
      refine g_iload_n cx dX2_passBehind_29 rfl ?_
      refine g_aload_n cx dX2_passBehind_30 rfl ?_
      obtain ⟨v9, hv10, h⟩ := h
      refine g_getR cx lk_X2_289 hs1 (Nat.le_of_ble_eq_true rfl) rfl dX2_passBehind_31 hv10 ?_
      obtain ⟨hs11, h⟩ := h
      refine g_getI cx lk_X2_293 hs11 (Nat.le_of_ble_eq_true rfl) rfl dX2_passBehind_34 (x := (I v9 0)) rfl ?_
      refine g_aload_n cx dX2_passBehind_37 rfl ?_
      refine g_getI cx lk_X2_150 hs1 (Nat.le_of_ble_eq_true rfl) rfl dX2_passBehind_38 (x := (I y1 5)) rfl ?_
      refine g_wVi cx [.int y2, .int (I v9 0), .int (I y1 5)] [] (e_X4_isAt hP h) mt_X4_isAt ml_X2_320 rfl rfl rfl dX2_passBehind_41 rfl rfl (Nat.le_of_ble_eq_true rfl) (Nat.le_of_ble_eq_true rfl) (Nat.le_of_ble_eq_true rfl) (fun v12 I12 P12 hP h => ?_)
      refine g_if_eq cx (tgt := 128) dX2_passBehind_44 rfl (fun c13 => ?_) (fun c13 => ?_)
      · have h := zifp c13 h
        refine g_iinc cx (v := (y2 + 1)) dX2_passBehind_128 rfl rfl (Nat.le_of_ble_eq_true rfl) (Gx.L [.ref 114, .ref y1, .int (y2 + 1)] rfl ?_)
        refine g_goto cx (tgt := 11) dX2_passBehind_131 rfl ?_
        exact ih _ _ _ _ hP h
      · have h := zifn c13 h
        refine g_aload_n cx dX2_passBehind_47 rfl ?_
        refine g_getR cx lk_X2_63 rfl (Nat.le_of_ble_eq_true rfl) rfl dX2_passBehind_48 (v := 108) (pst hP 117 rfl) ?_
        refine g_iload_n cx dX2_passBehind_51 rfl ?_
        refine g_wVi cx [.int y2] [] (e_X4_sortOf hP h) mt_X4_sortOf ml_X2_315 rfl rfl rfl dX2_passBehind_52 rfl rfl (Nat.le_of_ble_eq_true rfl) (Nat.le_of_ble_eq_true rfl) (Nat.le_of_ble_eq_true rfl) (fun v14 I14 P14 hP h => ?_)
        by_cases c15 : v14 = 1
        · have h := zifp c15 h
          refine g_lookup cx (tgt := 88) (off := 33) dX2_passBehind_55 (by decide) (by rw [c15]; decide) rfl ?_
          refine g_aload_n cx dX2_passBehind_88 rfl ?_
          obtain ⟨v16, hv17, h⟩ := h
          refine g_getR cx lk_X2_67 rfl (Nat.le_of_ble_eq_true rfl) rfl dX2_passBehind_89 hv17 ?_
          refine g_iload_n cx dX2_passBehind_92 rfl ?_
          refine g_aload_n cx dX2_passBehind_93 rfl ?_
          refine g_getI cx lk_X2_52 rfl (Nat.le_of_ble_eq_true rfl) rfl dX2_passBehind_94 (x := (I14 114 15)) rfl ?_
          refine g_if_eq cx (tgt := 104) dX2_passBehind_97 rfl (fun c18 => ?_) (fun c18 => ?_)
          · have h := zifp c18 h
            refine g_iconst cx dX2_passBehind_104 ic_0 ?_
            obtain ⟨hs19, h⟩ := h
            refine g_wVv cx [.int y2, .int 0] [] (e_X6_addRecord hP h) mt_X6_addRecord ml_X2_324 hs19 rfl rfl dX2_passBehind_105 rfl rfl (Nat.le_of_ble_eq_true rfl) (Nat.le_of_ble_eq_true rfl) (Nat.le_of_ble_eq_true rfl) (fun I20 P20 hP h => ?_)
            refine g_goto cx (tgt := 128) dX2_passBehind_108 rfl ?_
            refine g_iinc cx (v := (y2 + 1)) dX2_passBehind_128 rfl rfl (Nat.le_of_ble_eq_true rfl) (Gx.L [.ref 114, .ref y1, .int (y2 + 1)] rfl ?_)
            refine g_goto cx (tgt := 11) dX2_passBehind_131 rfl ?_
            exact ih _ _ _ _ hP h
          · have h := zifn c18 h
            refine g_iconst cx dX2_passBehind_100 ic_1 ?_
            refine g_goto cx (tgt := 105) dX2_passBehind_101 rfl ?_
            obtain ⟨hs21, h⟩ := h
            refine g_wVv cx [.int y2, .int 1] [] (e_X6_addRecord hP h) mt_X6_addRecord ml_X2_324 hs21 rfl rfl dX2_passBehind_105 rfl rfl (Nat.le_of_ble_eq_true rfl) (Nat.le_of_ble_eq_true rfl) (Nat.le_of_ble_eq_true rfl) (fun I22 P22 hP h => ?_)
            refine g_goto cx (tgt := 128) dX2_passBehind_108 rfl ?_
            refine g_iinc cx (v := (y2 + 1)) dX2_passBehind_128 rfl rfl (Nat.le_of_ble_eq_true rfl) (Gx.L [.ref 114, .ref y1, .int (y2 + 1)] rfl ?_)
            refine g_goto cx (tgt := 11) dX2_passBehind_131 rfl ?_
            exact ih _ _ _ _ hP h
        · have h := zifn c15 h
          by_cases c23 : v14 = 4
          · have h := zifp c23 h
            refine g_lookup cx (tgt := 111) (off := 56) dX2_passBehind_55 (by decide) (by rw [c23]; decide) rfl ?_
            refine g_aload_n cx dX2_passBehind_111 rfl ?_
            refine g_iload_n cx dX2_passBehind_112 rfl ?_
            refine g_wVv cx [.int y2] [] (e_X2_noteStore hP h) mt_X2_noteStore ml_X2_339 rfl rfl rfl dX2_passBehind_113 rfl rfl (Nat.le_of_ble_eq_true rfl) (Nat.le_of_ble_eq_true rfl) (Nat.le_of_ble_eq_true rfl) (fun I24 P24 hP h => ?_)
            refine g_goto cx (tgt := 128) dX2_passBehind_116 rfl ?_
            refine g_iinc cx (v := (y2 + 1)) dX2_passBehind_128 rfl rfl (Nat.le_of_ble_eq_true rfl) (Gx.L [.ref 114, .ref y1, .int (y2 + 1)] rfl ?_)
            refine g_goto cx (tgt := 11) dX2_passBehind_131 rfl ?_
            exact ih _ _ _ _ hP h
          · have h := zifn c23 h
            by_cases c25 : v14 = 7
            · have h := zifp c25 h
              refine g_lookup cx (tgt := 119) (off := 64) dX2_passBehind_55 (by decide) (by rw [c25]; decide) rfl ?_
              refine g_aload_n cx dX2_passBehind_119 rfl ?_
              refine g_aload_n cx dX2_passBehind_120 rfl ?_
              refine g_iload_n cx dX2_passBehind_121 rfl ?_
              refine g_wVv cx [.ref y1, .int y2] [] (e_X2_replaceTop hP h) mt_X2_replaceTop ml_X2_342 rfl rfl rfl dX2_passBehind_122 rfl rfl (Nat.le_of_ble_eq_true rfl) (Nat.le_of_ble_eq_true rfl) (Nat.le_of_ble_eq_true rfl) (fun I26 P26 hP h => ?_)
              refine g_goto cx (tgt := 128) dX2_passBehind_125 rfl ?_
              refine g_iinc cx (v := (y2 + 1)) dX2_passBehind_128 rfl rfl (Nat.le_of_ble_eq_true rfl) (Gx.L [.ref 114, .ref y1, .int (y2 + 1)] rfl ?_)
              refine g_goto cx (tgt := 11) dX2_passBehind_131 rfl ?_
              exact ih _ _ _ _ hP h
            · have h := zifn c25 h
              refine g_lookup cx (tgt := 128) (off := 73) dX2_passBehind_55 (by decide) (by have q0 : (v14 : Int32).toInt ≠ 1 := i32ne c15; have q1 : (v14 : Int32).toInt ≠ 4 := i32ne c23; have q2 : (v14 : Int32).toInt ≠ 7 := i32ne c25; show Op.lookupswitch.offset [(1, 33), (4, 56), (7, 64)] 73 _ = _; (repeat (rw [Op.lookupswitch.offset_cons, if_neg (by omega)])); rfl) rfl ?_
              refine g_iinc cx (v := (y2 + 1)) dX2_passBehind_128 rfl rfl (Nat.le_of_ble_eq_true rfl) (Gx.L [.ref 114, .ref y1, .int (y2 + 1)] rfl ?_)
              refine g_goto cx (tgt := 11) dX2_passBehind_131 rfl ?_
              exact ih _ _ _ _ hP h
def w_X2_passBehind (x1 : Nat) (I : zI) (P : zP) (K : zI → zP → Prop) : Prop := w_X2_isWatchedHere x1 I P (fun (v1 : Int32) (I1 : zI) (P1 : zP) => (if v1 = 0 then (K I1 P1) else (∃ n9, l_X2_passBehind_11 K n9 x1 0 I1 P1)))
theorem e_X2_passBehind {x1 : Nat} {I : zI} {P : zP} {K : zI → zP → Prop} (hP : PSt P) (h : w_X2_passBehind x1 I P K) : Ev yX2_passBehind cX2_passBehind 3 none 2 44 0 0 [.ref 114, .ref x1] SHy I P (zKv K) := by
  refine Ev.start [.ref 114, .ref x1, .float 0] pn_X2 rfl (Nat.le_of_ble_eq_true rfl) rfl (fun κ cx hE => ?_)
  unfold w_X2_passBehind at h
  refine g_aload_n cx dX2_passBehind_0 rfl ?_
  refine g_aload_n cx dX2_passBehind_1 rfl ?_
  refine g_wVi cx [.ref x1] [] (e_X2_isWatchedHere hP h) mt_X2_isWatchedHere ml_X2_195 rfl rfl rfl dX2_passBehind_2 rfl rfl (Nat.le_of_ble_eq_true rfl) (Nat.le_of_ble_eq_true rfl) (Nat.le_of_ble_eq_true rfl) (fun v1 I1 P1 hP h => ?_)
  refine g_if_ne cx (tgt := 9) dX2_passBehind_5 rfl (fun c2 => ?_) (fun c2 => ?_)
  · have h := zifn c2 h
    refine g_iconst cx dX2_passBehind_9 ic_0 ?_
    refine g_istore_n cx dX2_passBehind_10 (Nat.le_of_ble_eq_true rfl) (Gx.L [.ref 114, .ref x1, .int 0] rfl ?_)
    obtain ⟨n9, h⟩ := h
    exact gl_X2_passBehind_11 cx hE n9 _ _ _ _ hP h
  · have h := zifp c2 h
    exact g_wv cx hE dX2_passBehind_8 rfl hP h
def w_X9_fixedSize (x1 : Int32) (I : zI) (P : zP) (K : Int32 → zI → zP → Prop) : Prop := w_X9_isLongJump x1 I P (fun (v1 : Int32) (I1 : zI) (P1 : zP) => (if v1 = 0 then (if x1 < 0 then (K 0 I1 P1) else (if 44 ≤ x1 then (K 0 I1 P1) else (vp_in x1 44 ∧ (K (zT0 x1) I1 P1)))) else (K 3 I1 P1)))
theorem e_X9_fixedSize {x1 : Int32} {I : zI} {P : zP} {K : Int32 → zI → zP → Prop} (hP : PSt P) (h : w_X9_fixedSize x1 I P K) : Ev yX9_fixedSize cX9_fixedSize 1 (some .int) 1 20 0 0 [.int x1] SHy I P (zKi K) := by
  refine Ev.start [.int x1] pn_X9 rfl (Nat.le_of_ble_eq_true rfl) rfl (fun κ cx hE => ?_)
  unfold w_X9_fixedSize at h
  refine g_iload_n cx dX9_fixedSize_0 rfl ?_
  refine g_wSi cx [.int x1] [] (e_X9_isLongJump hP h) mt_X9_isLongJump ml_X9_207 dX9_fixedSize_1 rfl rfl (Nat.le_of_ble_eq_true rfl) (Nat.le_of_ble_eq_true rfl) (Nat.le_of_ble_eq_true rfl) (fun v1 I1 P1 hP h => ?_)
  refine g_if_eq cx (tgt := 9) dX9_fixedSize_4 rfl (fun c2 => ?_) (fun c2 => ?_)
  · have h := zifp c2 h
    refine g_iload_n cx dX9_fixedSize_9 rfl ?_
    refine g_if_lt cx (tgt := 29) dX9_fixedSize_10 rfl (fun c3 => ?_) (fun c3 => ?_)
    · have h := zifp c3 h
      refine g_iconst cx dX9_fixedSize_29 ic_0 ?_
      exact g_wi cx hE dX9_fixedSize_30 rfl rfl hP h
    · have h := zifn c3 h
      refine g_iload_n cx dX9_fixedSize_13 rfl ?_
      refine g_gets cx (i := 0) rfl sk_X9_213 dX9_fixedSize_14 ?_
      refine g_tlen cx (i := 0) rfl dX9_fixedSize_17 (Gx.top 44 rfl ?_)
      refine g_icmp_ge cx (tgt := 29) dX9_fixedSize_18 rfl (fun c4 => ?_) (fun c4 => ?_)
      · have h := zifp c4 h
        refine g_iconst cx dX9_fixedSize_29 ic_0 ?_
        exact g_wi cx hE dX9_fixedSize_30 rfl rfl hP h
      · have h := zifn c4 h
        refine g_gets cx (i := 0) rfl sk_X9_213 dX9_fixedSize_21 ?_
        refine g_iload_n cx dX9_fixedSize_24 rfl ?_
        obtain ⟨hc5, h⟩ := h
        refine g_tld cx (i := 0) rfl (show vp_in _ _ from hc5) dX9_fixedSize_25 ?_
        refine g_goto cx (tgt := 30) dX9_fixedSize_26 rfl ?_
        exact g_wi cx hE dX9_fixedSize_30 rfl rfl hP h
  · have h := zifn c2 h
    refine g_iconst cx dX9_fixedSize_7 ic_3 ?_
    exact g_wi cx hE dX9_fixedSize_8 rfl rfl hP h
def j_X2_doGive_32 (K : zI → zP → Prop) (y2 : Int32) (I : zI) (P : zP) : Prop := ∃ v1, P 114 6 = some v1 ∧ (SHy[v1]? = some (6, 13) ∧ (∃ v4, P 114 6 = some v4 ∧ (SHy[v4]? = some (6, 13) ∧ (K (zu (zu I v1 4 0) v4 5 y2) P))))
theorem gj_X2_doGive_32 {κ : zX} (cx : Cx yX2_doGive cX2_doGive 4 none 3 66 κ) {K : zI → zP → Prop} (hE : zEnd (zKv K) 0 0 κ) {y2 : Int32} {I : zI} {P : zP} (hP : PSt P) (h : j_X2_doGive_32 K y2 I P) : Gx κ 32 [.ref 114, .float 0, .int y2, .float 0] [] SHy I P 0 0 := by
  unfold j_X2_doGive_32 at h
  refine g_aload_n cx dX2_doGive_32 rfl ?_
  obtain ⟨v1, hv2, h⟩ := h
  refine g_getR cx lk_X2_67 rfl (Nat.le_of_ble_eq_true rfl) rfl dX2_doGive_33 hv2 ?_
  refine g_iconst cx dX2_doGive_36 ic_0 ?_
  obtain ⟨hs3, h⟩ := h
  refine g_pI cx lk_X2_106 hs3 (Nat.le_of_ble_eq_true rfl) rfl dX2_doGive_37 fi_6_4 rfl rfl ?_
  refine g_aload_n cx dX2_doGive_40 rfl ?_
  obtain ⟨v4, hv5, h⟩ := h
  refine g_getR cx lk_X2_67 rfl (Nat.le_of_ble_eq_true rfl) rfl dX2_doGive_41 hv5 ?_
  refine g_iload_n cx dX2_doGive_44 rfl ?_
  obtain ⟨hs6, h⟩ := h
  refine g_pI cx lk_X2_283 hs6 (Nat.le_of_ble_eq_true rfl) rfl dX2_doGive_45 fi_6_5 rfl rfl ?_
  exact g_wv cx hE dX2_doGive_48 rfl hP h
def w_X2_doGive (x1 : Nat) (I : zI) (P : zP) (K : zI → zP → Prop) : Prop := SHy[x1]? = some (0, 6) ∧ (w_X0_pop x1 I P (fun (v2 : Int32) (I2 : zI) (P2 : zP) => (if ((I2 114 9) - 1) < 1 then (j_X2_doGive_32 K v2 (zu I2 114 9 ((I2 114 9) - 1)) P2) else (if ((I2 114 9) - 1) ≤ 12 then (vp_in (((I2 114 9) - 1) - 1) 12 ∧ (∃ v6, P2 115 ((((I2 114 9) - 1) - 1)).toNatClampNeg = some v6 ∧ (SHy[v6]? = some (0, 6) ∧ (w_X0_push v6 v2 (zu I2 114 9 ((I2 114 9) - 1)) P2 (fun (I9 : zI) (P9 : zP) => (w_X2_passBehind v6 I9 P9 (fun (I10 : zI) (P10 : zP) => (w_X9_fixedSize 40 I10 P10 (fun (v11 : Int32) (I11 : zI) (P11 : zP) => (K (zu I11 v6 5 ((I10 v6 5) + v11)) P11)))))))))) else (j_X2_doGive_32 K v2 (zu I2 114 9 ((I2 114 9) - 1)) P2)))))
theorem e_X2_doGive {x1 : Nat} {I : zI} {P : zP} {K : zI → zP → Prop} (hP : PSt P) (h : w_X2_doGive x1 I P K) : Ev yX2_doGive cX2_doGive 4 none 3 66 0 0 [.ref 114, .ref x1] SHy I P (zKv K) := by
  refine Ev.start [.ref 114, .ref x1, .float 0, .float 0] pn_X2 rfl (Nat.le_of_ble_eq_true rfl) rfl (fun κ cx hE => ?_)
  unfold w_X2_doGive at h
  refine g_aload_n cx dX2_doGive_0 rfl ?_
  obtain ⟨hs1, h⟩ := h
  refine g_wVi cx [] [] (e_X0_pop hP h) mt_X0_pop ml_X2_215 hs1 rfl rfl dX2_doGive_1 rfl rfl (Nat.le_of_ble_eq_true rfl) (Nat.le_of_ble_eq_true rfl) (Nat.le_of_ble_eq_true rfl) (fun v2 I2 P2 hP h => ?_)
  refine g_istore_n cx dX2_doGive_4 (Nat.le_of_ble_eq_true rfl) (Gx.L [.ref 114, .ref x1, .int v2, .float 0] rfl ?_)
  refine g_aload_n cx dX2_doGive_5 rfl ?_
  refine g_dup cx dX2_doGive_6 rfl ?_
  refine g_getI cx lk_X2_34 rfl (Nat.le_of_ble_eq_true rfl) rfl dX2_doGive_7 (x := (I2 114 9)) rfl ?_
  refine g_iconst cx dX2_doGive_10 ic_1 ?_
  refine g_isub cx dX2_doGive_11 ?_
  refine g_pI cx lk_X2_34 rfl (Nat.le_of_ble_eq_true rfl) rfl dX2_doGive_12 fi_2_9 rfl rfl ?_
  refine g_aload_n cx dX2_doGive_15 rfl ?_
  refine g_getI cx lk_X2_34 rfl (Nat.le_of_ble_eq_true rfl) rfl dX2_doGive_16 (x := ((I2 114 9) - 1)) rfl ?_
  refine g_iconst cx dX2_doGive_19 ic_1 ?_
  refine g_icmp_lt cx (tgt := 32) dX2_doGive_20 rfl (fun c3 => ?_) (fun c3 => ?_)
  · have h := zifp c3 h
    refine (Gx.unset 1 (Gx.L [.ref 114, .float 0, .int v2, .float 0] rfl ?_))
    exact gj_X2_doGive_32 cx hE hP h
  · have h := zifn c3 h
    refine g_aload_n cx dX2_doGive_23 rfl ?_
    refine g_getI cx lk_X2_34 rfl (Nat.le_of_ble_eq_true rfl) rfl dX2_doGive_24 (x := ((I2 114 9) - 1)) rfl ?_
    refine g_bipush cx dX2_doGive_27 bp_12 ?_
    refine g_icmp_le cx (tgt := 49) dX2_doGive_29 rfl (fun c4 => ?_) (fun c4 => ?_)
    · have h := zifp c4 h
      refine g_aload_n cx dX2_doGive_49 rfl ?_
      refine g_getR cx lk_X2_11 rfl (Nat.le_of_ble_eq_true rfl) rfl dX2_doGive_50 (v := 115) (pst hP 112 rfl) ?_
      refine g_aload_n cx dX2_doGive_53 rfl ?_
      refine g_getI cx lk_X2_34 rfl (Nat.le_of_ble_eq_true rfl) rfl dX2_doGive_54 (x := ((I2 114 9) - 1)) rfl ?_
      refine g_iconst cx dX2_doGive_57 ic_1 ?_
      refine g_isub cx dX2_doGive_58 ?_
      obtain ⟨hc5, h⟩ := h
      obtain ⟨v6, hv7, h⟩ := h
      refine g_aald cx rfl (Nat.le_of_ble_eq_true rfl) (Nat.le_of_ble_eq_true rfl) hc5 hv7 dX2_doGive_59 ?_
      refine g_astore_n cx dX2_doGive_60 (Nat.le_of_ble_eq_true rfl) (Gx.L [.ref 114, .ref x1, .int v2, .ref v6] rfl ?_)
      refine g_aload_n cx dX2_doGive_61 rfl ?_
      refine g_iload_n cx dX2_doGive_62 rfl ?_
      obtain ⟨hs8, h⟩ := h
      refine g_wVv cx [.int v2] [] (e_X0_push hP h) mt_X0_push ml_X2_233 hs8 rfl rfl dX2_doGive_63 rfl rfl (Nat.le_of_ble_eq_true rfl) (Nat.le_of_ble_eq_true rfl) (Nat.le_of_ble_eq_true rfl) (fun I9 P9 hP h => ?_)
      refine g_aload_n cx dX2_doGive_66 rfl ?_
      refine g_aload_n cx dX2_doGive_67 rfl ?_
      refine g_wVv cx [.ref v6] [] (e_X2_passBehind hP h) mt_X2_passBehind ml_X2_224 rfl rfl rfl dX2_doGive_68 rfl rfl (Nat.le_of_ble_eq_true rfl) (Nat.le_of_ble_eq_true rfl) (Nat.le_of_ble_eq_true rfl) (fun I10 P10 hP h => ?_)
      refine g_aload_n cx dX2_doGive_71 rfl ?_
      refine g_dup cx dX2_doGive_72 rfl ?_
      refine g_getI cx lk_X2_150 hs8 (Nat.le_of_ble_eq_true rfl) rfl dX2_doGive_73 (x := (I10 v6 5)) rfl ?_
      refine g_bipush cx dX2_doGive_76 bp_40 ?_
      refine g_wSi cx [.int 40] [.int (I10 v6 5), .ref v6] (e_X9_fixedSize hP h) mt_X9_fixedSize ml_X2_286 dX2_doGive_78 rfl rfl (Nat.le_of_ble_eq_true rfl) (Nat.le_of_ble_eq_true rfl) (Nat.le_of_ble_eq_true rfl) (fun v11 I11 P11 hP h => ?_)
      refine g_iadd cx dX2_doGive_81 ?_
      refine g_pI cx lk_X2_150 hs8 (Nat.le_of_ble_eq_true rfl) rfl dX2_doGive_82 fi_0_5 rfl rfl ?_
      exact g_wv cx hE dX2_doGive_85 rfl hP h
    · have h := zifn c4 h
      refine (Gx.unset 1 (Gx.L [.ref 114, .float 0, .int v2, .float 0] rfl ?_))
      exact gj_X2_doGive_32 cx hE hP h
def w_X2_fieldCell (x1 : Int32) (I : zI) (P : zP) (K : Int32 → zI → zP → Prop) : Prop := if x1 < 0 then (K (-1) I P) else (if 8 ≤ x1 then (K (-1) I P) else (K x1 I P))
theorem e_X2_fieldCell {x1 : Int32} {I : zI} {P : zP} {K : Int32 → zI → zP → Prop} (hP : PSt P) (h : w_X2_fieldCell x1 I P K) : Ev yX2_fieldCell cX2_fieldCell 1 (some .int) 0 0 0 0 [.int x1] SHy I P (zKi K) := by
  refine Ev.start [.int x1] pn_X2 rfl (Nat.le_of_ble_eq_true rfl) rfl (fun κ cx hE => ?_)
  unfold w_X2_fieldCell at h
  refine g_iload_n cx dX2_fieldCell_0 rfl ?_
  refine g_if_lt cx (tgt := 14) dX2_fieldCell_1 rfl (fun c1 => ?_) (fun c1 => ?_)
  · have h := zifp c1 h
    refine g_iconst cx dX2_fieldCell_14 ic_m1 ?_
    exact g_wi cx hE dX2_fieldCell_15 rfl rfl hP h
  · have h := zifn c1 h
    refine g_iload_n cx dX2_fieldCell_4 rfl ?_
    refine g_bipush cx dX2_fieldCell_5 bp_8 ?_
    refine g_icmp_ge cx (tgt := 14) dX2_fieldCell_7 rfl (fun c2 => ?_) (fun c2 => ?_)
    · have h := zifp c2 h
      refine g_iconst cx dX2_fieldCell_14 ic_m1 ?_
      exact g_wi cx hE dX2_fieldCell_15 rfl rfl hP h
    · have h := zifn c2 h
      refine g_iload_n cx dX2_fieldCell_10 rfl ?_
      refine g_goto cx (tgt := 15) dX2_fieldCell_11 rfl ?_
      exact g_wi cx hE dX2_fieldCell_15 rfl rfl hP h
def w_X2_rowCell (x1 : Int32) (x2 : Int32) (I : zI) (P : zP) (K : Int32 → zI → zP → Prop) : Prop := if x1 < 0 then (K (-1) I P) else (∃ v2, P 114 6 = some v2 ∧ (SHy[v2]? = some (6, 13) ∧ (if (I v2 7) ≤ x1 then (K (-1) I P) else (if 30 ≤ x1 then (K (-1) I P) else (if x2 < 0 then (K (-1) I P) else (vp_in x1 30 ∧ (if x2 < (I 117 ((x1).toNatClampNeg)) then (K ((8 + (x1 * 50)) + x2) I P) else (K (-1) I P))))))))
theorem e_X2_rowCell {x1 : Int32} {x2 : Int32} {I : zI} {P : zP} {K : Int32 → zI → zP → Prop} (hP : PSt P) (h : w_X2_rowCell x1 x2 I P K) : Ev yX2_rowCell cX2_rowCell 3 (some .int) 0 0 0 0 [.ref 114, .int x1, .int x2] SHy I P (zKi K) := by
  refine Ev.start [.ref 114, .int x1, .int x2] pn_X2 rfl (Nat.le_of_ble_eq_true rfl) rfl (fun κ cx hE => ?_)
  unfold w_X2_rowCell at h
  refine g_iload_n cx dX2_rowCell_0 rfl ?_
  refine g_if_lt cx (tgt := 35) dX2_rowCell_1 rfl (fun c1 => ?_) (fun c1 => ?_)
  · have h := zifp c1 h
    refine g_iconst cx dX2_rowCell_35 ic_m1 ?_
    exact g_wi cx hE dX2_rowCell_36 rfl rfl hP h
  · have h := zifn c1 h
    refine g_iload_n cx dX2_rowCell_4 rfl ?_
    refine g_aload_n cx dX2_rowCell_5 rfl ?_
    obtain ⟨v2, hv3, h⟩ := h
    refine g_getR cx lk_X2_67 rfl (Nat.le_of_ble_eq_true rfl) rfl dX2_rowCell_6 hv3 ?_
    obtain ⟨hs4, h⟩ := h
    refine g_getI cx lk_X2_277 hs4 (Nat.le_of_ble_eq_true rfl) rfl dX2_rowCell_9 (x := (I v2 7)) rfl ?_
    refine g_icmp_ge cx (tgt := 35) dX2_rowCell_12 rfl (fun c5 => ?_) (fun c5 => ?_)
    · have h := zifp c5 h
      refine g_iconst cx dX2_rowCell_35 ic_m1 ?_
      exact g_wi cx hE dX2_rowCell_36 rfl rfl hP h
    · have h := zifn c5 h
      refine g_iload_n cx dX2_rowCell_15 rfl ?_
      refine g_bipush cx dX2_rowCell_16 bp_30 ?_
      refine g_icmp_ge cx (tgt := 35) dX2_rowCell_18 rfl (fun c6 => ?_) (fun c6 => ?_)
      · have h := zifp c6 h
        refine g_iconst cx dX2_rowCell_35 ic_m1 ?_
        exact g_wi cx hE dX2_rowCell_36 rfl rfl hP h
      · have h := zifn c6 h
        refine g_iload_n cx dX2_rowCell_21 rfl ?_
        refine g_if_lt cx (tgt := 35) dX2_rowCell_22 rfl (fun c7 => ?_) (fun c7 => ?_)
        · have h := zifp c7 h
          refine g_iconst cx dX2_rowCell_35 ic_m1 ?_
          exact g_wi cx hE dX2_rowCell_36 rfl rfl hP h
        · have h := zifn c7 h
          refine g_iload_n cx dX2_rowCell_25 rfl ?_
          refine g_aload_n cx dX2_rowCell_26 rfl ?_
          refine g_getR cx lk_X2_21 rfl (Nat.le_of_ble_eq_true rfl) rfl dX2_rowCell_27 (v := 117) (pst hP 114 rfl) ?_
          refine g_iload_n cx dX2_rowCell_30 rfl ?_
          obtain ⟨hc8, h⟩ := h
          refine g_iald cx dX2_rowCell_31 rfl hc8 (x := (I 117 ((x1).toNatClampNeg))) rfl ?_
          refine g_icmp_lt cx (tgt := 37) dX2_rowCell_32 rfl (fun c9 => ?_) (fun c9 => ?_)
          · have h := zifp c9 h
            refine g_bipush cx dX2_rowCell_37 bp_8 ?_
            refine g_iload_n cx dX2_rowCell_39 rfl ?_
            refine g_bipush cx dX2_rowCell_40 bp_50 ?_
            refine g_imul cx dX2_rowCell_42 ?_
            refine g_iadd cx dX2_rowCell_43 ?_
            refine g_iload_n cx dX2_rowCell_44 rfl ?_
            refine g_iadd cx dX2_rowCell_45 ?_
            exact g_wi cx hE dX2_rowCell_46 rfl rfl hP h
          · have h := zifn c9 h
            refine g_iconst cx dX2_rowCell_35 ic_m1 ?_
            exact g_wi cx hE dX2_rowCell_36 rfl rfl hP h
def w_X2_setCell (x1 : Int32) (x2 : Int32) (I : zI) (P : zP) (K : zI → zP → Prop) : Prop := if x1 < 0 then (K I P) else (if 1508 ≤ x1 then (K I P) else (vp_in x1 1508 ∧ (K (zu I 116 ((x1).toNatClampNeg) x2) P)))
theorem e_X2_setCell {x1 : Int32} {x2 : Int32} {I : zI} {P : zP} {K : zI → zP → Prop} (hP : PSt P) (h : w_X2_setCell x1 x2 I P K) : Ev yX2_setCell cX2_setCell 3 none 0 0 0 0 [.ref 114, .int x1, .int x2] SHy I P (zKv K) := by
  refine Ev.start [.ref 114, .int x1, .int x2] pn_X2 rfl (Nat.le_of_ble_eq_true rfl) rfl (fun κ cx hE => ?_)
  unfold w_X2_setCell at h
  refine g_iload_n cx dX2_setCell_0 rfl ?_
  refine g_if_lt cx (tgt := 20) dX2_setCell_1 rfl (fun c1 => ?_) (fun c1 => ?_)
  · have h := zifp c1 h
    exact g_wv cx hE dX2_setCell_20 rfl hP h
  · have h := zifn c1 h
    refine g_iload_n cx dX2_setCell_4 rfl ?_
    refine g_aload_n cx dX2_setCell_5 rfl ?_
    refine g_getR cx lk_X2_17 rfl (Nat.le_of_ble_eq_true rfl) rfl dX2_setCell_6 (v := 116) (pst hP 113 rfl) ?_
    refine g_alen cx rfl (Nat.le_of_ble_eq_true rfl) (Nat.le_of_ble_eq_true rfl) dX2_setCell_9 ?_
    refine Gx.top 1508 rfl ?_
    refine g_icmp_ge cx (tgt := 20) dX2_setCell_10 rfl (fun c2 => ?_) (fun c2 => ?_)
    · have h := zifp c2 h
      exact g_wv cx hE dX2_setCell_20 rfl hP h
    · have h := zifn c2 h
      refine g_aload_n cx dX2_setCell_13 rfl ?_
      refine g_getR cx lk_X2_17 rfl (Nat.le_of_ble_eq_true rfl) rfl dX2_setCell_14 (v := 116) (pst hP 113 rfl) ?_
      refine g_iload_n cx dX2_setCell_17 rfl ?_
      refine g_iload_n cx dX2_setCell_18 rfl ?_
      obtain ⟨hc3, h⟩ := h
      refine g_iast cx dX2_setCell_19 rfl hc3 ?_
      exact g_wv cx hE dX2_setCell_20 rfl hP h
def w_X2_layInRow (x1 : Nat) (I : zI) (P : zP) (K : zI → zP → Prop) : Prop := SHy[x1]? = some (0, 6) ∧ (w_X0_pop x1 I P (fun (v2 : Int32) (I2 : zI) (P2 : zP) => (w_X0_pop x1 I2 P2 (fun (v3 : Int32) (I3 : zI) (P3 : zP) => (w_X0_pop x1 I3 P3 (fun (v4 : Int32) (I4 : zI) (P4 : zP) => (w_X2_rowCell v4 v3 I4 P4 (fun (v5 : Int32) (I5 : zI) (P5 : zP) => (if v5 = (-1) then (w_X2_throwAt x1 102 I5 P5 (fun (I8 : zI) (P8 : zP) => (K I8 P8))) else (w_X2_setCell v5 v2 I5 P5 (fun (I7 : zI) (P7 : zP) => (K I7 P7))))))))))))
theorem e_X2_layInRow {x1 : Nat} {I : zI} {P : zP} {K : zI → zP → Prop} (hP : PSt P) (h : w_X2_layInRow x1 I P K) : Ev yX2_layInRow cX2_layInRow 5 none 1 22 0 0 [.ref 114, .ref x1] SHy I P (zKv K) := by
  refine Ev.start [.ref 114, .ref x1, .float 0, .float 0, .float 0] pn_X2 rfl (Nat.le_of_ble_eq_true rfl) rfl (fun κ cx hE => ?_)
  unfold w_X2_layInRow at h
  refine g_aload_n cx dX2_layInRow_0 rfl ?_
  obtain ⟨hs1, h⟩ := h
  refine g_wVi cx [] [] (e_X0_pop hP h) mt_X0_pop ml_X2_215 hs1 rfl rfl dX2_layInRow_1 rfl rfl (Nat.le_of_ble_eq_true rfl) (Nat.le_of_ble_eq_true rfl) (Nat.le_of_ble_eq_true rfl) (fun v2 I2 P2 hP h => ?_)
  refine g_istore_n cx dX2_layInRow_4 (Nat.le_of_ble_eq_true rfl) (Gx.L [.ref 114, .ref x1, .int v2, .float 0, .float 0] rfl ?_)
  refine g_aload_n cx dX2_layInRow_5 rfl ?_
  refine g_wVi cx [] [] (e_X0_pop hP h) mt_X0_pop ml_X2_215 hs1 rfl rfl dX2_layInRow_6 rfl rfl (Nat.le_of_ble_eq_true rfl) (Nat.le_of_ble_eq_true rfl) (Nat.le_of_ble_eq_true rfl) (fun v3 I3 P3 hP h => ?_)
  refine g_istore_n cx dX2_layInRow_9 (Nat.le_of_ble_eq_true rfl) (Gx.L [.ref 114, .ref x1, .int v2, .int v3, .float 0] rfl ?_)
  refine g_aload_n cx dX2_layInRow_10 rfl ?_
  refine g_aload_n cx dX2_layInRow_11 rfl ?_
  refine g_wVi cx [] [.ref 114] (e_X0_pop hP h) mt_X0_pop ml_X2_215 hs1 rfl rfl dX2_layInRow_12 rfl rfl (Nat.le_of_ble_eq_true rfl) (Nat.le_of_ble_eq_true rfl) (Nat.le_of_ble_eq_true rfl) (fun v4 I4 P4 hP h => ?_)
  refine g_iload_n cx dX2_layInRow_15 rfl ?_
  refine g_wVi cx [.int v4, .int v3] [] (e_X2_rowCell hP h) mt_X2_rowCell ml_X2_280 rfl rfl rfl dX2_layInRow_16 rfl rfl (Nat.le_of_ble_eq_true rfl) (Nat.le_of_ble_eq_true rfl) (Nat.le_of_ble_eq_true rfl) (fun v5 I5 P5 hP h => ?_)
  refine g_istore cx dX2_layInRow_19 (Nat.le_of_ble_eq_true rfl) (Gx.L [.ref 114, .ref x1, .int v2, .int v3, .int v5] rfl ?_)
  refine g_iload cx dX2_layInRow_21 rfl ?_
  refine g_iconst cx dX2_layInRow_23 ic_m1 ?_
  refine g_icmp_ne cx (tgt := 37) dX2_layInRow_24 rfl (fun c6 => ?_) (fun c6 => ?_)
  · have h := zifn c6 h
    refine g_aload_n cx dX2_layInRow_37 rfl ?_
    refine g_iload cx dX2_layInRow_38 rfl ?_
    refine g_iload_n cx dX2_layInRow_40 rfl ?_
    refine g_wVv cx [.int v5, .int v2] [] (e_X2_setCell hP h) mt_X2_setCell ml_X2_259 rfl rfl rfl dX2_layInRow_41 rfl rfl (Nat.le_of_ble_eq_true rfl) (Nat.le_of_ble_eq_true rfl) (Nat.le_of_ble_eq_true rfl) (fun I7 P7 hP h => ?_)
    exact g_wv cx hE dX2_layInRow_44 rfl hP h
  · have h := zifp c6 h
    refine g_aload_n cx dX2_layInRow_27 rfl ?_
    refine g_aload_n cx dX2_layInRow_28 rfl ?_
    refine g_bipush cx dX2_layInRow_29 bp_102 ?_
    refine g_wVv cx [.ref x1, .int 102] [] (e_X2_throwAt hP h) mt_X2_throwAt ml_X2_218 rfl rfl rfl dX2_layInRow_31 rfl rfl (Nat.le_of_ble_eq_true rfl) (Nat.le_of_ble_eq_true rfl) (Nat.le_of_ble_eq_true rfl) (fun I8 P8 hP h => ?_)
    refine g_goto cx (tgt := 44) dX2_layInRow_34 rfl ?_
    exact g_wv cx hE dX2_layInRow_44 rfl hP h
def j_X2_makeRow_43 (K : zI → zP → Prop) (y1 : Nat) (I : zI) (P : zP) : Prop := w_X2_throwAt y1 104 I P (fun (I1 : zI) (P1 : zP) => (K I1 P1))
theorem gj_X2_makeRow_43 {κ : zX} (cx : Cx yX2_makeRow cX2_makeRow 5 none 2 46 κ) {K : zI → zP → Prop} (hE : zEnd (zKv K) 0 0 κ) {y1 : Nat} {I : zI} {P : zP} (hP : PSt P) (h : j_X2_makeRow_43 K y1 I P) : Gx κ 43 [.ref 114, .ref y1, .float 0, .float 0, .float 0] [] SHy I P 0 0 := by
  unfold j_X2_makeRow_43 at h
  refine g_aload_n cx dX2_makeRow_43 rfl ?_
  refine g_aload_n cx dX2_makeRow_44 rfl ?_
  refine g_bipush cx dX2_makeRow_45 bp_104 ?_
  refine g_wVv cx [.ref y1, .int 104] [] (e_X2_throwAt hP h) mt_X2_throwAt ml_X2_218 rfl rfl rfl dX2_makeRow_47 rfl rfl (Nat.le_of_ble_eq_true rfl) (Nat.le_of_ble_eq_true rfl) (Nat.le_of_ble_eq_true rfl) (fun I1 P1 hP h => ?_)
  refine g_goto cx (tgt := 101) dX2_makeRow_50 rfl ?_
  exact g_wv cx hE dX2_makeRow_101 rfl hP h
def j_X2_makeRow_23 (K : zI → zP → Prop) (y1 : Nat) (I : zI) (P : zP) : Prop := w_X2_throwAt y1 103 I P (fun (I1 : zI) (P1 : zP) => (K I1 P1))
theorem gj_X2_makeRow_23 {κ : zX} (cx : Cx yX2_makeRow cX2_makeRow 5 none 2 46 κ) {K : zI → zP → Prop} (hE : zEnd (zKv K) 0 0 κ) {y1 : Nat} {I : zI} {P : zP} (hP : PSt P) (h : j_X2_makeRow_23 K y1 I P) : Gx κ 23 [.ref 114, .ref y1, .float 0, .float 0, .float 0] [] SHy I P 0 0 := by
  unfold j_X2_makeRow_23 at h
  refine g_aload_n cx dX2_makeRow_23 rfl ?_
  refine g_aload_n cx dX2_makeRow_24 rfl ?_
  refine g_bipush cx dX2_makeRow_25 bp_103 ?_
  refine g_wVv cx [.ref y1, .int 103] [] (e_X2_throwAt hP h) mt_X2_throwAt ml_X2_218 rfl rfl rfl dX2_makeRow_27 rfl rfl (Nat.le_of_ble_eq_true rfl) (Nat.le_of_ble_eq_true rfl) (Nat.le_of_ble_eq_true rfl) (fun I1 P1 hP h => ?_)
  refine g_goto cx (tgt := 101) dX2_makeRow_30 rfl ?_
  exact g_wv cx hE dX2_makeRow_101 rfl hP h
def w_X2_makeRow (x1 : Nat) (I : zI) (P : zP) (K : zI → zP → Prop) : Prop := SHy[x1]? = some (0, 6) ∧ (w_X0_pop x1 I P (fun (v2 : Int32) (I2 : zI) (P2 : zP) => (∃ v3, P2 114 6 = some v3 ∧ (SHy[v3]? = some (6, 13) ∧ (if v2 < 0 then (j_X2_makeRow_23 K x1 I2 P2) else (if v2 ≤ 50 then (if (I2 v3 7) < 0 then (j_X2_makeRow_43 K x1 I2 P2) else (if (I2 v3 7) < 30 then (w_J7_fill_fda19 116 (8 + ((I2 v3 7) * 50)) ((8 + ((I2 v3 7) * 50)) + v2) 0 I2 P2 (fun (I10 : zI) (P10 : zP) => (vp_in (I2 v3 7) 30 ∧ (∃ v12, P10 114 6 = some v12 ∧ (SHy[v12]? = some (6, 13) ∧ (w_X0_push x1 (I2 v3 7) (zu (zu I10 117 (((I2 v3 7)).toNatClampNeg) v2) v12 7 (((zu I10 117 (((I2 v3 7)).toNatClampNeg) v2) v12 7) + 1)) P10 (fun (I15 : zI) (P15 : zP) => (K I15 P15)))))))) else (j_X2_makeRow_43 K x1 I2 P2))) else (j_X2_makeRow_23 K x1 I2 P2)))))))
theorem e_X2_makeRow {x1 : Nat} {I : zI} {P : zP} {K : zI → zP → Prop} (hP : PSt P) (h : w_X2_makeRow x1 I P K) : Ev yX2_makeRow cX2_makeRow 5 none 2 46 0 0 [.ref 114, .ref x1] SHy I P (zKv K) := by
  refine Ev.start [.ref 114, .ref x1, .float 0, .float 0, .float 0] pn_X2 rfl (Nat.le_of_ble_eq_true rfl) rfl (fun κ cx hE => ?_)
  unfold w_X2_makeRow at h
  refine g_aload_n cx dX2_makeRow_0 rfl ?_
  obtain ⟨hs1, h⟩ := h
  refine g_wVi cx [] [] (e_X0_pop hP h) mt_X0_pop ml_X2_215 hs1 rfl rfl dX2_makeRow_1 rfl rfl (Nat.le_of_ble_eq_true rfl) (Nat.le_of_ble_eq_true rfl) (Nat.le_of_ble_eq_true rfl) (fun v2 I2 P2 hP h => ?_)
  refine g_istore_n cx dX2_makeRow_4 (Nat.le_of_ble_eq_true rfl) (Gx.L [.ref 114, .ref x1, .int v2, .float 0, .float 0] rfl ?_)
  refine g_aload_n cx dX2_makeRow_5 rfl ?_
  obtain ⟨v3, hv4, h⟩ := h
  refine g_getR cx lk_X2_67 rfl (Nat.le_of_ble_eq_true rfl) rfl dX2_makeRow_6 hv4 ?_
  obtain ⟨hs5, h⟩ := h
  refine g_getI cx lk_X2_277 hs5 (Nat.le_of_ble_eq_true rfl) rfl dX2_makeRow_9 (x := (I2 v3 7)) rfl ?_
  refine g_istore_n cx dX2_makeRow_12 (Nat.le_of_ble_eq_true rfl) (Gx.L [.ref 114, .ref x1, .int v2, .int (I2 v3 7), .float 0] rfl ?_)
  refine g_iload_n cx dX2_makeRow_13 rfl ?_
  refine g_if_lt cx (tgt := 23) dX2_makeRow_14 rfl (fun c6 => ?_) (fun c6 => ?_)
  · have h := zifp c6 h
    refine (Gx.unset 2 (Gx.unset 3 (Gx.L [.ref 114, .ref x1, .float 0, .float 0, .float 0] rfl ?_)))
    exact gj_X2_makeRow_23 cx hE hP h
  · have h := zifn c6 h
    refine g_iload_n cx dX2_makeRow_17 rfl ?_
    refine g_bipush cx dX2_makeRow_18 bp_50 ?_
    refine g_icmp_le cx (tgt := 33) dX2_makeRow_20 rfl (fun c7 => ?_) (fun c7 => ?_)
    · have h := zifp c7 h
      refine g_iload_n cx dX2_makeRow_33 rfl ?_
      refine g_if_lt cx (tgt := 43) dX2_makeRow_34 rfl (fun c8 => ?_) (fun c8 => ?_)
      · have h := zifp c8 h
        refine (Gx.unset 2 (Gx.unset 3 (Gx.L [.ref 114, .ref x1, .float 0, .float 0, .float 0] rfl ?_)))
        exact gj_X2_makeRow_43 cx hE hP h
      · have h := zifn c8 h
        refine g_iload_n cx dX2_makeRow_37 rfl ?_
        refine g_bipush cx dX2_makeRow_38 bp_30 ?_
        refine g_icmp_lt cx (tgt := 53) dX2_makeRow_40 rfl (fun c9 => ?_) (fun c9 => ?_)
        · have h := zifp c9 h
          refine g_bipush cx dX2_makeRow_53 bp_8 ?_
          refine g_iload_n cx dX2_makeRow_55 rfl ?_
          refine g_bipush cx dX2_makeRow_56 bp_50 ?_
          refine g_imul cx dX2_makeRow_58 ?_
          refine g_iadd cx dX2_makeRow_59 ?_
          refine g_istore cx dX2_makeRow_60 (Nat.le_of_ble_eq_true rfl) (Gx.L [.ref 114, .ref x1, .int v2, .int (I2 v3 7), .int (8 + ((I2 v3 7) * 50))] rfl ?_)
          refine g_aload_n cx dX2_makeRow_62 rfl ?_
          refine g_getR cx lk_X2_17 rfl (Nat.le_of_ble_eq_true rfl) rfl dX2_makeRow_63 (v := 116) (pst hP 113 rfl) ?_
          refine g_iload cx dX2_makeRow_66 rfl ?_
          refine g_iload cx dX2_makeRow_68 rfl ?_
          refine g_iload_n cx dX2_makeRow_70 rfl ?_
          refine g_iadd cx dX2_makeRow_71 ?_
          refine g_iconst cx dX2_makeRow_72 ic_0 ?_
          refine g_wSv cx [.ref 116, .int (8 + ((I2 v3 7) * 50)), .int ((8 + ((I2 v3 7) * 50)) + v2), .int 0] [] (e_J7_fill_fda19 hP h) mt_J7_fill_fda19 ml_X2_79 dX2_makeRow_73 rfl rfl (Nat.le_of_ble_eq_true rfl) (Nat.le_of_ble_eq_true rfl) (Nat.le_of_ble_eq_true rfl) (fun I10 P10 hP h => ?_)
          refine g_aload_n cx dX2_makeRow_76 rfl ?_
          refine g_getR cx lk_X2_21 rfl (Nat.le_of_ble_eq_true rfl) rfl dX2_makeRow_77 (v := 117) (pst hP 114 rfl) ?_
          refine g_iload_n cx dX2_makeRow_80 rfl ?_
          refine g_iload_n cx dX2_makeRow_81 rfl ?_
          obtain ⟨hc11, h⟩ := h
          refine g_iast cx dX2_makeRow_82 rfl hc11 ?_
          refine g_aload_n cx dX2_makeRow_83 rfl ?_
          obtain ⟨v12, hv13, h⟩ := h
          refine g_getR cx lk_X2_67 rfl (Nat.le_of_ble_eq_true rfl) rfl dX2_makeRow_84 hv13 ?_
          refine g_dup cx dX2_makeRow_87 rfl ?_
          obtain ⟨hs14, h⟩ := h
          refine g_getI cx lk_X2_277 hs14 (Nat.le_of_ble_eq_true rfl) rfl dX2_makeRow_88 (x := ((zu I10 117 (((I2 v3 7)).toNatClampNeg) v2) v12 7)) rfl ?_
          refine g_iconst cx dX2_makeRow_91 ic_1 ?_
          refine Gx.N 92 rfl ?_
          refine g_iadd cx dX2_makeRow_92 ?_
          refine g_pI cx lk_X2_277 hs14 (Nat.le_of_ble_eq_true rfl) rfl dX2_makeRow_93 fi_6_7 rfl rfl ?_
          refine g_aload_n cx dX2_makeRow_96 rfl ?_
          refine g_iload_n cx dX2_makeRow_97 rfl ?_
          refine g_wVv cx [.int (I2 v3 7)] [] (e_X0_push hP h) mt_X0_push ml_X2_233 hs1 rfl rfl dX2_makeRow_98 rfl rfl (Nat.le_of_ble_eq_true rfl) (Nat.le_of_ble_eq_true rfl) (Nat.le_of_ble_eq_true rfl) (fun I15 P15 hP h => ?_)
          exact g_wv cx hE dX2_makeRow_101 rfl hP h
        · have h := zifn c9 h
          refine (Gx.unset 2 (Gx.unset 3 (Gx.L [.ref 114, .ref x1, .float 0, .float 0, .float 0] rfl ?_)))
          exact gj_X2_makeRow_43 cx hE hP h
    · have h := zifn c7 h
      refine (Gx.unset 2 (Gx.unset 3 (Gx.L [.ref 114, .ref x1, .float 0, .float 0, .float 0] rfl ?_)))
      exact gj_X2_makeRow_23 cx hE hP h
def w_X2_sizeOfRow (x1 : Int32) (I : zI) (P : zP) (K : Int32 → zI → zP → Prop) : Prop := if x1 < 0 then (K 0 I P) else (∃ v2, P 114 6 = some v2 ∧ (SHy[v2]? = some (6, 13) ∧ (if (I v2 7) ≤ x1 then (K 0 I P) else (if 30 ≤ x1 then (K 0 I P) else (vp_in x1 30 ∧ (K (I 117 ((x1).toNatClampNeg)) I P))))))
theorem e_X2_sizeOfRow {x1 : Int32} {I : zI} {P : zP} {K : Int32 → zI → zP → Prop} (hP : PSt P) (h : w_X2_sizeOfRow x1 I P K) : Ev yX2_sizeOfRow cX2_sizeOfRow 2 (some .int) 0 0 0 0 [.ref 114, .int x1] SHy I P (zKi K) := by
  refine Ev.start [.ref 114, .int x1] pn_X2 rfl (Nat.le_of_ble_eq_true rfl) rfl (fun κ cx hE => ?_)
  unfold w_X2_sizeOfRow at h
  refine g_iload_n cx dX2_sizeOfRow_0 rfl ?_
  refine g_if_lt cx (tgt := 30) dX2_sizeOfRow_1 rfl (fun c1 => ?_) (fun c1 => ?_)
  · have h := zifp c1 h
    refine g_iconst cx dX2_sizeOfRow_30 ic_0 ?_
    exact g_wi cx hE dX2_sizeOfRow_31 rfl rfl hP h
  · have h := zifn c1 h
    refine g_iload_n cx dX2_sizeOfRow_4 rfl ?_
    refine g_aload_n cx dX2_sizeOfRow_5 rfl ?_
    obtain ⟨v2, hv3, h⟩ := h
    refine g_getR cx lk_X2_67 rfl (Nat.le_of_ble_eq_true rfl) rfl dX2_sizeOfRow_6 hv3 ?_
    obtain ⟨hs4, h⟩ := h
    refine g_getI cx lk_X2_277 hs4 (Nat.le_of_ble_eq_true rfl) rfl dX2_sizeOfRow_9 (x := (I v2 7)) rfl ?_
    refine g_icmp_ge cx (tgt := 30) dX2_sizeOfRow_12 rfl (fun c5 => ?_) (fun c5 => ?_)
    · have h := zifp c5 h
      refine g_iconst cx dX2_sizeOfRow_30 ic_0 ?_
      exact g_wi cx hE dX2_sizeOfRow_31 rfl rfl hP h
    · have h := zifn c5 h
      refine g_iload_n cx dX2_sizeOfRow_15 rfl ?_
      refine g_bipush cx dX2_sizeOfRow_16 bp_30 ?_
      refine g_icmp_ge cx (tgt := 30) dX2_sizeOfRow_18 rfl (fun c6 => ?_) (fun c6 => ?_)
      · have h := zifp c6 h
        refine g_iconst cx dX2_sizeOfRow_30 ic_0 ?_
        exact g_wi cx hE dX2_sizeOfRow_31 rfl rfl hP h
      · have h := zifn c6 h
        refine g_aload_n cx dX2_sizeOfRow_21 rfl ?_
        refine g_getR cx lk_X2_21 rfl (Nat.le_of_ble_eq_true rfl) rfl dX2_sizeOfRow_22 (v := 117) (pst hP 114 rfl) ?_
        refine g_iload_n cx dX2_sizeOfRow_25 rfl ?_
        obtain ⟨hc7, h⟩ := h
        refine g_iald cx dX2_sizeOfRow_26 rfl hc7 (x := (I 117 ((x1).toNatClampNeg))) rfl ?_
        refine g_goto cx (tgt := 31) dX2_sizeOfRow_27 rfl ?_
        exact g_wi cx hE dX2_sizeOfRow_31 rfl rfl hP h
def w_X2_takeFromRow (x1 : Nat) (I : zI) (P : zP) (K : zI → zP → Prop) : Prop := SHy[x1]? = some (0, 6) ∧ (w_X0_pop x1 I P (fun (v2 : Int32) (I2 : zI) (P2 : zP) => (w_X0_pop x1 I2 P2 (fun (v3 : Int32) (I3 : zI) (P3 : zP) => (w_X2_rowCell v3 v2 I3 P3 (fun (v4 : Int32) (I4 : zI) (P4 : zP) => (if v4 = (-1) then (w_X2_throwAt x1 102 I4 P4 (fun (I8 : zI) (P8 : zP) => (K I8 P8))) else (w_X2_cellInt v4 I4 P4 (fun (v6 : Int32) (I6 : zI) (P6 : zP) => (w_X0_push x1 v6 I6 P6 (fun (I7 : zI) (P7 : zP) => (K I7 P7))))))))))))
theorem e_X2_takeFromRow {x1 : Nat} {I : zI} {P : zP} {K : zI → zP → Prop} (hP : PSt P) (h : w_X2_takeFromRow x1 I P K) : Ev yX2_takeFromRow cX2_takeFromRow 4 none 1 22 0 0 [.ref 114, .ref x1] SHy I P (zKv K) := by
  refine Ev.start [.ref 114, .ref x1, .float 0, .float 0] pn_X2 rfl (Nat.le_of_ble_eq_true rfl) rfl (fun κ cx hE => ?_)
  unfold w_X2_takeFromRow at h
  refine g_aload_n cx dX2_takeFromRow_0 rfl ?_
  obtain ⟨hs1, h⟩ := h
  refine g_wVi cx [] [] (e_X0_pop hP h) mt_X0_pop ml_X2_215 hs1 rfl rfl dX2_takeFromRow_1 rfl rfl (Nat.le_of_ble_eq_true rfl) (Nat.le_of_ble_eq_true rfl) (Nat.le_of_ble_eq_true rfl) (fun v2 I2 P2 hP h => ?_)
  refine g_istore_n cx dX2_takeFromRow_4 (Nat.le_of_ble_eq_true rfl) (Gx.L [.ref 114, .ref x1, .int v2, .float 0] rfl ?_)
  refine g_aload_n cx dX2_takeFromRow_5 rfl ?_
  refine g_aload_n cx dX2_takeFromRow_6 rfl ?_
  refine g_wVi cx [] [.ref 114] (e_X0_pop hP h) mt_X0_pop ml_X2_215 hs1 rfl rfl dX2_takeFromRow_7 rfl rfl (Nat.le_of_ble_eq_true rfl) (Nat.le_of_ble_eq_true rfl) (Nat.le_of_ble_eq_true rfl) (fun v3 I3 P3 hP h => ?_)
  refine g_iload_n cx dX2_takeFromRow_10 rfl ?_
  refine g_wVi cx [.int v3, .int v2] [] (e_X2_rowCell hP h) mt_X2_rowCell ml_X2_280 rfl rfl rfl dX2_takeFromRow_11 rfl rfl (Nat.le_of_ble_eq_true rfl) (Nat.le_of_ble_eq_true rfl) (Nat.le_of_ble_eq_true rfl) (fun v4 I4 P4 hP h => ?_)
  refine g_istore_n cx dX2_takeFromRow_14 (Nat.le_of_ble_eq_true rfl) (Gx.L [.ref 114, .ref x1, .int v2, .int v4] rfl ?_)
  refine g_iload_n cx dX2_takeFromRow_15 rfl ?_
  refine g_iconst cx dX2_takeFromRow_16 ic_m1 ?_
  refine g_icmp_ne cx (tgt := 30) dX2_takeFromRow_17 rfl (fun c5 => ?_) (fun c5 => ?_)
  · have h := zifn c5 h
    refine g_aload_n cx dX2_takeFromRow_30 rfl ?_
    refine g_aload_n cx dX2_takeFromRow_31 rfl ?_
    refine g_iload_n cx dX2_takeFromRow_32 rfl ?_
    refine g_wVi cx [.int v4] [.ref x1] (e_X2_cellInt hP h) mt_X2_cellInt ml_X2_256 rfl rfl rfl dX2_takeFromRow_33 rfl rfl (Nat.le_of_ble_eq_true rfl) (Nat.le_of_ble_eq_true rfl) (Nat.le_of_ble_eq_true rfl) (fun v6 I6 P6 hP h => ?_)
    refine g_wVv cx [.int v6] [] (e_X0_push hP h) mt_X0_push ml_X2_233 hs1 rfl rfl dX2_takeFromRow_36 rfl rfl (Nat.le_of_ble_eq_true rfl) (Nat.le_of_ble_eq_true rfl) (Nat.le_of_ble_eq_true rfl) (fun I7 P7 hP h => ?_)
    exact g_wv cx hE dX2_takeFromRow_39 rfl hP h
  · have h := zifp c5 h
    refine g_aload_n cx dX2_takeFromRow_20 rfl ?_
    refine g_aload_n cx dX2_takeFromRow_21 rfl ?_
    refine g_bipush cx dX2_takeFromRow_22 bp_102 ?_
    refine g_wVv cx [.ref x1, .int 102] [] (e_X2_throwAt hP h) mt_X2_throwAt ml_X2_218 rfl rfl rfl dX2_takeFromRow_24 rfl rfl (Nat.le_of_ble_eq_true rfl) (Nat.le_of_ble_eq_true rfl) (Nat.le_of_ble_eq_true rfl) (fun I8 P8 hP h => ?_)
    refine g_goto cx (tgt := 39) dX2_takeFromRow_27 rfl ?_
    exact g_wv cx hE dX2_takeFromRow_39 rfl hP h
def w_X6_addMark (o : Nat) (x1 : Int32) (I : zI) (P : zP) (K : zI → zP → Prop) : Prop := SHy[o]? = some (6, 13) ∧ (if (I o 11) < 0 then (K I P) else (if 60 ≤ (I o 11) then (K I P) else (∃ v4, P o 1 = some v4 ∧ (SHy[v4]? = some (11, (zlen v4)) ∧ (vp_in (I o 11) (zlen v4) ∧ (K (zu (zu I v4 (((I o 11)).toNatClampNeg) x1) o 11 (((zu I v4 (((I o 11)).toNatClampNeg) x1) o 11) + 1)) P))))))
theorem e_X6_addMark {o : Nat} {x1 : Int32} {I : zI} {P : zP} {K : zI → zP → Prop} (hP : PSt P) (h : w_X6_addMark o x1 I P K) : Ev yX6_addMark cX6_addMark 2 none 0 0 0 0 [.ref o, .int x1] SHy I P (zKv K) := by
  refine Ev.start [.ref o, .int x1] pn_X6 rfl (Nat.le_of_ble_eq_true rfl) rfl (fun κ cx hE => ?_)
  unfold w_X6_addMark at h
  refine g_aload_n cx dX6_addMark_0 rfl ?_
  obtain ⟨hs1, h⟩ := h
  refine g_getI cx lk_X6_46 hs1 (Nat.le_of_ble_eq_true rfl) rfl dX6_addMark_1 (x := (I o 11)) rfl ?_
  refine g_if_lt cx (tgt := 36) dX6_addMark_4 rfl (fun c2 => ?_) (fun c2 => ?_)
  · have h := zifp c2 h
    exact g_wv cx hE dX6_addMark_36 rfl hP h
  · have h := zifn c2 h
    refine g_aload_n cx dX6_addMark_7 rfl ?_
    refine g_getI cx lk_X6_46 hs1 (Nat.le_of_ble_eq_true rfl) rfl dX6_addMark_8 (x := (I o 11)) rfl ?_
    refine g_bipush cx dX6_addMark_11 bp_60 ?_
    refine g_icmp_ge cx (tgt := 36) dX6_addMark_13 rfl (fun c3 => ?_) (fun c3 => ?_)
    · have h := zifp c3 h
      exact g_wv cx hE dX6_addMark_36 rfl hP h
    · have h := zifn c3 h
      refine g_aload_n cx dX6_addMark_16 rfl ?_
      obtain ⟨v4, hv5, h⟩ := h
      refine g_getR cx lk_X6_15 hs1 (Nat.le_of_ble_eq_true rfl) rfl dX6_addMark_17 hv5 ?_
      refine g_aload_n cx dX6_addMark_20 rfl ?_
      refine g_getI cx lk_X6_46 hs1 (Nat.le_of_ble_eq_true rfl) rfl dX6_addMark_21 (x := (I o 11)) rfl ?_
      refine g_iload_n cx dX6_addMark_24 rfl ?_
      obtain ⟨hs6, h⟩ := h
      obtain ⟨hc7, h⟩ := h
      refine g_iast cx dX6_addMark_25 hs6 hc7 ?_
      refine g_aload_n cx dX6_addMark_26 rfl ?_
      refine g_dup cx dX6_addMark_27 rfl ?_
      refine g_getI cx lk_X6_46 hs1 (Nat.le_of_ble_eq_true rfl) rfl dX6_addMark_28 (x := ((zu I v4 (((I o 11)).toNatClampNeg) x1) o 11)) rfl ?_
      refine g_iconst cx dX6_addMark_31 ic_1 ?_
      refine g_iadd cx dX6_addMark_32 ?_
      refine g_pI cx lk_X6_46 hs1 (Nat.le_of_ble_eq_true rfl) rfl dX6_addMark_33 fi_6_11 rfl rfl ?_
      exact g_wv cx hE dX6_addMark_36 rfl hP h
