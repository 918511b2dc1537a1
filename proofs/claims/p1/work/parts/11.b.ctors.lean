abbrev nc_X3_init : zSh := [(11, 400), (11, 400), (11, 400), (11, 400), (11, 32), (8, 11), (11, 1000), (11, 1000), (11, 400), (12, 400), (11, 36)]
def ii_X3_init (I : zI) (o k : Nat) (x1 : Int32) : zI := (zu (zu (zu (zu (zu (ii_X8_init I (k + 5) (k + 6)) o 7 0) o 8 0) o 9 0) o 10 0) o 0 x1)
def pp_X3_init (P : zP) (o k : Nat) : zP := (zu (pp_X8_init (zu (zu (zu (zu (zu P o 1 (some k)) o 2 (some (k + 1))) o 3 (some (k + 2))) o 4 (some (k + 3))) o 5 (some (k + 4))) (k + 5) (k + 6)) o 6 (some (k + 5)))
theorem ev_X3_init (sh : zSh) (I : zI) (P : zP) (o k : Nat) (x1 : Int32) (ho : sh[o]? = some (3, 11)) (hk : sh.length = k) (hf : zfr k I P) : Ev yX3_init cX3_init 2 none 2 40 11 4479 [.ref o, .int x1] sh I P (fun r sh2 I2 P2 => r = none ∧ sh2 = sh ++ nc_X3_init ∧ I2 = ii_X3_init I o k x1 ∧ P2 = pp_X3_init P o k ∧ sh2.length = k + 11 ∧ zfr (k + 11) I2 P2) := by
  refine Ev.start [.ref o, .int x1] pn_X3 rfl (Nat.le_of_ble_eq_true rfl) rfl (fun κ cx hE => ?_)
  refine g_aload_n cx dX3_init_0 rfl ?_
  refine g_objInit cx mo_X3_3 (Nat.le_of_ble_eq_true rfl) (zallL rfl) (Nat.le_of_ble_eq_true rfl) (Nat.le_of_ble_eq_true rfl) dX3_init_1 ?_
  refine g_aload_n cx dX3_init_4 rfl ?_
  refine g_sipush cx dX3_init_5 sp_400 ?_
  refine k_newI cx hE hk hf (N := 400) dX3_init_8 (by decide) (by decide) (Nat.le_of_ble_eq_true rfl) (Nat.le_of_ble_eq_true rfl) (Nat.le_of_ble_eq_true rfl) (fun hk hf => ?_)
  have ho := zsha (l := [(11, 400)]) ho
  refine g_pRF cx lk_X3_9 ho (Nat.le_of_ble_eq_true rfl) rfl dX3_init_10 rfl fi_3_1 (fun _ => rfl) (fun _ => rfl) ?_
  have hf := zfr.p (j := 1) (v := (some k)) (zshl ho hk) hf
  refine g_aload_n cx dX3_init_13 rfl ?_
  refine g_sipush cx dX3_init_14 sp_400 ?_
  refine k_newI cx hE hk hf (N := 400) dX3_init_17 (by decide) (by decide) (Nat.le_of_ble_eq_true rfl) (Nat.le_of_ble_eq_true rfl) (Nat.le_of_ble_eq_true rfl) (fun hk hf => ?_)
  have ho := zsha (l := [(11, 400)]) ho
  refine g_pRF cx lk_X3_15 ho (Nat.le_of_ble_eq_true rfl) rfl dX3_init_19 rfl fi_3_2 (fun _ => rfl) (fun _ => rfl) ?_
  have hf := zfr.p (j := 2) (v := (some (k + 1))) (zshl ho hk) hf
  refine g_aload_n cx dX3_init_22 rfl ?_
  refine g_sipush cx dX3_init_23 sp_400 ?_
  refine k_newI cx hE hk hf (N := 400) dX3_init_26 (by decide) (by decide) (Nat.le_of_ble_eq_true rfl) (Nat.le_of_ble_eq_true rfl) (Nat.le_of_ble_eq_true rfl) (fun hk hf => ?_)
  have ho := zsha (l := [(11, 400)]) ho
  refine g_pRF cx lk_X3_18 ho (Nat.le_of_ble_eq_true rfl) rfl dX3_init_28 rfl fi_3_3 (fun _ => rfl) (fun _ => rfl) ?_
  have hf := zfr.p (j := 3) (v := (some (k + 2))) (zshl ho hk) hf
  refine g_aload_n cx dX3_init_31 rfl ?_
  refine g_sipush cx dX3_init_32 sp_400 ?_
  refine k_newI cx hE hk hf (N := 400) dX3_init_35 (by decide) (by decide) (Nat.le_of_ble_eq_true rfl) (Nat.le_of_ble_eq_true rfl) (Nat.le_of_ble_eq_true rfl) (fun hk hf => ?_)
  have ho := zsha (l := [(11, 400)]) ho
  refine g_pRF cx lk_X3_21 ho (Nat.le_of_ble_eq_true rfl) rfl dX3_init_37 rfl fi_3_4 (fun _ => rfl) (fun _ => rfl) ?_
  have hf := zfr.p (j := 4) (v := (some (k + 3))) (zshl ho hk) hf
  refine g_aload_n cx dX3_init_40 rfl ?_
  refine g_bipush cx dX3_init_41 bp_32 ?_
  refine k_newI cx hE hk hf (N := 32) dX3_init_43 (by decide) (by decide) (Nat.le_of_ble_eq_true rfl) (Nat.le_of_ble_eq_true rfl) (Nat.le_of_ble_eq_true rfl) (fun hk hf => ?_)
  have ho := zsha (l := [(11, 32)]) ho
  refine g_pRF cx lk_X3_24 ho (Nat.le_of_ble_eq_true rfl) rfl dX3_init_45 rfl fi_3_5 (fun _ => rfl) (fun _ => rfl) ?_
  have hf := zfr.p (j := 5) (v := (some (k + 4))) (zshl ho hk) hf
  refine g_aload_n cx dX3_init_48 rfl ?_
  have hn5 := zshn (q := (8, 11)) hk
  refine k_new cx hE hk hf 8 (RX8, TX8, 11) dX3_init_49 rfl cl_X3_27 ins_X8 ini_X8 df_8 (Nat.le_of_ble_eq_true rfl) (Nat.le_of_ble_eq_true rfl) (fun hk hf => ?_)
  have ho := zsha (l := [(8, 11)]) ho
  refine Gx.N 52 rfl ?_
  refine g_dup cx dX3_init_52 rfl ?_
  refine g_callI cx [] [.ref (k + 5), .ref o] (ev_X8_init _ _ _ (k + 5) (k + 6) hn5 hk hf) mt_X8_init ml_X3_29 rfl (zallL rfl) (Nat.le_of_ble_eq_true rfl) (Nat.le_of_ble_eq_true rfl) (Nat.le_of_ble_eq_true rfl) (zroom hE (Nat.le_of_ble_eq_true rfl) (Nat.le_of_ble_eq_true rfl)) dX3_init_53 (fun r sh2 I2 P2 hq => ?_)
  obtain ⟨rfl, rfl, rfl, rfl, hk, hf⟩ := hq
  refine Gx.S [.ref (k + 5), .ref o] rfl ?_
  have ho := zsha (l := nc_X8_init) ho
  have hn5 := zsha (l := nc_X8_init) hn5
  refine g_pRF cx lk_X3_30 ho (Nat.le_of_ble_eq_true rfl) rfl dX3_init_56 rfl fi_3_6 (fun _ => rfl) (fun _ => rfl) ?_
  have hf := zfr.p (j := 6) (v := (some (k + 5))) (zshl ho hk) hf
  refine g_aload_n cx dX3_init_59 rfl ?_
  refine g_iconst cx dX3_init_60 ic_0 ?_
  refine g_pI cx lk_X3_34 ho (Nat.le_of_ble_eq_true rfl) rfl dX3_init_61 fi_3_7 rfl rfl ?_
  have hf := zfr.i (j := 7) (v := 0) (zshl ho hk) hf
  refine g_aload_n cx dX3_init_64 rfl ?_
  refine g_iconst cx dX3_init_65 ic_0 ?_
  refine g_pI cx lk_X3_38 ho (Nat.le_of_ble_eq_true rfl) rfl dX3_init_66 fi_3_8 rfl rfl ?_
  have hf := zfr.i (j := 8) (v := 0) (zshl ho hk) hf
  refine g_aload_n cx dX3_init_69 rfl ?_
  refine g_iconst cx dX3_init_70 ic_0 ?_
  refine g_pI cx lk_X3_41 ho (Nat.le_of_ble_eq_true rfl) rfl dX3_init_71 fi_3_9 rfl rfl ?_
  have hf := zfr.i (j := 9) (v := 0) (zshl ho hk) hf
  refine g_aload_n cx dX3_init_74 rfl ?_
  refine g_iconst cx dX3_init_75 ic_0 ?_
  refine g_pI cx lk_X3_44 ho (Nat.le_of_ble_eq_true rfl) rfl dX3_init_76 fi_3_10 rfl rfl ?_
  have hf := zfr.i (j := 10) (v := 0) (zshl ho hk) hf
  refine g_aload_n cx dX3_init_79 rfl ?_
  refine g_iload_n cx dX3_init_80 rfl ?_
  refine g_pIF cx lk_X3_47 ho (Nat.le_of_ble_eq_true rfl) rfl dX3_init_81 rfl fi_3_0 rfl rfl ?_
  have hf := zfr.i (j := 0) (v := x1) (zshl ho hk) hf
  exact g_vret cx hE (Nat.le_of_ble_eq_true rfl) (Nat.le_of_ble_eq_true rfl) rfl dX3_init_84 ⟨rfl, by simp [nc_X3_init], rfl, rfl, hk, hf⟩
abbrev nc_X0_init : zSh := [(11, 12), (11, 10)]
def ii_X0_init (I : zI) (o k : Nat) : zI := (zu (zu (zu I o 2 0) o 4 0) o 5 0)
def pp_X0_init (P : zP) (o k : Nat) (x1 : Nat) : zP := (zu (zu (zu P o 0 (some k)) o 1 (some (k + 1))) o 3 (some x1))
theorem ev_X0_init (sh : zSh) (I : zI) (P : zP) (o k : Nat) (x1 : Nat) (ho : sh[o]? = some (0, 6)) (hk : sh.length = k) (hf : zfr k I P) : Ev yX0_init cX0_init 2 none 1 20 2 22 [.ref o, .ref x1] sh I P (fun r sh2 I2 P2 => r = none ∧ sh2 = sh ++ nc_X0_init ∧ I2 = ii_X0_init I o k ∧ P2 = pp_X0_init P o k x1 ∧ sh2.length = k + 2 ∧ zfr (k + 2) I2 P2) := by
  refine Ev.start [.ref o, .ref x1] pn_X0 rfl (Nat.le_of_ble_eq_true rfl) rfl (fun κ cx hE => ?_)
  refine g_aload_n cx dX0_init_0 rfl ?_
  refine g_objInit cx mo_X0_3 (Nat.le_of_ble_eq_true rfl) (zallL rfl) (Nat.le_of_ble_eq_true rfl) (Nat.le_of_ble_eq_true rfl) dX0_init_1 ?_
  refine g_aload_n cx dX0_init_4 rfl ?_
  refine g_bipush cx dX0_init_5 bp_12 ?_
  refine k_newI cx hE hk hf (N := 12) dX0_init_7 (by decide) (by decide) (Nat.le_of_ble_eq_true rfl) (Nat.le_of_ble_eq_true rfl) (Nat.le_of_ble_eq_true rfl) (fun hk hf => ?_)
  have ho := zsha (l := [(11, 12)]) ho
  refine g_pRF cx lk_X0_9 ho (Nat.le_of_ble_eq_true rfl) rfl dX0_init_9 rfl fi_0_0 (fun _ => rfl) (fun _ => rfl) ?_
  have hf := zfr.p (j := 0) (v := (some k)) (zshl ho hk) hf
  refine g_aload_n cx dX0_init_12 rfl ?_
  refine g_bipush cx dX0_init_13 bp_10 ?_
  refine k_newI cx hE hk hf (N := 10) dX0_init_15 (by decide) (by decide) (Nat.le_of_ble_eq_true rfl) (Nat.le_of_ble_eq_true rfl) (Nat.le_of_ble_eq_true rfl) (fun hk hf => ?_)
  have ho := zsha (l := [(11, 10)]) ho
  refine g_pRF cx lk_X0_15 ho (Nat.le_of_ble_eq_true rfl) rfl dX0_init_17 rfl fi_0_1 (fun _ => rfl) (fun _ => rfl) ?_
  have hf := zfr.p (j := 1) (v := (some (k + 1))) (zshl ho hk) hf
  refine g_aload_n cx dX0_init_20 rfl ?_
  refine g_iconst cx dX0_init_21 ic_0 ?_
  refine g_pI cx lk_X0_18 ho (Nat.le_of_ble_eq_true rfl) rfl dX0_init_22 fi_0_2 rfl rfl ?_
  have hf := zfr.i (j := 2) (v := 0) (zshl ho hk) hf
  refine g_aload_n cx dX0_init_25 rfl ?_
  refine g_iconst cx dX0_init_26 ic_0 ?_
  refine g_pI cx lk_X0_22 ho (Nat.le_of_ble_eq_true rfl) rfl dX0_init_27 fi_0_4 rfl rfl ?_
  have hf := zfr.i (j := 4) (v := 0) (zshl ho hk) hf
  refine g_aload_n cx dX0_init_30 rfl ?_
  refine g_iconst cx dX0_init_31 ic_0 ?_
  refine g_pI cx lk_X0_26 ho (Nat.le_of_ble_eq_true rfl) rfl dX0_init_32 fi_0_5 rfl rfl ?_
  have hf := zfr.i (j := 5) (v := 0) (zshl ho hk) hf
  refine g_aload_n cx dX0_init_35 rfl ?_
  refine g_aload_n cx dX0_init_36 rfl ?_
  refine g_pR cx lk_X0_29 ho (Nat.le_of_ble_eq_true rfl) rfl dX0_init_37 fi_0_3 (fun _ => rfl) (fun _ => rfl) ?_
  have hf := zfr.p (j := 3) (v := (some x1)) (zshl ho hk) hf
  exact g_vret cx hE (Nat.le_of_ble_eq_true rfl) (Nat.le_of_ble_eq_true rfl) rfl dX0_init_40 ⟨rfl, by simp [nc_X0_init], rfl, rfl, hk, hf⟩
