abbrev nc_X4_init : zSh := [(11, 24), (11, 24), (11, 24), (11, 24), (11, 24)]
def ii_X4_init (I : zI) (o k : Nat) : zI := (zu I o 5 0)
def pp_X4_init (P : zP) (o k : Nat) : zP := (zu (zu (zu (zu (zu P o 0 (some k)) o 1 (some (k + 1))) o 2 (some (k + 2))) o 3 (some (k + 3))) o 4 (some (k + 4)))
theorem ev_X4_init (sh : zSh) (I : zI) (P : zP) (o k : Nat) (ho : sh[o]? = some (4, 6)) (hk : sh.length = k) (hf : zfr k I P) : Ev yX4_init cX4_init 1 none 1 20 5 120 [.ref o] sh I P (fun r sh2 I2 P2 => r = none ∧ sh2 = sh ++ nc_X4_init ∧ I2 = ii_X4_init I o k ∧ P2 = pp_X4_init P o k ∧ sh2.length = k + 5 ∧ zfr (k + 5) I2 P2) := by
  refine Ev.start [.ref o] pn_X4 rfl (Nat.le_of_ble_eq_true rfl) rfl (fun κ cx hE => ?_)
  refine g_aload_n cx dX4_init_0 rfl ?_
  refine g_objInit cx mo_X4_3 (Nat.le_of_ble_eq_true rfl) (zallL rfl) (Nat.le_of_ble_eq_true rfl) (Nat.le_of_ble_eq_true rfl) dX4_init_1 ?_
  refine g_aload_n cx dX4_init_4 rfl ?_
  refine g_bipush cx dX4_init_5 bp_24 ?_
  refine k_newI cx hE hk hf (N := 24) dX4_init_7 (by decide) (by decide) (Nat.le_of_ble_eq_true rfl) (Nat.le_of_ble_eq_true rfl) (Nat.le_of_ble_eq_true rfl) (fun hk hf => ?_)
  have ho := zsha (l := [(11, 24)]) ho
  refine g_pRF cx lk_X4_9 ho (Nat.le_of_ble_eq_true rfl) rfl dX4_init_9 rfl fi_4_0 (fun _ => rfl) (fun _ => rfl) ?_
  have hf := zfr.p (j := 0) (v := (some k)) (zshl ho hk) hf
  refine g_aload_n cx dX4_init_12 rfl ?_
  refine g_bipush cx dX4_init_13 bp_24 ?_
  refine k_newI cx hE hk hf (N := 24) dX4_init_15 (by decide) (by decide) (Nat.le_of_ble_eq_true rfl) (Nat.le_of_ble_eq_true rfl) (Nat.le_of_ble_eq_true rfl) (fun hk hf => ?_)
  have ho := zsha (l := [(11, 24)]) ho
  refine g_pRF cx lk_X4_15 ho (Nat.le_of_ble_eq_true rfl) rfl dX4_init_17 rfl fi_4_1 (fun _ => rfl) (fun _ => rfl) ?_
  have hf := zfr.p (j := 1) (v := (some (k + 1))) (zshl ho hk) hf
  refine g_aload_n cx dX4_init_20 rfl ?_
  refine g_bipush cx dX4_init_21 bp_24 ?_
  refine k_newI cx hE hk hf (N := 24) dX4_init_23 (by decide) (by decide) (Nat.le_of_ble_eq_true rfl) (Nat.le_of_ble_eq_true rfl) (Nat.le_of_ble_eq_true rfl) (fun hk hf => ?_)
  have ho := zsha (l := [(11, 24)]) ho
  refine g_pRF cx lk_X4_18 ho (Nat.le_of_ble_eq_true rfl) rfl dX4_init_25 rfl fi_4_2 (fun _ => rfl) (fun _ => rfl) ?_
  have hf := zfr.p (j := 2) (v := (some (k + 2))) (zshl ho hk) hf
  refine g_aload_n cx dX4_init_28 rfl ?_
  refine g_bipush cx dX4_init_29 bp_24 ?_
  refine k_newI cx hE hk hf (N := 24) dX4_init_31 (by decide) (by decide) (Nat.le_of_ble_eq_true rfl) (Nat.le_of_ble_eq_true rfl) (Nat.le_of_ble_eq_true rfl) (fun hk hf => ?_)
  have ho := zsha (l := [(11, 24)]) ho
  refine g_pRF cx lk_X4_21 ho (Nat.le_of_ble_eq_true rfl) rfl dX4_init_33 rfl fi_4_3 (fun _ => rfl) (fun _ => rfl) ?_
  have hf := zfr.p (j := 3) (v := (some (k + 3))) (zshl ho hk) hf
  refine g_aload_n cx dX4_init_36 rfl ?_
  refine g_bipush cx dX4_init_37 bp_24 ?_
  refine k_newI cx hE hk hf (N := 24) dX4_init_39 (by decide) (by decide) (Nat.le_of_ble_eq_true rfl) (Nat.le_of_ble_eq_true rfl) (Nat.le_of_ble_eq_true rfl) (fun hk hf => ?_)
  have ho := zsha (l := [(11, 24)]) ho
  refine g_pRF cx lk_X4_24 ho (Nat.le_of_ble_eq_true rfl) rfl dX4_init_41 rfl fi_4_4 (fun _ => rfl) (fun _ => rfl) ?_
  have hf := zfr.p (j := 4) (v := (some (k + 4))) (zshl ho hk) hf
  refine g_aload_n cx dX4_init_44 rfl ?_
  refine g_iconst cx dX4_init_45 ic_0 ?_
  refine Gx.N 46 rfl ?_
  refine g_pI cx lk_X4_27 ho (Nat.le_of_ble_eq_true rfl) rfl dX4_init_46 fi_4_5 rfl rfl ?_
  have hf := zfr.i (j := 5) (v := 0) (zshl ho hk) hf
  exact g_vret cx hE (Nat.le_of_ble_eq_true rfl) (Nat.le_of_ble_eq_true rfl) rfl dX4_init_49 ⟨rfl, by simp [nc_X4_init], rfl, rfl, hk, hf⟩
abbrev nc_X5_init : zSh := [(11, 0)]
def ii_X5_init (I : zI) (o k : Nat) : zI := (zu I o 1 0)
def pp_X5_init (P : zP) (o k : Nat) : zP := (zu P o 0 (some k))
theorem ev_X5_init (sh : zSh) (I : zI) (P : zP) (o k : Nat) (ho : sh[o]? = some (5, 2)) (hk : sh.length = k) (hf : zfr k I P) : Ev yX5_init cX5_init 1 none 1 20 1 0 [.ref o] sh I P (fun r sh2 I2 P2 => r = none ∧ sh2 = sh ++ nc_X5_init ∧ I2 = ii_X5_init I o k ∧ P2 = pp_X5_init P o k ∧ sh2.length = k + 1 ∧ zfr (k + 1) I2 P2) := by
  refine Ev.start [.ref o] pn_X5 rfl (Nat.le_of_ble_eq_true rfl) rfl (fun κ cx hE => ?_)
  refine g_aload_n cx dX5_init_0 rfl ?_
  refine g_objInit cx mo_X5_3 (Nat.le_of_ble_eq_true rfl) (zallL rfl) (Nat.le_of_ble_eq_true rfl) (Nat.le_of_ble_eq_true rfl) dX5_init_1 ?_
  refine g_aload_n cx dX5_init_4 rfl ?_
  refine g_iconst cx dX5_init_5 ic_0 ?_
  refine k_newI cx hE hk hf (N := 0) dX5_init_6 (by decide) (by decide) (Nat.le_of_ble_eq_true rfl) (Nat.le_of_ble_eq_true rfl) (Nat.le_of_ble_eq_true rfl) (fun hk hf => ?_)
  have ho := zsha (l := [(11, 0)]) ho
  refine g_pR cx lk_X5_9 ho (Nat.le_of_ble_eq_true rfl) rfl dX5_init_8 fi_5_0 (fun _ => rfl) (fun _ => rfl) ?_
  have hf := zfr.p (j := 0) (v := (some k)) (zshl ho hk) hf
  refine g_aload_n cx dX5_init_11 rfl ?_
  refine g_iconst cx dX5_init_12 ic_0 ?_
  refine g_pI cx lk_X5_15 ho (Nat.le_of_ble_eq_true rfl) rfl dX5_init_13 fi_5_1 rfl rfl ?_
  have hf := zfr.i (j := 1) (v := 0) (zshl ho hk) hf
  exact g_vret cx hE (Nat.le_of_ble_eq_true rfl) (Nat.le_of_ble_eq_true rfl) rfl dX5_init_16 ⟨rfl, by simp [nc_X5_init], rfl, rfl, hk, hf⟩
abbrev nc_X6_init : zSh := [(11, 8), (11, 60), (11, 400), (11, 400)]
def ii_X6_init (I : zI) (o k : Nat) : zI := (zu (zu (zu (zu (zu (zu (zu (zu (zu I o 4 (-1)) o 5 0) o 6 0) o 7 0) o 8 0) o 9 (-1)) o 10 (-1)) o 11 0) o 12 0)
def pp_X6_init (P : zP) (o k : Nat) : zP := (zu (zu (zu (zu P o 0 (some k)) o 1 (some (k + 1))) o 2 (some (k + 2))) o 3 (some (k + 3)))
theorem ev_X6_init (sh : zSh) (I : zI) (P : zP) (o k : Nat) (ho : sh[o]? = some (6, 13)) (hk : sh.length = k) (hf : zfr k I P) : Ev yX6_init cX6_init 1 none 1 20 4 868 [.ref o] sh I P (fun r sh2 I2 P2 => r = none ∧ sh2 = sh ++ nc_X6_init ∧ I2 = ii_X6_init I o k ∧ P2 = pp_X6_init P o k ∧ sh2.length = k + 4 ∧ zfr (k + 4) I2 P2) := by
  refine Ev.start [.ref o] pn_X6 rfl (Nat.le_of_ble_eq_true rfl) rfl (fun κ cx hE => ?_)
  refine g_aload_n cx dX6_init_0 rfl ?_
  refine g_objInit cx mo_X6_3 (Nat.le_of_ble_eq_true rfl) (zallL rfl) (Nat.le_of_ble_eq_true rfl) (Nat.le_of_ble_eq_true rfl) dX6_init_1 ?_
  refine g_aload_n cx dX6_init_4 rfl ?_
  refine g_bipush cx dX6_init_5 bp_8 ?_
  refine k_newI cx hE hk hf (N := 8) dX6_init_7 (by decide) (by decide) (Nat.le_of_ble_eq_true rfl) (Nat.le_of_ble_eq_true rfl) (Nat.le_of_ble_eq_true rfl) (fun hk hf => ?_)
  have ho := zsha (l := [(11, 8)]) ho
  refine g_pRF cx lk_X6_9 ho (Nat.le_of_ble_eq_true rfl) rfl dX6_init_9 rfl fi_6_0 (fun _ => rfl) (fun _ => rfl) ?_
  have hf := zfr.p (j := 0) (v := (some k)) (zshl ho hk) hf
  refine g_aload_n cx dX6_init_12 rfl ?_
  refine g_bipush cx dX6_init_13 bp_60 ?_
  refine k_newI cx hE hk hf (N := 60) dX6_init_15 (by decide) (by decide) (Nat.le_of_ble_eq_true rfl) (Nat.le_of_ble_eq_true rfl) (Nat.le_of_ble_eq_true rfl) (fun hk hf => ?_)
  have ho := zsha (l := [(11, 60)]) ho
  refine g_pRF cx lk_X6_15 ho (Nat.le_of_ble_eq_true rfl) rfl dX6_init_17 rfl fi_6_1 (fun _ => rfl) (fun _ => rfl) ?_
  have hf := zfr.p (j := 1) (v := (some (k + 1))) (zshl ho hk) hf
  refine g_aload_n cx dX6_init_20 rfl ?_
  refine g_sipush cx dX6_init_21 sp_400 ?_
  refine k_newI cx hE hk hf (N := 400) dX6_init_24 (by decide) (by decide) (Nat.le_of_ble_eq_true rfl) (Nat.le_of_ble_eq_true rfl) (Nat.le_of_ble_eq_true rfl) (fun hk hf => ?_)
  have ho := zsha (l := [(11, 400)]) ho
  refine g_pRF cx lk_X6_18 ho (Nat.le_of_ble_eq_true rfl) rfl dX6_init_26 rfl fi_6_2 (fun _ => rfl) (fun _ => rfl) ?_
  have hf := zfr.p (j := 2) (v := (some (k + 2))) (zshl ho hk) hf
  refine g_aload_n cx dX6_init_29 rfl ?_
  refine g_sipush cx dX6_init_30 sp_400 ?_
  refine k_newI cx hE hk hf (N := 400) dX6_init_33 (by decide) (by decide) (Nat.le_of_ble_eq_true rfl) (Nat.le_of_ble_eq_true rfl) (Nat.le_of_ble_eq_true rfl) (fun hk hf => ?_)
  have ho := zsha (l := [(11, 400)]) ho
  refine g_pRF cx lk_X6_21 ho (Nat.le_of_ble_eq_true rfl) rfl dX6_init_35 rfl fi_6_3 (fun _ => rfl) (fun _ => rfl) ?_
  have hf := zfr.p (j := 3) (v := (some (k + 3))) (zshl ho hk) hf
  refine g_aload_n cx dX6_init_38 rfl ?_
  refine g_iconst cx dX6_init_39 ic_m1 ?_
  refine g_pI cx lk_X6_24 ho (Nat.le_of_ble_eq_true rfl) rfl dX6_init_40 fi_6_4 rfl rfl ?_
  have hf := zfr.i (j := 4) (v := (-1)) (zshl ho hk) hf
  refine g_aload_n cx dX6_init_43 rfl ?_
  refine g_iconst cx dX6_init_44 ic_0 ?_
  refine g_pI cx lk_X6_28 ho (Nat.le_of_ble_eq_true rfl) rfl dX6_init_45 fi_6_5 rfl rfl ?_
  have hf := zfr.i (j := 5) (v := 0) (zshl ho hk) hf
  refine Gx.N 48 rfl ?_
  refine g_aload_n cx dX6_init_48 rfl ?_
  refine g_iconst cx dX6_init_49 ic_0 ?_
  refine g_pI cx lk_X6_31 ho (Nat.le_of_ble_eq_true rfl) rfl dX6_init_50 fi_6_6 rfl rfl ?_
  have hf := zfr.i (j := 6) (v := 0) (zshl ho hk) hf
  refine g_aload_n cx dX6_init_53 rfl ?_
  refine g_iconst cx dX6_init_54 ic_0 ?_
  refine g_pI cx lk_X6_34 ho (Nat.le_of_ble_eq_true rfl) rfl dX6_init_55 fi_6_7 rfl rfl ?_
  have hf := zfr.i (j := 7) (v := 0) (zshl ho hk) hf
  refine g_aload_n cx dX6_init_58 rfl ?_
  refine g_iconst cx dX6_init_59 ic_0 ?_
  refine g_pI cx lk_X6_37 ho (Nat.le_of_ble_eq_true rfl) rfl dX6_init_60 fi_6_8 rfl rfl ?_
  have hf := zfr.i (j := 8) (v := 0) (zshl ho hk) hf
  refine g_aload_n cx dX6_init_63 rfl ?_
  refine g_iconst cx dX6_init_64 ic_m1 ?_
  refine g_pI cx lk_X6_40 ho (Nat.le_of_ble_eq_true rfl) rfl dX6_init_65 fi_6_9 rfl rfl ?_
  have hf := zfr.i (j := 9) (v := (-1)) (zshl ho hk) hf
  refine g_aload_n cx dX6_init_68 rfl ?_
  refine g_iconst cx dX6_init_69 ic_m1 ?_
  refine g_pI cx lk_X6_43 ho (Nat.le_of_ble_eq_true rfl) rfl dX6_init_70 fi_6_10 rfl rfl ?_
  have hf := zfr.i (j := 10) (v := (-1)) (zshl ho hk) hf
  refine g_aload_n cx dX6_init_73 rfl ?_
  refine g_iconst cx dX6_init_74 ic_0 ?_
  refine g_pI cx lk_X6_46 ho (Nat.le_of_ble_eq_true rfl) rfl dX6_init_75 fi_6_11 rfl rfl ?_
  have hf := zfr.i (j := 11) (v := 0) (zshl ho hk) hf
  refine g_aload_n cx dX6_init_78 rfl ?_
  refine g_iconst cx dX6_init_79 ic_0 ?_
  refine g_pI cx lk_X6_49 ho (Nat.le_of_ble_eq_true rfl) rfl dX6_init_80 fi_6_12 rfl rfl ?_
  have hf := zfr.i (j := 12) (v := 0) (zshl ho hk) hf
  exact g_vret cx hE (Nat.le_of_ble_eq_true rfl) (Nat.le_of_ble_eq_true rfl) rfl dX6_init_83 ⟨rfl, by simp [nc_X6_init], rfl, rfl, hk, hf⟩
abbrev nc_X7_init : zSh := [(11, 400), (11, 400), (11, 400), (11, 400), (11, 401), (11, 400), (11, 400), (11, 8), (12, 400), (12, 400), (12, 8)]
def ii_X7_init (I : zI) (o k : Nat) : zI := (zu (zu (zu (zu (zu (zu I o 11 0) o 12 0) o 13 0) o 14 0) o 15 0) o 16 0)
def pp_X7_init (P : zP) (o k : Nat) : zP := (zu (zu (zu (zu (zu (zu (zu (zu (zu (zu (zu P o 0 (some k)) o 1 (some (k + 1))) o 2 (some (k + 2))) o 3 (some (k + 3))) o 4 (some (k + 4))) o 5 (some (k + 5))) o 6 (some (k + 6))) o 7 (some (k + 7))) o 8 (some (k + 8))) o 9 (some (k + 9))) o 10 (some (k + 10)))
theorem ev_X7_init (sh : zSh) (I : zI) (P : zP) (o k : Nat) (ho : sh[o]? = some (7, 17)) (hk : sh.length = k) (hf : zfr k I P) : Ev yX7_init cX7_init 1 none 1 20 11 3617 [.ref o] sh I P (fun r sh2 I2 P2 => r = none ∧ sh2 = sh ++ nc_X7_init ∧ I2 = ii_X7_init I o k ∧ P2 = pp_X7_init P o k ∧ sh2.length = k + 11 ∧ zfr (k + 11) I2 P2) := by
  refine Ev.start [.ref o] pn_X7 rfl (Nat.le_of_ble_eq_true rfl) rfl (fun κ cx hE => ?_)
  refine g_aload_n cx dX7_init_0 rfl ?_
  refine g_objInit cx mo_X7_3 (Nat.le_of_ble_eq_true rfl) (zallL rfl) (Nat.le_of_ble_eq_true rfl) (Nat.le_of_ble_eq_true rfl) dX7_init_1 ?_
  refine g_aload_n cx dX7_init_4 rfl ?_
  refine g_sipush cx dX7_init_5 sp_400 ?_
  refine k_newI cx hE hk hf (N := 400) dX7_init_8 (by decide) (by decide) (Nat.le_of_ble_eq_true rfl) (Nat.le_of_ble_eq_true rfl) (Nat.le_of_ble_eq_true rfl) (fun hk hf => ?_)
  have ho := zsha (l := [(11, 400)]) ho
  refine g_pRF cx lk_X7_9 ho (Nat.le_of_ble_eq_true rfl) rfl dX7_init_10 rfl fi_7_0 (fun _ => rfl) (fun _ => rfl) ?_
  have hf := zfr.p (j := 0) (v := (some k)) (zshl ho hk) hf
  refine g_aload_n cx dX7_init_13 rfl ?_
  refine g_sipush cx dX7_init_14 sp_400 ?_
  refine k_newI cx hE hk hf (N := 400) dX7_init_17 (by decide) (by decide) (Nat.le_of_ble_eq_true rfl) (Nat.le_of_ble_eq_true rfl) (Nat.le_of_ble_eq_true rfl) (fun hk hf => ?_)
  have ho := zsha (l := [(11, 400)]) ho
  refine g_pRF cx lk_X7_15 ho (Nat.le_of_ble_eq_true rfl) rfl dX7_init_19 rfl fi_7_1 (fun _ => rfl) (fun _ => rfl) ?_
  have hf := zfr.p (j := 1) (v := (some (k + 1))) (zshl ho hk) hf
  refine g_aload_n cx dX7_init_22 rfl ?_
  refine g_sipush cx dX7_init_23 sp_400 ?_
  refine k_newI cx hE hk hf (N := 400) dX7_init_26 (by decide) (by decide) (Nat.le_of_ble_eq_true rfl) (Nat.le_of_ble_eq_true rfl) (Nat.le_of_ble_eq_true rfl) (fun hk hf => ?_)
  have ho := zsha (l := [(11, 400)]) ho
  refine g_pRF cx lk_X7_18 ho (Nat.le_of_ble_eq_true rfl) rfl dX7_init_28 rfl fi_7_2 (fun _ => rfl) (fun _ => rfl) ?_
  have hf := zfr.p (j := 2) (v := (some (k + 2))) (zshl ho hk) hf
  refine g_aload_n cx dX7_init_31 rfl ?_
  refine g_sipush cx dX7_init_32 sp_400 ?_
  refine k_newI cx hE hk hf (N := 400) dX7_init_35 (by decide) (by decide) (Nat.le_of_ble_eq_true rfl) (Nat.le_of_ble_eq_true rfl) (Nat.le_of_ble_eq_true rfl) (fun hk hf => ?_)
  have ho := zsha (l := [(11, 400)]) ho
  refine g_pRF cx lk_X7_21 ho (Nat.le_of_ble_eq_true rfl) rfl dX7_init_37 rfl fi_7_3 (fun _ => rfl) (fun _ => rfl) ?_
  have hf := zfr.p (j := 3) (v := (some (k + 3))) (zshl ho hk) hf
  refine g_aload_n cx dX7_init_40 rfl ?_
  refine g_sipush cx dX7_init_41 sp_401 ?_
  refine k_newI cx hE hk hf (N := 401) dX7_init_44 (by decide) (by decide) (Nat.le_of_ble_eq_true rfl) (Nat.le_of_ble_eq_true rfl) (Nat.le_of_ble_eq_true rfl) (fun hk hf => ?_)
  have ho := zsha (l := [(11, 401)]) ho
  refine g_pRF cx lk_X7_24 ho (Nat.le_of_ble_eq_true rfl) rfl dX7_init_46 rfl fi_7_4 (fun _ => rfl) (fun _ => rfl) ?_
  have hf := zfr.p (j := 4) (v := (some (k + 4))) (zshl ho hk) hf
  refine g_aload_n cx dX7_init_49 rfl ?_
  refine g_sipush cx dX7_init_50 sp_400 ?_
  refine Gx.N 53 rfl ?_
  refine k_newI cx hE hk hf (N := 400) dX7_init_53 (by decide) (by decide) (Nat.le_of_ble_eq_true rfl) (Nat.le_of_ble_eq_true rfl) (Nat.le_of_ble_eq_true rfl) (fun hk hf => ?_)
  have ho := zsha (l := [(11, 400)]) ho
  refine g_pRF cx lk_X7_27 ho (Nat.le_of_ble_eq_true rfl) rfl dX7_init_55 rfl fi_7_5 (fun _ => rfl) (fun _ => rfl) ?_
  have hf := zfr.p (j := 5) (v := (some (k + 5))) (zshl ho hk) hf
  refine g_aload_n cx dX7_init_58 rfl ?_
  refine g_sipush cx dX7_init_59 sp_400 ?_
  refine k_newI cx hE hk hf (N := 400) dX7_init_62 (by decide) (by decide) (Nat.le_of_ble_eq_true rfl) (Nat.le_of_ble_eq_true rfl) (Nat.le_of_ble_eq_true rfl) (fun hk hf => ?_)
  have ho := zsha (l := [(11, 400)]) ho
  refine g_pRF cx lk_X7_30 ho (Nat.le_of_ble_eq_true rfl) rfl dX7_init_64 rfl fi_7_6 (fun _ => rfl) (fun _ => rfl) ?_
  have hf := zfr.p (j := 6) (v := (some (k + 6))) (zshl ho hk) hf
  refine g_aload_n cx dX7_init_67 rfl ?_
  refine g_bipush cx dX7_init_68 bp_8 ?_
  refine k_newI cx hE hk hf (N := 8) dX7_init_70 (by decide) (by decide) (Nat.le_of_ble_eq_true rfl) (Nat.le_of_ble_eq_true rfl) (Nat.le_of_ble_eq_true rfl) (fun hk hf => ?_)
  have ho := zsha (l := [(11, 8)]) ho
  refine g_pRF cx lk_X7_33 ho (Nat.le_of_ble_eq_true rfl) rfl dX7_init_72 rfl fi_7_7 (fun _ => rfl) (fun _ => rfl) ?_
  have hf := zfr.p (j := 7) (v := (some (k + 7))) (zshl ho hk) hf
  refine g_aload_n cx dX7_init_75 rfl ?_
  refine g_sipush cx dX7_init_76 sp_400 ?_
  refine k_newZ cx hE hk hf (N := 400) dX7_init_79 (by decide) (by decide) (Nat.le_of_ble_eq_true rfl) (Nat.le_of_ble_eq_true rfl) (Nat.le_of_ble_eq_true rfl) (fun hk hf => ?_)
  have ho := zsha (l := [(12, 400)]) ho
  refine g_pRF cx lk_X7_36 ho (Nat.le_of_ble_eq_true rfl) rfl dX7_init_81 rfl fi_7_8 (fun _ => rfl) (fun _ => rfl) ?_
  have hf := zfr.p (j := 8) (v := (some (k + 8))) (zshl ho hk) hf
  refine g_aload_n cx dX7_init_84 rfl ?_
  refine g_sipush cx dX7_init_85 sp_400 ?_
  refine k_newZ cx hE hk hf (N := 400) dX7_init_88 (by decide) (by decide) (Nat.le_of_ble_eq_true rfl) (Nat.le_of_ble_eq_true rfl) (Nat.le_of_ble_eq_true rfl) (fun hk hf => ?_)
  have ho := zsha (l := [(12, 400)]) ho
  refine g_pRF cx lk_X7_40 ho (Nat.le_of_ble_eq_true rfl) rfl dX7_init_90 rfl fi_7_9 (fun _ => rfl) (fun _ => rfl) ?_
  have hf := zfr.p (j := 9) (v := (some (k + 9))) (zshl ho hk) hf
  refine g_aload_n cx dX7_init_93 rfl ?_
  refine g_bipush cx dX7_init_94 bp_8 ?_
  refine k_newZ cx hE hk hf (N := 8) dX7_init_96 (by decide) (by decide) (Nat.le_of_ble_eq_true rfl) (Nat.le_of_ble_eq_true rfl) (Nat.le_of_ble_eq_true rfl) (fun hk hf => ?_)
  have ho := zsha (l := [(12, 8)]) ho
  refine g_pRF cx lk_X7_43 ho (Nat.le_of_ble_eq_true rfl) rfl dX7_init_98 rfl fi_7_10 (fun _ => rfl) (fun _ => rfl) ?_
  have hf := zfr.p (j := 10) (v := (some (k + 10))) (zshl ho hk) hf
  refine g_aload_n cx dX7_init_101 rfl ?_
  refine g_iconst cx dX7_init_102 ic_0 ?_
  refine g_pI cx lk_X7_46 ho (Nat.le_of_ble_eq_true rfl) rfl dX7_init_103 fi_7_11 rfl rfl ?_
  have hf := zfr.i (j := 11) (v := 0) (zshl ho hk) hf
  refine Gx.N 106 rfl ?_
  refine g_aload_n cx dX7_init_106 rfl ?_
  refine g_iconst cx dX7_init_107 ic_0 ?_
  refine g_pI cx lk_X7_50 ho (Nat.le_of_ble_eq_true rfl) rfl dX7_init_108 fi_7_12 rfl rfl ?_
  have hf := zfr.i (j := 12) (v := 0) (zshl ho hk) hf
  refine g_aload_n cx dX7_init_111 rfl ?_
  refine g_iconst cx dX7_init_112 ic_0 ?_
  refine g_pI cx lk_X7_53 ho (Nat.le_of_ble_eq_true rfl) rfl dX7_init_113 fi_7_13 rfl rfl ?_
  have hf := zfr.i (j := 13) (v := 0) (zshl ho hk) hf
  refine g_aload_n cx dX7_init_116 rfl ?_
  refine g_iconst cx dX7_init_117 ic_0 ?_
  refine g_pI cx lk_X7_56 ho (Nat.le_of_ble_eq_true rfl) rfl dX7_init_118 fi_7_14 rfl rfl ?_
  have hf := zfr.i (j := 14) (v := 0) (zshl ho hk) hf
  refine g_aload_n cx dX7_init_121 rfl ?_
  refine g_iconst cx dX7_init_122 ic_0 ?_
  refine g_pI cx lk_X7_59 ho (Nat.le_of_ble_eq_true rfl) rfl dX7_init_123 fi_7_15 rfl rfl ?_
  have hf := zfr.i (j := 15) (v := 0) (zshl ho hk) hf
  refine g_aload_n cx dX7_init_126 rfl ?_
  refine g_iconst cx dX7_init_127 ic_0 ?_
  refine g_pI cx lk_X7_62 ho (Nat.le_of_ble_eq_true rfl) rfl dX7_init_128 fi_7_16 rfl rfl ?_
  have hf := zfr.i (j := 16) (v := 0) (zshl ho hk) hf
  exact g_vret cx hE (Nat.le_of_ble_eq_true rfl) (Nat.le_of_ble_eq_true rfl) rfl dX7_init_131 ⟨rfl, by simp [nc_X7_init], rfl, rfl, hk, hf⟩
abbrev nc_X8_init : zSh := [(11, 1000), (11, 1000), (11, 400), (12, 400), (11, 36)]
def ii_X8_init (I : zI) (o k : Nat) : zI := (zu (zu (zu (zu (zu (zu I o 5 0) o 6 0) o 7 0) o 8 0) o 9 0) o 10 0)
def pp_X8_init (P : zP) (o k : Nat) : zP := (zu (zu (zu (zu (zu P o 0 (some k)) o 1 (some (k + 1))) o 2 (some (k + 2))) o 3 (some (k + 3))) o 4 (some (k + 4)))
theorem ev_X8_init (sh : zSh) (I : zI) (P : zP) (o k : Nat) (ho : sh[o]? = some (8, 11)) (hk : sh.length = k) (hf : zfr k I P) : Ev yX8_init cX8_init 1 none 1 20 5 2836 [.ref o] sh I P (fun r sh2 I2 P2 => r = none ∧ sh2 = sh ++ nc_X8_init ∧ I2 = ii_X8_init I o k ∧ P2 = pp_X8_init P o k ∧ sh2.length = k + 5 ∧ zfr (k + 5) I2 P2) := by
  refine Ev.start [.ref o] pn_X8 rfl (Nat.le_of_ble_eq_true rfl) rfl (fun κ cx hE => ?_)
  refine g_aload_n cx dX8_init_0 rfl ?_
  refine g_objInit cx mo_X8_3 (Nat.le_of_ble_eq_true rfl) (zallL rfl) (Nat.le_of_ble_eq_true rfl) (Nat.le_of_ble_eq_true rfl) dX8_init_1 ?_
  refine g_aload_n cx dX8_init_4 rfl ?_
  refine g_sipush cx dX8_init_5 sp_1000 ?_
  refine k_newI cx hE hk hf (N := 1000) dX8_init_8 (by decide) (by decide) (Nat.le_of_ble_eq_true rfl) (Nat.le_of_ble_eq_true rfl) (Nat.le_of_ble_eq_true rfl) (fun hk hf => ?_)
  have ho := zsha (l := [(11, 1000)]) ho
  refine g_pRF cx lk_X8_9 ho (Nat.le_of_ble_eq_true rfl) rfl dX8_init_10 rfl fi_8_0 (fun _ => rfl) (fun _ => rfl) ?_
  have hf := zfr.p (j := 0) (v := (some k)) (zshl ho hk) hf
  refine g_aload_n cx dX8_init_13 rfl ?_
  refine g_sipush cx dX8_init_14 sp_1000 ?_
  refine k_newI cx hE hk hf (N := 1000) dX8_init_17 (by decide) (by decide) (Nat.le_of_ble_eq_true rfl) (Nat.le_of_ble_eq_true rfl) (Nat.le_of_ble_eq_true rfl) (fun hk hf => ?_)
  have ho := zsha (l := [(11, 1000)]) ho
  refine g_pRF cx lk_X8_15 ho (Nat.le_of_ble_eq_true rfl) rfl dX8_init_19 rfl fi_8_1 (fun _ => rfl) (fun _ => rfl) ?_
  have hf := zfr.p (j := 1) (v := (some (k + 1))) (zshl ho hk) hf
  refine g_aload_n cx dX8_init_22 rfl ?_
  refine g_sipush cx dX8_init_23 sp_400 ?_
  refine k_newI cx hE hk hf (N := 400) dX8_init_26 (by decide) (by decide) (Nat.le_of_ble_eq_true rfl) (Nat.le_of_ble_eq_true rfl) (Nat.le_of_ble_eq_true rfl) (fun hk hf => ?_)
  have ho := zsha (l := [(11, 400)]) ho
  refine g_pRF cx lk_X8_18 ho (Nat.le_of_ble_eq_true rfl) rfl dX8_init_28 rfl fi_8_2 (fun _ => rfl) (fun _ => rfl) ?_
  have hf := zfr.p (j := 2) (v := (some (k + 2))) (zshl ho hk) hf
  refine g_aload_n cx dX8_init_31 rfl ?_
  refine g_sipush cx dX8_init_32 sp_400 ?_
  refine k_newZ cx hE hk hf (N := 400) dX8_init_35 (by decide) (by decide) (Nat.le_of_ble_eq_true rfl) (Nat.le_of_ble_eq_true rfl) (Nat.le_of_ble_eq_true rfl) (fun hk hf => ?_)
  have ho := zsha (l := [(12, 400)]) ho
  refine g_pRF cx lk_X8_21 ho (Nat.le_of_ble_eq_true rfl) rfl dX8_init_37 rfl fi_8_3 (fun _ => rfl) (fun _ => rfl) ?_
  have hf := zfr.p (j := 3) (v := (some (k + 3))) (zshl ho hk) hf
  refine g_aload_n cx dX8_init_40 rfl ?_
  refine g_bipush cx dX8_init_41 bp_36 ?_
  refine k_newI cx hE hk hf (N := 36) dX8_init_43 (by decide) (by decide) (Nat.le_of_ble_eq_true rfl) (Nat.le_of_ble_eq_true rfl) (Nat.le_of_ble_eq_true rfl) (fun hk hf => ?_)
  have ho := zsha (l := [(11, 36)]) ho
  refine g_pRF cx lk_X8_25 ho (Nat.le_of_ble_eq_true rfl) rfl dX8_init_45 rfl fi_8_4 (fun _ => rfl) (fun _ => rfl) ?_
  have hf := zfr.p (j := 4) (v := (some (k + 4))) (zshl ho hk) hf
  refine g_aload_n cx dX8_init_48 rfl ?_
  refine g_iconst cx dX8_init_49 ic_0 ?_
  refine Gx.N 50 rfl ?_
  refine g_pI cx lk_X8_28 ho (Nat.le_of_ble_eq_true rfl) rfl dX8_init_50 fi_8_5 rfl rfl ?_
  have hf := zfr.i (j := 5) (v := 0) (zshl ho hk) hf
  refine g_aload_n cx dX8_init_53 rfl ?_
  refine g_iconst cx dX8_init_54 ic_0 ?_
  refine g_pI cx lk_X8_32 ho (Nat.le_of_ble_eq_true rfl) rfl dX8_init_55 fi_8_6 rfl rfl ?_
  have hf := zfr.i (j := 6) (v := 0) (zshl ho hk) hf
  refine g_aload_n cx dX8_init_58 rfl ?_
  refine g_iconst cx dX8_init_59 ic_0 ?_
  refine g_pI cx lk_X8_36 ho (Nat.le_of_ble_eq_true rfl) rfl dX8_init_60 fi_8_7 rfl rfl ?_
  have hf := zfr.i (j := 7) (v := 0) (zshl ho hk) hf
  refine g_aload_n cx dX8_init_63 rfl ?_
  refine g_iconst cx dX8_init_64 ic_0 ?_
  refine g_pI cx lk_X8_39 ho (Nat.le_of_ble_eq_true rfl) rfl dX8_init_65 fi_8_8 rfl rfl ?_
  have hf := zfr.i (j := 8) (v := 0) (zshl ho hk) hf
  refine g_aload_n cx dX8_init_68 rfl ?_
  refine g_iconst cx dX8_init_69 ic_0 ?_
  refine g_pI cx lk_X8_42 ho (Nat.le_of_ble_eq_true rfl) rfl dX8_init_70 fi_8_9 rfl rfl ?_
  have hf := zfr.i (j := 9) (v := 0) (zshl ho hk) hf
  refine g_aload_n cx dX8_init_73 rfl ?_
  refine g_iconst cx dX8_init_74 ic_0 ?_
  refine g_pI cx lk_X8_45 ho (Nat.le_of_ble_eq_true rfl) rfl dX8_init_75 fi_8_10 rfl rfl ?_
  have hf := zfr.i (j := 10) (v := 0) (zshl ho hk) hf
  exact g_vret cx hE (Nat.le_of_ble_eq_true rfl) (Nat.le_of_ble_eq_true rfl) rfl dX8_init_78 ⟨rfl, by simp [nc_X8_init], rfl, rfl, hk, hf⟩
abbrev nc_X1_init : zSh := [(11, 400), (12, 400)]
def ii_X1_init (I : zI) (o k : Nat) : zI := (zu (zu (zu (zu I o 2 0) o 3 0) o 4 0) o 5 0)
def pp_X1_init (P : zP) (o k : Nat) : zP := (zu (zu P o 0 (some k)) o 1 (some (k + 1)))
theorem ev_X1_init (sh : zSh) (I : zI) (P : zP) (o k : Nat) (ho : sh[o]? = some (1, 6)) (hk : sh.length = k) (hf : zfr k I P) : Ev yX1_init cX1_init 1 none 1 20 2 800 [.ref o] sh I P (fun r sh2 I2 P2 => r = none ∧ sh2 = sh ++ nc_X1_init ∧ I2 = ii_X1_init I o k ∧ P2 = pp_X1_init P o k ∧ sh2.length = k + 2 ∧ zfr (k + 2) I2 P2) := by
  refine Ev.start [.ref o] pn_X1 rfl (Nat.le_of_ble_eq_true rfl) rfl (fun κ cx hE => ?_)
  refine g_aload_n cx dX1_init_0 rfl ?_
  refine g_objInit cx mo_X1_3 (Nat.le_of_ble_eq_true rfl) (zallL rfl) (Nat.le_of_ble_eq_true rfl) (Nat.le_of_ble_eq_true rfl) dX1_init_1 ?_
  refine g_aload_n cx dX1_init_4 rfl ?_
  refine g_sipush cx dX1_init_5 sp_400 ?_
  refine k_newI cx hE hk hf (N := 400) dX1_init_8 (by decide) (by decide) (Nat.le_of_ble_eq_true rfl) (Nat.le_of_ble_eq_true rfl) (Nat.le_of_ble_eq_true rfl) (fun hk hf => ?_)
  have ho := zsha (l := [(11, 400)]) ho
  refine g_pRF cx lk_X1_9 ho (Nat.le_of_ble_eq_true rfl) rfl dX1_init_10 rfl fi_1_0 (fun _ => rfl) (fun _ => rfl) ?_
  have hf := zfr.p (j := 0) (v := (some k)) (zshl ho hk) hf
  refine g_aload_n cx dX1_init_13 rfl ?_
  refine g_sipush cx dX1_init_14 sp_400 ?_
  refine k_newZ cx hE hk hf (N := 400) dX1_init_17 (by decide) (by decide) (Nat.le_of_ble_eq_true rfl) (Nat.le_of_ble_eq_true rfl) (Nat.le_of_ble_eq_true rfl) (fun hk hf => ?_)
  have ho := zsha (l := [(12, 400)]) ho
  refine g_pRF cx lk_X1_15 ho (Nat.le_of_ble_eq_true rfl) rfl dX1_init_19 rfl fi_1_1 (fun _ => rfl) (fun _ => rfl) ?_
  have hf := zfr.p (j := 1) (v := (some (k + 1))) (zshl ho hk) hf
  refine g_aload_n cx dX1_init_22 rfl ?_
  refine g_iconst cx dX1_init_23 ic_0 ?_
  refine g_pI cx lk_X1_19 ho (Nat.le_of_ble_eq_true rfl) rfl dX1_init_24 fi_1_2 rfl rfl ?_
  have hf := zfr.i (j := 2) (v := 0) (zshl ho hk) hf
  refine g_aload_n cx dX1_init_27 rfl ?_
  refine g_iconst cx dX1_init_28 ic_0 ?_
  refine g_pI cx lk_X1_23 ho (Nat.le_of_ble_eq_true rfl) rfl dX1_init_29 fi_1_3 rfl rfl ?_
  have hf := zfr.i (j := 3) (v := 0) (zshl ho hk) hf
  refine g_aload_n cx dX1_init_32 rfl ?_
  refine g_iconst cx dX1_init_33 ic_0 ?_
  refine g_pI cx lk_X1_26 ho (Nat.le_of_ble_eq_true rfl) rfl dX1_init_34 fi_1_4 rfl rfl ?_
  have hf := zfr.i (j := 4) (v := 0) (zshl ho hk) hf
  refine g_aload_n cx dX1_init_37 rfl ?_
  refine g_iconst cx dX1_init_38 ic_0 ?_
  refine g_pI cx lk_X1_29 ho (Nat.le_of_ble_eq_true rfl) rfl dX1_init_39 fi_1_5 rfl rfl ?_
  have hf := zfr.i (j := 5) (v := 0) (zshl ho hk) hf
  exact g_vret cx hE (Nat.le_of_ble_eq_true rfl) (Nat.le_of_ble_eq_true rfl) rfl dX1_init_42 ⟨rfl, by simp [nc_X1_init], rfl, rfl, hk, hf⟩
