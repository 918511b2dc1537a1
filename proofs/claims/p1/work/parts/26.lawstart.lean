set_option maxRecDepth 100000 in
set_option maxHeartbeats 4000000 in
theorem law_start {p : Program} {e : Env} {s : State} {m : MethodId} {below : List Frame} {meth : Method} {c : Code} (l : Launch) {b L : Nat} {xs : Nat → Int32} (hL : L ≤ 3072) (C0 : lw_At p s m meth c b L xs) (Inv : Nat → zI → zP → Prop) (h0 : Inv 0 IIy PPy) (hs : ∀ n I P, 6 * n + 6 ≤ L → PSt P → Inv n I P → lawStep (fun j => xs (6 * n + j)) (Inv (n + 1)) I P) : W p l e room_1 s m #[Value.ref b] below meth c s.heap [] 0 0 (lw_Z below #[Value.ref b] s) (entryFrame m ([Value.ref b] : List Value).toArray 4) := by
  obtain ⟨hx, hb, hr, hml, hown, hts, hX, hbl, hlocks, hgv⟩ := C0
  obtain ⟨D, dA, tA, htA, hK⟩ := zK_start hts hgv b
  subst htA
  have cx : Cx ⟨"ProbeLoomLaw", meth.name, ""⟩ code 4 ret 10 394 (p, l, e, room_1, s, m, #[Value.ref (tA 3)], below, meth, c, lw_Z below #[Value.ref (tA 3)] s, D, dA, s.heap.size, tA, 4) := ⟨hx, hb, hr, hml, rfl, hown, fun w hw => hts w (lt_G hw), hK, rfl, hlocks, Nat.le_refl _, Nat.le_refl _, Nat.le_refl _⟩
  have hLX : lawX L xs (p, l, e, room_1, s, m, #[Value.ref (tA 3)], below, meth, c, lw_Z below #[Value.ref (tA 3)] s, D, dA, s.heap.size, tA, 4) := ⟨hX, hbl, rfl, rfl, rfl, rfl⟩
  have hG : Gx (p, l, e, room_1, s, m, #[Value.ref (tA 3)], below, meth, c, lw_Z below #[Value.ref (tA 3)] s, D, dA, s.heap.size, tA, 4) 0 [.retAddr 3, .float 0, .float 0, .float 0] [] [] I00 P00 0 0 := by
    generalize (p, l, e, room_1, s, m, #[Value.ref (tA 3)], below, meth, c, lw_Z below #[Value.ref (tA 3)] s, D, dA, Array.size s.heap, tA, 4) = κ at cx hLX ⊢
    refine g_new cx (t := 9) (q := (RX9, TX9, 12)) rfl cl_L_7 ins_X9 ini_X9 (fun _ => rfl) (fun _ => rfl) df_9 (lawroom hLX (Nat.le_of_ble_eq_true rfl) (Nat.le_of_ble_eq_true rfl)) dL_law_0 ?_
    refine Gx.S [.ref 0] rfl ?_
    refine Gx.H SH00 rfl ?_
    refine g_dup cx dL_law_3 rfl ?_
    refine g_callI cx [] [.ref 0] (ev_X9_init hf_x) mt_X9_init ml_L_9 rfl (zallL rfl) (Nat.le_of_ble_eq_true rfl) (Nat.le_of_ble_eq_true rfl) (Nat.le_of_ble_eq_true rfl) (lawroom hLX (Nat.le_of_ble_eq_true rfl) (Nat.le_of_ble_eq_true rfl)) dL_law_4 (fun r sh2 I2 P2 hq => ?_)
    obtain ⟨rfl, rfl, rfl, rfl, hk, hf⟩ := hq
    refine Gx.S [.ref 0] rfl ?_
    refine g_astore_n cx dL_law_7 (Nat.le_of_ble_eq_true rfl) ?_
    refine Gx.L [.retAddr 3, .ref 0, .float 0, .float 0] rfl ?_
    refine g_new cx (t := 10) (q := (RX10, TX10, 87)) rfl cl_L_10 ins_X10 ini_X10 (fun j => (hf _ (Nat.le_of_eq hk.symm)).1 j) (fun j => (hf _ (Nat.le_of_eq hk.symm)).2 j) df_10 (lawroom hLX (Nat.le_of_ble_eq_true rfl) (Nat.le_of_ble_eq_true rfl)) dL_law_8 ?_
    refine Gx.S [.ref 155] rfl ?_
    refine Gx.H SHx0 rfl ?_
    refine g_dup cx dL_law_11 rfl ?_
    refine g_callI cx [] [.ref 155] (ev_X10_init (hf.up (Nat.le_succ _))) mt_X10_init ml_L_12 rfl (zallL rfl) (Nat.le_of_ble_eq_true rfl) (Nat.le_of_ble_eq_true rfl) (Nat.le_of_ble_eq_true rfl) (lawroom hLX (Nat.le_of_ble_eq_true rfl) (Nat.le_of_ble_eq_true rfl)) dL_law_12 (fun r sh2 I2 P2 hq => ?_)
    obtain ⟨rfl, rfl, rfl, rfl, hk2, hf2⟩ := hq
    refine Gx.S [.ref 155] rfl ?_
    refine g_astore_n cx dL_law_15 (Nat.le_of_ble_eq_true rfl) ?_
    refine Gx.L [.retAddr 3, .ref 0, .ref 155, .float 0] rfl ?_
    refine g_iconst cx dL_law_16 ic_0 ?_
    refine g_istore_n cx dL_law_17 (Nat.le_of_ble_eq_true rfl) ?_
    refine Gx.L [.retAddr 3, .ref 0, .ref 155, .int (nI (6 * 0))] rfl ?_
    refine Gx.C 221 128337 rfl rfl ?_
    exact law_loop cx hLX hL Inv hs 514 0 IIy PPy (by omega) (by omega) PSt_y h0
  have hl := lv_entry ([Value.ref (tA 3)]) (n := 4) (Nat.le_of_ble_eq_true rfl)
  rw [lg_entry_eq]
  refine hG s.heap [] _ (fun k q h => by simp [zW] at h) rfl va_S.rf ⟨hl.1, hl.2.1, fun q hq => ?_⟩
  obtain ⟨v, h1, h2, h3⟩ := zl_mem.mp hq
  have hq0 : q = (0, .ref (tA 3)) := by
    obtain ⟨i, w⟩ := q
    match i, h1 with
    | 0, h1 => cases h1; exact Prod.ext rfl h3
    | 1, h1 => cases h1; cases h2
    | 2, h1 => cases h1; cases h2
    | 3, h1 => cases h1; cases h2
    | i + 4, h1 => simp at h1
  rw [hq0]
  exact hl.2.2 _ (by simp [lv_args])
