def l_J7_fill_53178_5 (K : zI → zP → Prop) : Nat → Nat → Int32 → Int32 → Int32 → zI → zP → Prop
  | 0, _, _, _, _, _, _ => False
  | n + 1, y0, y1, y2, y3, I, P => if y3 ≤ y2 then (K I P) else (SHy[y0]? = some (11, (zlen y0)) ∧ (vp_in y2 (zlen y0) ∧ ((l_J7_fill_53178_5 K n) y0 y1 (y2 + 1) y3 (zu I y0 ((y2).toNatClampNeg) y1) P)))
theorem gl_J7_fill_53178_5 {κ : zX} (cx : Cx yJ7_fill_53178 cJ7_fill_53178 4 none 0 0 κ) {K : zI → zP → Prop} (hE : zEnd (zKv K) 0 0 κ) : ∀ (n : Nat) (y0 : Nat) (y1 : Int32) (y2 : Int32) (y3 : Int32) (I : zI) (P : zP), PSt P → l_J7_fill_53178_5 K n y0 y1 y2 y3 I P → Gx κ 5 [.ref y0, .int y1, .int y2, .int y3] [] SHy I P 0 0 := by
  intro n
  induction n with
  | zero =>
    intro y0 y1 y2 y3 I P hP h
    rw [l_J7_fill_53178_5] at h
    exact False.elim h
  | succ n ih =>
    intro y0 y1 y2 y3 I P hP h
    rw [l_J7_fill_53178_5] at h
    refine g_iload_n cx dJ7_fill_53178_5 rfl ?_
    refine g_iload_n cx dJ7_fill_53178_6 rfl ?_
    refine g_icmp_ge cx (tgt := 20) dJ7_fill_53178_7 rfl (fun c1 => ?_) (fun c1 => ?_)
    · have h := zifp c1 h
      exact g_wv cx hE dJ7_fill_53178_20 rfl hP h
    · have h := zifn c1 h
      refine g_aload_n cx dJ7_fill_53178_10 rfl ?_
      refine g_iload_n cx dJ7_fill_53178_11 rfl ?_
      refine g_iload_n cx dJ7_fill_53178_12 rfl ?_
      obtain ⟨hs2, h⟩ := h
      obtain ⟨hc3, h⟩ := h
      refine g_iast cx dJ7_fill_53178_13 hs2 hc3 ?_
      refine g_iinc cx (v := (y2 + 1)) dJ7_fill_53178_14 rfl rfl (Nat.le_of_ble_eq_true rfl) (Gx.L [.ref y0, .int y1, .int (y2 + 1), .int y3] rfl ?_)
      refine g_goto cx (tgt := 5) dJ7_fill_53178_17 rfl ?_
      exact ih _ _ _ _ _ _ hP h
def w_J7_fill_53178 (x1 : Nat) (x2 : Int32) (I : zI) (P : zP) (K : zI → zP → Prop) : Prop := SHy[x1]? = some (11, (zlen x1)) ∧ (∃ n9, l_J7_fill_53178_5 K n9 x1 x2 0 (Int32.ofNat (zlen x1)) I P)
theorem e_J7_fill_53178 {x1 : Nat} {x2 : Int32} {I : zI} {P : zP} {K : zI → zP → Prop} (hP : PSt P) (h : w_J7_fill_53178 x1 x2 I P K) : Ev yJ7_fill_53178 cJ7_fill_53178 4 none 0 0 0 0 [.ref x1, .int x2] SHy I P (zKv K) := by
  refine Ev.start [.ref x1, .int x2, .float 0, .float 0] pn_J7 rfl (Nat.le_of_ble_eq_true rfl) rfl (fun κ cx hE => ?_)
  unfold w_J7_fill_53178 at h
  refine g_iconst cx dJ7_fill_53178_0 ic_0 ?_
  refine g_istore_n cx dJ7_fill_53178_1 (Nat.le_of_ble_eq_true rfl) (Gx.L [.ref x1, .int x2, .int 0, .float 0] rfl ?_)
  refine g_aload_n cx dJ7_fill_53178_2 rfl ?_
  obtain ⟨hs1, h⟩ := h
  refine g_alen cx hs1 (Nat.le_of_ble_eq_true rfl) (Nat.le_of_ble_eq_true rfl) dJ7_fill_53178_3 ?_
  refine g_istore_n cx dJ7_fill_53178_4 (Nat.le_of_ble_eq_true rfl) (Gx.L [.ref x1, .int x2, .int 0, .int (Int32.ofNat (zlen x1))] rfl ?_)
  obtain ⟨n9, h⟩ := h
  exact gl_J7_fill_53178_5 cx hE n9 _ _ _ _ _ _ hP h
def w_J7_rangeCheck_23922 (x1 : Int32) (x2 : Int32) (x3 : Int32) (I : zI) (P : zP) (K : zI → zP → Prop) : Prop := if x2 ≤ x3 then (if 0 ≤ x2 then (if x3 ≤ x1 then (K I P) else False) else False) else False
theorem e_J7_rangeCheck_23922 {x1 : Int32} {x2 : Int32} {x3 : Int32} {I : zI} {P : zP} {K : zI → zP → Prop} (hP : PSt P) (h : w_J7_rangeCheck_23922 x1 x2 x3 I P K) : Ev yJ7_rangeCheck_23922 cJ7_rangeCheck_23922 3 none 0 0 0 0 [.int x1, .int x2, .int x3] SHy I P (zKv K) := by
  refine Ev.start [.int x1, .int x2, .int x3] pn_J7 rfl (Nat.le_of_ble_eq_true rfl) rfl (fun κ cx hE => ?_)
  unfold w_J7_rangeCheck_23922 at h
  refine g_iload_n cx dJ7_rangeCheck_23922_0 rfl ?_
  refine g_iload_n cx dJ7_rangeCheck_23922_1 rfl ?_
  refine g_icmp_le cx (tgt := 46) dJ7_rangeCheck_23922_2 rfl (fun c1 => ?_) (fun c1 => ?_)
  · have h := zifp c1 h
    refine g_iload_n cx dJ7_rangeCheck_23922_46 rfl ?_
    refine g_if_ge cx (tgt := 59) dJ7_rangeCheck_23922_47 rfl (fun c2 => ?_) (fun c2 => ?_)
    · have h := zifp c2 h
      refine g_iload_n cx dJ7_rangeCheck_23922_59 rfl ?_
      refine g_iload_n cx dJ7_rangeCheck_23922_60 rfl ?_
      refine g_icmp_le cx (tgt := 73) dJ7_rangeCheck_23922_61 rfl (fun c3 => ?_) (fun c3 => ?_)
      · have h := zifp c3 h
        exact g_wv cx hE dJ7_rangeCheck_23922_73 rfl hP h
      · have h := zifn c3 h
        exact False.elim h
    · have h := zifn c2 h
      exact False.elim h
  · have h := zifn c1 h
    exact False.elim h
def l_J7_fill_fda19_10 (K : zI → zP → Prop) : Nat → Nat → Int32 → Int32 → Int32 → zI → zP → Prop
  | 0, _, _, _, _, _, _ => False
  | n + 1, y0, y2, y3, y4, I, P => if y2 ≤ y4 then (K I P) else (SHy[y0]? = some (11, (zlen y0)) ∧ (vp_in y4 (zlen y0) ∧ ((l_J7_fill_fda19_10 K n) y0 y2 y3 (y4 + 1) (zu I y0 ((y4).toNatClampNeg) y3) P)))
theorem gl_J7_fill_fda19_10 {κ : zX} (cx : Cx yJ7_fill_fda19 cJ7_fill_fda19 5 none 1 22 κ) {K : zI → zP → Prop} (hE : zEnd (zKv K) 0 0 κ) : ∀ (n : Nat) (y0 : Nat) (y2 : Int32) (y3 : Int32) (y4 : Int32) (I : zI) (P : zP), PSt P → l_J7_fill_fda19_10 K n y0 y2 y3 y4 I P → Gx κ 10 [.ref y0, .float 0, .int y2, .int y3, .int y4] [] SHy I P 0 0 := by
  intro n
  induction n with
  | zero =>
    intro y0 y2 y3 y4 I P hP h
    rw [l_J7_fill_fda19_10] at h
    exact False.elim h
  | succ n ih =>
    intro y0 y2 y3 y4 I P hP h
    rw [l_J7_fill_fda19_10] at h
    refine g_iload cx dJ7_fill_fda19_10 rfl ?_
    refine g_iload_n cx dJ7_fill_fda19_12 rfl ?_
    refine g_icmp_ge cx (tgt := 27) dJ7_fill_fda19_13 rfl (fun c1 => ?_) (fun c1 => ?_)
    · have h := zifp c1 h
      exact g_wv cx hE dJ7_fill_fda19_27 rfl hP h
    · have h := zifn c1 h
      refine g_aload_n cx dJ7_fill_fda19_16 rfl ?_
      refine g_iload cx dJ7_fill_fda19_17 rfl ?_
      refine g_iload_n cx dJ7_fill_fda19_19 rfl ?_
      obtain ⟨hs2, h⟩ := h
      obtain ⟨hc3, h⟩ := h
      refine g_iast cx dJ7_fill_fda19_20 hs2 hc3 ?_
      refine g_iinc cx (v := (y4 + 1)) dJ7_fill_fda19_21 rfl rfl (Nat.le_of_ble_eq_true rfl) (Gx.L [.ref y0, .float 0, .int y2, .int y3, .int (y4 + 1)] rfl ?_)
      refine g_goto cx (tgt := 10) dJ7_fill_fda19_24 rfl ?_
      exact ih _ _ _ _ _ _ hP h
def w_J7_fill_fda19 (x1 : Nat) (x2 : Int32) (x3 : Int32) (x4 : Int32) (I : zI) (P : zP) (K : zI → zP → Prop) : Prop := SHy[x1]? = some (11, (zlen x1)) ∧ (w_J7_rangeCheck_23922 (Int32.ofNat (zlen x1)) x2 x3 I P (fun (I2 : zI) (P2 : zP) => (∃ n9, l_J7_fill_fda19_10 K n9 x1 x3 x4 x2 I2 P2)))
theorem e_J7_fill_fda19 {x1 : Nat} {x2 : Int32} {x3 : Int32} {x4 : Int32} {I : zI} {P : zP} {K : zI → zP → Prop} (hP : PSt P) (h : w_J7_fill_fda19 x1 x2 x3 x4 I P K) : Ev yJ7_fill_fda19 cJ7_fill_fda19 5 none 1 22 0 0 [.ref x1, .int x2, .int x3, .int x4] SHy I P (zKv K) := by
  refine Ev.start [.ref x1, .int x2, .int x3, .int x4, .float 0] pn_J7 rfl (Nat.le_of_ble_eq_true rfl) rfl (fun κ cx hE => ?_)
  unfold w_J7_fill_fda19 at h
  refine g_aload_n cx dJ7_fill_fda19_0 rfl ?_
  obtain ⟨hs1, h⟩ := h
  refine g_alen cx hs1 (Nat.le_of_ble_eq_true rfl) (Nat.le_of_ble_eq_true rfl) dJ7_fill_fda19_1 ?_
  refine g_iload_n cx dJ7_fill_fda19_2 rfl ?_
  refine g_iload_n cx dJ7_fill_fda19_3 rfl ?_
  refine g_wSv cx [.int (Int32.ofNat (zlen x1)), .int x2, .int x3] [] (e_J7_rangeCheck_23922 hP h) mt_J7_rangeCheck_23922 ml_J7_13 dJ7_fill_fda19_4 rfl rfl (Nat.le_of_ble_eq_true rfl) (Nat.le_of_ble_eq_true rfl) (Nat.le_of_ble_eq_true rfl) (fun I2 P2 hP h => ?_)
  refine g_iload_n cx dJ7_fill_fda19_7 rfl ?_
  refine g_istore cx dJ7_fill_fda19_8 (Nat.le_of_ble_eq_true rfl) (Gx.L [.ref x1, .int x2, .int x3, .int x4, .int x2] rfl ?_)
  refine (Gx.unset 1 (Gx.L [.ref x1, .float 0, .int x3, .int x4, .int x2] rfl ?_))
  obtain ⟨n9, h⟩ := h
  exact gl_J7_fill_fda19_10 cx hE n9 _ _ _ _ _ _ hP h
def w_X0_begin (o : Nat) (x1 : Nat) (x2 : Int32) (I : zI) (P : zP) (K : zI → zP → Prop) : Prop := SHy[o]? = some (0, 6) ∧ (zbo x2 ∧ (∃ v3, (zu P o 3 (some x1)) o 0 = some v3 ∧ (w_J7_fill_53178 v3 0 (zu (zu (zu I o 4 x2) o 5 0) o 2 0) (zu P o 3 (some x1)) (fun (I5 : zI) (P5 : zP) => (K I5 P5)))))
theorem e_X0_begin {o : Nat} {x1 : Nat} {x2 : Int32} {I : zI} {P : zP} {K : zI → zP → Prop} (hP : PSt P) (h : w_X0_begin o x1 x2 I P K) : Ev yX0_begin cX0_begin 3 none 1 23 0 0 [.ref o, .ref x1, .int x2] SHy I P (zKv K) := by
  refine Ev.start [.ref o, .ref x1, .int x2] pn_X0 rfl (Nat.le_of_ble_eq_true rfl) rfl (fun κ cx hE => ?_)
  unfold w_X0_begin at h
  refine g_aload_n cx dX0_begin_0 rfl ?_
  refine g_aload_n cx dX0_begin_1 rfl ?_
  obtain ⟨hs1, h⟩ := h
  refine g_pR cx lk_X0_29 hs1 (Nat.le_of_ble_eq_true rfl) rfl dX0_begin_2 fi_0_3 (fun _ => rfl) (fun _ => rfl) ?_
  have hP := pst_put (v := some x1) (k := 3) hP (show SHy[o]? = some (0, 6) from hs1) (by decide +kernel)
  refine g_aload_n cx dX0_begin_5 rfl ?_
  refine g_iload_n cx dX0_begin_6 rfl ?_
  obtain ⟨hc2, h⟩ := h
  refine g_pI cx lk_X0_22 hs1 (Nat.le_of_ble_eq_true rfl) rfl dX0_begin_7 fi_0_4 (zbo_n hc2) (zbo_f hc2) ?_
  refine g_aload_n cx dX0_begin_10 rfl ?_
  refine g_iconst cx dX0_begin_11 ic_0 ?_
  refine g_pI cx lk_X0_26 hs1 (Nat.le_of_ble_eq_true rfl) rfl dX0_begin_12 fi_0_5 rfl rfl ?_
  refine g_aload_n cx dX0_begin_15 rfl ?_
  refine g_iconst cx dX0_begin_16 ic_0 ?_
  refine g_pI cx lk_X0_18 hs1 (Nat.le_of_ble_eq_true rfl) rfl dX0_begin_17 fi_0_2 rfl rfl ?_
  refine g_aload_n cx dX0_begin_20 rfl ?_
  obtain ⟨v3, hv4, h⟩ := h
  refine g_getR cx lk_X0_9 hs1 (Nat.le_of_ble_eq_true rfl) rfl dX0_begin_21 hv4 ?_
  refine g_iconst cx dX0_begin_24 ic_0 ?_
  refine g_wSv cx [.ref v3, .int 0] [] (e_J7_fill_53178 hP h) mt_J7_fill_53178 ml_X0_33 dX0_begin_25 rfl rfl (Nat.le_of_ble_eq_true rfl) (Nat.le_of_ble_eq_true rfl) (Nat.le_of_ble_eq_true rfl) (fun I5 P5 hP h => ?_)
  exact g_wv cx hE dX0_begin_28 rfl hP h
def w_X0_push (o : Nat) (x1 : Int32) (I : zI) (P : zP) (K : zI → zP → Prop) : Prop := SHy[o]? = some (0, 6) ∧ (if (I o 2) < 0 then (K I P) else (if 10 ≤ (I o 2) then (K I P) else (∃ v4, P o 1 = some v4 ∧ (SHy[v4]? = some (11, (zlen v4)) ∧ (vp_in (I o 2) (zlen v4) ∧ (K (zu (zu I v4 (((I o 2)).toNatClampNeg) x1) o 2 (((zu I v4 (((I o 2)).toNatClampNeg) x1) o 2) + 1)) P))))))
theorem e_X0_push {o : Nat} {x1 : Int32} {I : zI} {P : zP} {K : zI → zP → Prop} (hP : PSt P) (h : w_X0_push o x1 I P K) : Ev yX0_push cX0_push 2 none 0 0 0 0 [.ref o, .int x1] SHy I P (zKv K) := by
  refine Ev.start [.ref o, .int x1] pn_X0 rfl (Nat.le_of_ble_eq_true rfl) rfl (fun κ cx hE => ?_)
  unfold w_X0_push at h
  refine g_aload_n cx dX0_push_0 rfl ?_
  obtain ⟨hs1, h⟩ := h
  refine g_getI cx lk_X0_18 hs1 (Nat.le_of_ble_eq_true rfl) rfl dX0_push_1 (x := (I o 2)) rfl ?_
  refine g_if_lt cx (tgt := 36) dX0_push_4 rfl (fun c2 => ?_) (fun c2 => ?_)
  · have h := zifp c2 h
    exact g_wv cx hE dX0_push_36 rfl hP h
  · have h := zifn c2 h
    refine g_aload_n cx dX0_push_7 rfl ?_
    refine g_getI cx lk_X0_18 hs1 (Nat.le_of_ble_eq_true rfl) rfl dX0_push_8 (x := (I o 2)) rfl ?_
    refine g_bipush cx dX0_push_11 bp_10 ?_
    refine g_icmp_ge cx (tgt := 36) dX0_push_13 rfl (fun c3 => ?_) (fun c3 => ?_)
    · have h := zifp c3 h
      exact g_wv cx hE dX0_push_36 rfl hP h
    · have h := zifn c3 h
      refine g_aload_n cx dX0_push_16 rfl ?_
      obtain ⟨v4, hv5, h⟩ := h
      refine g_getR cx lk_X0_15 hs1 (Nat.le_of_ble_eq_true rfl) rfl dX0_push_17 hv5 ?_
      refine g_aload_n cx dX0_push_20 rfl ?_
      refine g_getI cx lk_X0_18 hs1 (Nat.le_of_ble_eq_true rfl) rfl dX0_push_21 (x := (I o 2)) rfl ?_
      refine g_iload_n cx dX0_push_24 rfl ?_
      obtain ⟨hs6, h⟩ := h
      obtain ⟨hc7, h⟩ := h
      refine g_iast cx dX0_push_25 hs6 hc7 ?_
      refine g_aload_n cx dX0_push_26 rfl ?_
      refine g_dup cx dX0_push_27 rfl ?_
      refine g_getI cx lk_X0_18 hs1 (Nat.le_of_ble_eq_true rfl) rfl dX0_push_28 (x := ((zu I v4 (((I o 2)).toNatClampNeg) x1) o 2)) rfl ?_
      refine g_iconst cx dX0_push_31 ic_1 ?_
      refine g_iadd cx dX0_push_32 ?_
      refine g_pI cx lk_X0_18 hs1 (Nat.le_of_ble_eq_true rfl) rfl dX0_push_33 fi_0_2 rfl rfl ?_
      exact g_wv cx hE dX0_push_36 rfl hP h
def w_X9_handlerPart (x1 : Nat) (x2 : Int32) (x3 : Int32) (I : zI) (P : zP) (K : Int32 → zI → zP → Prop) : Prop := if ((x2 * 4) + x3) < 0 then (K (-1) I P) else (SHy[x1]? = some (11, (zlen x1)) ∧ (if (Int32.ofNat (zlen x1)) ≤ ((x2 * 4) + x3) then (K (-1) I P) else (vp_in ((x2 * 4) + x3) (zlen x1) ∧ (K (I x1 ((((x2 * 4) + x3)).toNatClampNeg)) I P))))
theorem e_X9_handlerPart {x1 : Nat} {x2 : Int32} {x3 : Int32} {I : zI} {P : zP} {K : Int32 → zI → zP → Prop} (hP : PSt P) (h : w_X9_handlerPart x1 x2 x3 I P K) : Ev yX9_handlerPart cX9_handlerPart 4 (some .int) 0 0 0 0 [.ref x1, .int x2, .int x3] SHy I P (zKi K) := by
  refine Ev.start [.ref x1, .int x2, .int x3, .float 0] pn_X9 rfl (Nat.le_of_ble_eq_true rfl) rfl (fun κ cx hE => ?_)
  unfold w_X9_handlerPart at h
  refine g_iload_n cx dX9_handlerPart_0 rfl ?_
  refine g_iconst cx dX9_handlerPart_1 ic_4 ?_
  refine g_imul cx dX9_handlerPart_2 ?_
  refine g_iload_n cx dX9_handlerPart_3 rfl ?_
  refine g_iadd cx dX9_handlerPart_4 ?_
  refine g_istore_n cx dX9_handlerPart_5 (Nat.le_of_ble_eq_true rfl) (Gx.L [.ref x1, .int x2, .int x3, .int ((x2 * 4) + x3)] rfl ?_)
  refine g_iload_n cx dX9_handlerPart_6 rfl ?_
  refine g_if_lt cx (tgt := 22) dX9_handlerPart_7 rfl (fun c1 => ?_) (fun c1 => ?_)
  · have h := zifp c1 h
    refine g_iconst cx dX9_handlerPart_22 ic_m1 ?_
    exact g_wi cx hE dX9_handlerPart_23 rfl rfl hP h
  · have h := zifn c1 h
    refine g_iload_n cx dX9_handlerPart_10 rfl ?_
    refine g_aload_n cx dX9_handlerPart_11 rfl ?_
    obtain ⟨hs2, h⟩ := h
    refine g_alen cx hs2 (Nat.le_of_ble_eq_true rfl) (Nat.le_of_ble_eq_true rfl) dX9_handlerPart_12 ?_
    refine g_icmp_ge cx (tgt := 22) dX9_handlerPart_13 rfl (fun c3 => ?_) (fun c3 => ?_)
    · have h := zifp c3 h
      refine g_iconst cx dX9_handlerPart_22 ic_m1 ?_
      exact g_wi cx hE dX9_handlerPart_23 rfl rfl hP h
    · have h := zifn c3 h
      refine g_aload_n cx dX9_handlerPart_16 rfl ?_
      refine g_iload_n cx dX9_handlerPart_17 rfl ?_
      obtain ⟨hc4, h⟩ := h
      refine g_iald cx dX9_handlerPart_18 hs2 hc4 (x := (I x1 ((((x2 * 4) + x3)).toNatClampNeg))) rfl ?_
      refine g_goto cx (tgt := 23) dX9_handlerPart_19 rfl ?_
      exact g_wi cx hE dX9_handlerPart_23 rfl rfl hP h
def j_X0_catches_113 (K : Int32 → zI → zP → Prop) (y0 : Nat) (y1 : Int32) (y3 : Nat) (y4 : Int32) (I : zI) (P : zP) : Prop := SHy[y0]? = some (0, 6) ∧ (w_X0_push y0 y1 (zu I y0 2 0) P (fun (I2 : zI) (P2 : zP) => (w_X9_handlerPart y3 y4 2 I2 P2 (fun (v3 : Int32) (I3 : zI) (P3 : zP) => (K 1 (zu I3 y0 5 v3) P3)))))
theorem gj_X0_catches_113 {κ : zX} (cx : Cx yX0_catches cX0_catches 6 (some .boolean) 1 23 κ) {K : Int32 → zI → zP → Prop} (hE : zEnd (zKi K) 0 0 κ) {y0 : Nat} {y1 : Int32} {y3 : Nat} {y4 : Int32} {I : zI} {P : zP} (hP : PSt P) (h : j_X0_catches_113 K y0 y1 y3 y4 I P) : Gx κ 113 [.ref y0, .int y1, .float 0, .ref y3, .int y4, .float 0] [] SHy I P 0 0 := by
  unfold j_X0_catches_113 at h
  refine g_aload_n cx dX0_catches_113 rfl ?_
  refine g_iconst cx dX0_catches_114 ic_0 ?_
  obtain ⟨hs1, h⟩ := h
  refine g_pI cx lk_X0_18 hs1 (Nat.le_of_ble_eq_true rfl) rfl dX0_catches_115 fi_0_2 rfl rfl ?_
  refine g_aload_n cx dX0_catches_118 rfl ?_
  refine g_iload_n cx dX0_catches_119 rfl ?_
  refine g_wVv cx [.int y1] [] (e_X0_push hP h) mt_X0_push ml_X0_74 hs1 rfl rfl dX0_catches_120 rfl rfl (Nat.le_of_ble_eq_true rfl) (Nat.le_of_ble_eq_true rfl) (Nat.le_of_ble_eq_true rfl) (fun I2 P2 hP h => ?_)
  refine g_aload_n cx dX0_catches_123 rfl ?_
  refine g_aload_n cx dX0_catches_124 rfl ?_
  refine g_iload cx dX0_catches_125 rfl ?_
  refine g_iconst cx dX0_catches_127 ic_2 ?_
  refine g_wSi cx [.ref y3, .int y4, .int 2] [.ref y0] (e_X9_handlerPart hP h) mt_X9_handlerPart ml_X0_70 dX0_catches_128 rfl rfl (Nat.le_of_ble_eq_true rfl) (Nat.le_of_ble_eq_true rfl) (Nat.le_of_ble_eq_true rfl) (fun v3 I3 P3 hP h => ?_)
  refine g_pI cx lk_X0_26 hs1 (Nat.le_of_ble_eq_true rfl) rfl dX0_catches_131 fi_0_5 rfl rfl ?_
  refine g_iconst cx dX0_catches_134 ic_1 ?_
  exact g_wi cx hE dX0_catches_135 rfl rfl hP h
def l_X0_catches_59 (K : Int32 → zI → zP → Prop) : Nat → Nat → Int32 → Int32 → Nat → Int32 → zI → zP → Prop
  | 0, _, _, _, _, _, _, _ => False
  | n + 1, y0, y1, y2, y3, y4, I, P => if y2 ≤ y4 then (K 0 I P) else (w_X9_handlerPart y3 y4 3 I P (fun (v2 : Int32) (I2 : zI) (P2 : zP) => (SHy[y0]? = some (0, 6) ∧ (w_X9_handlerPart y3 y4 0 I2 P2 (fun (v4 : Int32) (I4 : zI) (P4 : zP) => (if (I2 y0 5) < v4 then ((l_X0_catches_59 K n) y0 y1 y2 y3 (y4 + 1) I4 P4) else (w_X9_handlerPart y3 y4 1 I4 P4 (fun (v6 : Int32) (I6 : zI) (P6 : zP) => (if v6 ≤ (I4 y0 5) then ((l_X0_catches_59 K n) y0 y1 y2 y3 (y4 + 1) I6 P6) else (if v2 = 0 then (j_X0_catches_113 K y0 y1 y3 y4 I6 P6) else (if v2 = y1 then (j_X0_catches_113 K y0 y1 y3 y4 I6 P6) else ((l_X0_catches_59 K n) y0 y1 y2 y3 (y4 + 1) I6 P6))))))))))))
theorem gl_X0_catches_59 {κ : zX} (cx : Cx yX0_catches cX0_catches 6 (some .boolean) 1 23 κ) {K : Int32 → zI → zP → Prop} (hE : zEnd (zKi K) 0 0 κ) : ∀ (n : Nat) (y0 : Nat) (y1 : Int32) (y2 : Int32) (y3 : Nat) (y4 : Int32) (I : zI) (P : zP), PSt P → l_X0_catches_59 K n y0 y1 y2 y3 y4 I P → Gx κ 59 [.ref y0, .int y1, .int y2, .ref y3, .int y4, .float 0] [] SHy I P 0 0 := by
  intro n
  induction n with
  | zero =>
    intro y0 y1 y2 y3 y4 I P hP h
    rw [l_X0_catches_59] at h
    exact False.elim h
  | succ n ih =>
    intro y0 y1 y2 y3 y4 I P hP h
    rw [l_X0_catches_59] at h
    refine g_iload cx dX0_catches_59 rfl ?_
    refine g_iload_n cx dX0_catches_61 rfl ?_
    refine g_icmp_ge cx (tgt := 142) dX0_catches_62 rfl (fun c1 => ?_) (fun c1 => ?_)
    · have h := zifp c1 h
      refine g_iconst cx dX0_catches_142 ic_0 ?_
      exact g_wi cx hE dX0_catches_143 rfl rfl hP h
    · have h := zifn c1 h
      refine g_aload_n cx dX0_catches_65 rfl ?_
      refine g_iload cx dX0_catches_66 rfl ?_
      refine g_iconst cx dX0_catches_68 ic_3 ?_
      refine g_wSi cx [.ref y3, .int y4, .int 3] [] (e_X9_handlerPart hP h) mt_X9_handlerPart ml_X0_70 dX0_catches_69 rfl rfl (Nat.le_of_ble_eq_true rfl) (Nat.le_of_ble_eq_true rfl) (Nat.le_of_ble_eq_true rfl) (fun v2 I2 P2 hP h => ?_)
      refine g_istore cx dX0_catches_72 (Nat.le_of_ble_eq_true rfl) (Gx.L [.ref y0, .int y1, .int y2, .ref y3, .int y4, .int v2] rfl ?_)
      refine g_aload_n cx dX0_catches_74 rfl ?_
      obtain ⟨hs3, h⟩ := h
      refine g_getI cx lk_X0_26 hs3 (Nat.le_of_ble_eq_true rfl) rfl dX0_catches_75 (x := (I2 y0 5)) rfl ?_
      refine g_aload_n cx dX0_catches_78 rfl ?_
      refine g_iload cx dX0_catches_79 rfl ?_
      refine g_iconst cx dX0_catches_81 ic_0 ?_
      refine g_wSi cx [.ref y3, .int y4, .int 0] [.int (I2 y0 5)] (e_X9_handlerPart hP h) mt_X9_handlerPart ml_X0_70 dX0_catches_82 rfl rfl (Nat.le_of_ble_eq_true rfl) (Nat.le_of_ble_eq_true rfl) (Nat.le_of_ble_eq_true rfl) (fun v4 I4 P4 hP h => ?_)
      refine g_icmp_lt cx (tgt := 136) dX0_catches_85 rfl (fun c5 => ?_) (fun c5 => ?_)
      · have h := zifp c5 h
        refine g_iinc cx (v := (y4 + 1)) dX0_catches_136 rfl rfl (Nat.le_of_ble_eq_true rfl) (Gx.L [.ref y0, .int y1, .int y2, .ref y3, .int (y4 + 1), .int v2] rfl ?_)
        refine g_goto cx (tgt := 59) dX0_catches_139 rfl ?_
        refine (Gx.unset 5 (Gx.L [.ref y0, .int y1, .int y2, .ref y3, .int (y4 + 1), .float 0] rfl ?_))
        exact ih _ _ _ _ _ _ _ hP h
      · have h := zifn c5 h
        refine g_aload_n cx dX0_catches_88 rfl ?_
        refine g_getI cx lk_X0_26 hs3 (Nat.le_of_ble_eq_true rfl) rfl dX0_catches_89 (x := (I4 y0 5)) rfl ?_
        refine g_aload_n cx dX0_catches_92 rfl ?_
        refine g_iload cx dX0_catches_93 rfl ?_
        refine g_iconst cx dX0_catches_95 ic_1 ?_
        refine g_wSi cx [.ref y3, .int y4, .int 1] [.int (I4 y0 5)] (e_X9_handlerPart hP h) mt_X9_handlerPart ml_X0_70 dX0_catches_96 rfl rfl (Nat.le_of_ble_eq_true rfl) (Nat.le_of_ble_eq_true rfl) (Nat.le_of_ble_eq_true rfl) (fun v6 I6 P6 hP h => ?_)
        refine g_icmp_ge cx (tgt := 136) dX0_catches_99 rfl (fun c7 => ?_) (fun c7 => ?_)
        · have h := zifp c7 h
          refine g_iinc cx (v := (y4 + 1)) dX0_catches_136 rfl rfl (Nat.le_of_ble_eq_true rfl) (Gx.L [.ref y0, .int y1, .int y2, .ref y3, .int (y4 + 1), .int v2] rfl ?_)
          refine g_goto cx (tgt := 59) dX0_catches_139 rfl ?_
          refine (Gx.unset 5 (Gx.L [.ref y0, .int y1, .int y2, .ref y3, .int (y4 + 1), .float 0] rfl ?_))
          exact ih _ _ _ _ _ _ _ hP h
        · have h := zifn c7 h
          refine g_iload cx dX0_catches_102 rfl ?_
          refine g_if_eq cx (tgt := 113) dX0_catches_104 rfl (fun c8 => ?_) (fun c8 => ?_)
          · have h := zifp c8 h
            refine (Gx.unset 2 (Gx.unset 5 (Gx.L [.ref y0, .int y1, .float 0, .ref y3, .int y4, .float 0] rfl ?_)))
            exact gj_X0_catches_113 cx hE hP h
          · have h := zifn c8 h
            refine g_iload cx dX0_catches_107 rfl ?_
            refine g_iload_n cx dX0_catches_109 rfl ?_
            refine g_icmp_ne cx (tgt := 136) dX0_catches_110 rfl (fun c9 => ?_) (fun c9 => ?_)
            · have h := zifn c9 h
              refine g_iinc cx (v := (y4 + 1)) dX0_catches_136 rfl rfl (Nat.le_of_ble_eq_true rfl) (Gx.L [.ref y0, .int y1, .int y2, .ref y3, .int (y4 + 1), .int v2] rfl ?_)
              refine g_goto cx (tgt := 59) dX0_catches_139 rfl ?_
              refine (Gx.unset 5 (Gx.L [.ref y0, .int y1, .int y2, .ref y3, .int (y4 + 1), .float 0] rfl ?_))
              exact ih _ _ _ _ _ _ _ hP h
            · have h := zifp c9 h
              refine (Gx.unset 2 (Gx.unset 5 (Gx.L [.ref y0, .int y1, .float 0, .ref y3, .int y4, .float 0] rfl ?_)))
              exact gj_X0_catches_113 cx hE hP h
def j_X0_catches_27 (K : Int32 → zI → zP → Prop) (y0 : Nat) (y1 : Int32) (s0 : Int32) (I : zI) (P : zP) : Prop := SHy[y0]? = some (0, 6) ∧ (if (I y0 4) = 0 then (∃ v3, P y0 3 = some v3 ∧ (SHy[v3]? = some (3, 11) ∧ (∃ v6, P v3 5 = some v6 ∧ (∃ n9, l_X0_catches_59 K n9 y0 y1 s0 v6 0 I P)))) else (∃ v8, P y0 3 = some v8 ∧ (SHy[v8]? = some (3, 11) ∧ (∃ v11, P v8 6 = some v11 ∧ (SHy[v11]? = some (8, 11) ∧ (∃ v14, P v11 4 = some v14 ∧ (∃ n9, l_X0_catches_59 K n9 y0 y1 s0 v14 0 I P)))))))
theorem gj_X0_catches_27 {κ : zX} (cx : Cx yX0_catches cX0_catches 6 (some .boolean) 1 23 κ) {K : Int32 → zI → zP → Prop} (hE : zEnd (zKi K) 0 0 κ) {y0 : Nat} {y1 : Int32} {s0 : Int32} {I : zI} {P : zP} (hP : PSt P) (h : j_X0_catches_27 K y0 y1 s0 I P) : Gx κ 27 [.ref y0, .int y1, .float 0, .float 0, .float 0, .float 0] [.int s0] SHy I P 0 0 := by
  unfold j_X0_catches_27 at h
  refine g_istore_n cx dX0_catches_27 (Nat.le_of_ble_eq_true rfl) (Gx.L [.ref y0, .int y1, .int s0, .float 0, .float 0, .float 0] rfl ?_)
  refine g_aload_n cx dX0_catches_28 rfl ?_
  obtain ⟨hs1, h⟩ := h
  refine g_getI cx lk_X0_22 hs1 (Nat.le_of_ble_eq_true rfl) rfl dX0_catches_29 (x := (I y0 4)) rfl ?_
  refine g_if_eq cx (tgt := 48) dX0_catches_32 rfl (fun c2 => ?_) (fun c2 => ?_)
  · have h := zifp c2 h
    refine g_aload_n cx dX0_catches_48 rfl ?_
    obtain ⟨v3, hv4, h⟩ := h
    refine g_getR cx lk_X0_29 hs1 (Nat.le_of_ble_eq_true rfl) rfl dX0_catches_49 hv4 ?_
    obtain ⟨hs5, h⟩ := h
    obtain ⟨v6, hv7, h⟩ := h
    refine g_getR cx lk_X0_69 hs5 (Nat.le_of_ble_eq_true rfl) rfl dX0_catches_52 hv7 ?_
    refine g_astore_n cx dX0_catches_55 (Nat.le_of_ble_eq_true rfl) (Gx.L [.ref y0, .int y1, .int s0, .ref v6, .float 0, .float 0] rfl ?_)
    refine g_iconst cx dX0_catches_56 ic_0 ?_
    refine g_istore cx dX0_catches_57 (Nat.le_of_ble_eq_true rfl) (Gx.L [.ref y0, .int y1, .int s0, .ref v6, .int 0, .float 0] rfl ?_)
    obtain ⟨n9, h⟩ := h
    exact gl_X0_catches_59 cx hE n9 _ _ _ _ _ _ _ hP h
  · have h := zifn c2 h
    refine g_aload_n cx dX0_catches_35 rfl ?_
    obtain ⟨v8, hv9, h⟩ := h
    refine g_getR cx lk_X0_29 hs1 (Nat.le_of_ble_eq_true rfl) rfl dX0_catches_36 hv9 ?_
    obtain ⟨hs10, h⟩ := h
    obtain ⟨v11, hv12, h⟩ := h
    refine g_getR cx lk_X0_39 hs10 (Nat.le_of_ble_eq_true rfl) rfl dX0_catches_39 hv12 ?_
    obtain ⟨hs13, h⟩ := h
    obtain ⟨v14, hv15, h⟩ := h
    refine g_getR cx lk_X0_66 hs13 (Nat.le_of_ble_eq_true rfl) rfl dX0_catches_42 hv15 ?_
    refine g_goto cx (tgt := 55) dX0_catches_45 rfl ?_
    refine g_astore_n cx dX0_catches_55 (Nat.le_of_ble_eq_true rfl) (Gx.L [.ref y0, .int y1, .int s0, .ref v14, .float 0, .float 0] rfl ?_)
    refine g_iconst cx dX0_catches_56 ic_0 ?_
    refine g_istore cx dX0_catches_57 (Nat.le_of_ble_eq_true rfl) (Gx.L [.ref y0, .int y1, .int s0, .ref v14, .int 0, .float 0] rfl ?_)
    obtain ⟨n9, h⟩ := h
    exact gl_X0_catches_59 cx hE n9 _ _ _ _ _ _ _ hP h
def w_X0_catches (o : Nat) (x1 : Int32) (I : zI) (P : zP) (K : Int32 → zI → zP → Prop) : Prop := SHy[o]? = some (0, 6) ∧ (if (I o 4) = 0 then (∃ v3, P o 3 = some v3 ∧ (SHy[v3]? = some (3, 11) ∧ (j_X0_catches_27 K o x1 (I v3 10) I P))) else (∃ v6, P o 3 = some v6 ∧ (SHy[v6]? = some (3, 11) ∧ (∃ v9, P v6 6 = some v9 ∧ (SHy[v9]? = some (8, 11) ∧ (j_X0_catches_27 K o x1 (I v9 7) I P))))))
theorem e_X0_catches {o : Nat} {x1 : Int32} {I : zI} {P : zP} {K : Int32 → zI → zP → Prop} (hP : PSt P) (h : w_X0_catches o x1 I P K) : Ev yX0_catches cX0_catches 6 (some .boolean) 1 23 0 0 [.ref o, .int x1] SHy I P (zKi K) := by
  refine Ev.start [.ref o, .int x1, .float 0, .float 0, .float 0, .float 0] pn_X0 rfl (Nat.le_of_ble_eq_true rfl) rfl (fun κ cx hE => ?_)
  unfold w_X0_catches at h
  refine g_aload_n cx dX0_catches_0 rfl ?_
  obtain ⟨hs1, h⟩ := h
  refine g_getI cx lk_X0_22 hs1 (Nat.le_of_ble_eq_true rfl) rfl dX0_catches_1 (x := (I o 4)) rfl ?_
  refine g_if_eq cx (tgt := 20) dX0_catches_4 rfl (fun c2 => ?_) (fun c2 => ?_)
  · have h := zifp c2 h
    refine g_aload_n cx dX0_catches_20 rfl ?_
    obtain ⟨v3, hv4, h⟩ := h
    refine g_getR cx lk_X0_29 hs1 (Nat.le_of_ble_eq_true rfl) rfl dX0_catches_21 hv4 ?_
    obtain ⟨hs5, h⟩ := h
    refine g_getI cx lk_X0_65 hs5 (Nat.le_of_ble_eq_true rfl) rfl dX0_catches_24 (x := (I v3 10)) rfl ?_
    exact gj_X0_catches_27 cx hE hP h
  · have h := zifn c2 h
    refine g_aload_n cx dX0_catches_7 rfl ?_
    obtain ⟨v6, hv7, h⟩ := h
    refine g_getR cx lk_X0_29 hs1 (Nat.le_of_ble_eq_true rfl) rfl dX0_catches_8 hv7 ?_
    obtain ⟨hs8, h⟩ := h
    obtain ⟨v9, hv10, h⟩ := h
    refine g_getR cx lk_X0_39 hs8 (Nat.le_of_ble_eq_true rfl) rfl dX0_catches_11 hv10 ?_
    obtain ⟨hs11, h⟩ := h
    refine g_getI cx lk_X0_62 hs11 (Nat.le_of_ble_eq_true rfl) rfl dX0_catches_14 (x := (I v9 7)) rfl ?_
    refine g_goto cx (tgt := 27) dX0_catches_17 rfl ?_
    exact gj_X0_catches_27 cx hE hP h
def w_X0_code (o : Nat) (I : zI) (P : zP) (K : Nat → zI → zP → Prop) : Prop := SHy[o]? = some (0, 6) ∧ (if (I o 4) = 0 then (∃ v3, P o 3 = some v3 ∧ (SHy[v3]? = some (3, 11) ∧ (∃ v6, P v3 1 = some v6 ∧ (K v6 I P)))) else (∃ v8, P o 3 = some v8 ∧ (SHy[v8]? = some (3, 11) ∧ (∃ v11, P v8 6 = some v11 ∧ (SHy[v11]? = some (8, 11) ∧ (∃ v14, P v11 0 = some v14 ∧ (K v14 I P)))))))
theorem e_X0_code {o : Nat} {I : zI} {P : zP} {K : Nat → zI → zP → Prop} (hP : PSt P) (h : w_X0_code o I P K) : Ev yX0_code cX0_code 1 (some (.array .int)) 0 0 0 0 [.ref o] SHy I P (zKr K) := by
  refine Ev.start [.ref o] pn_X0 rfl (Nat.le_of_ble_eq_true rfl) rfl (fun κ cx hE => ?_)
  unfold w_X0_code at h
  refine g_aload_n cx dX0_code_0 rfl ?_
  obtain ⟨hs1, h⟩ := h
  refine g_getI cx lk_X0_22 hs1 (Nat.le_of_ble_eq_true rfl) rfl dX0_code_1 (x := (I o 4)) rfl ?_
  refine g_if_eq cx (tgt := 20) dX0_code_4 rfl (fun c2 => ?_) (fun c2 => ?_)
  · have h := zifp c2 h
    refine g_aload_n cx dX0_code_20 rfl ?_
    obtain ⟨v3, hv4, h⟩ := h
    refine g_getR cx lk_X0_29 hs1 (Nat.le_of_ble_eq_true rfl) rfl dX0_code_21 hv4 ?_
    obtain ⟨hs5, h⟩ := h
    obtain ⟨v6, hv7, h⟩ := h
    refine g_getR cx lk_X0_50 hs5 (Nat.le_of_ble_eq_true rfl) rfl dX0_code_24 hv7 ?_
    exact g_wr cx hE dX0_code_27 rfl (by first | exact Or.inl ⟨_, rfl⟩ | exact Or.inr ⟨_, rfl⟩) hP h
  · have h := zifn c2 h
    refine g_aload_n cx dX0_code_7 rfl ?_
    obtain ⟨v8, hv9, h⟩ := h
    refine g_getR cx lk_X0_29 hs1 (Nat.le_of_ble_eq_true rfl) rfl dX0_code_8 hv9 ?_
    obtain ⟨hs10, h⟩ := h
    obtain ⟨v11, hv12, h⟩ := h
    refine g_getR cx lk_X0_39 hs10 (Nat.le_of_ble_eq_true rfl) rfl dX0_code_11 hv12 ?_
    obtain ⟨hs13, h⟩ := h
    obtain ⟨v14, hv15, h⟩ := h
    refine g_getR cx lk_X0_45 hs13 (Nat.le_of_ble_eq_true rfl) rfl dX0_code_14 hv15 ?_
    refine g_goto cx (tgt := 27) dX0_code_17 rfl ?_
    exact g_wr cx hE dX0_code_27 rfl (by first | exact Or.inl ⟨_, rfl⟩ | exact Or.inr ⟨_, rfl⟩) hP h
def w_X8_homeOf (o : Nat) (x1 : Int32) (I : zI) (P : zP) (K : Int32 → zI → zP → Prop) : Prop := if x1 < 0 then (K (-1) I P) else (if 1000 ≤ x1 then (K (-1) I P) else (SHy[o]? = some (8, 11) ∧ (∃ v4, P o 1 = some v4 ∧ (SHy[v4]? = some (11, (zlen v4)) ∧ (vp_in x1 (zlen v4) ∧ (K (I v4 ((x1).toNatClampNeg)) I P))))))
theorem e_X8_homeOf {o : Nat} {x1 : Int32} {I : zI} {P : zP} {K : Int32 → zI → zP → Prop} (hP : PSt P) (h : w_X8_homeOf o x1 I P K) : Ev yX8_homeOf cX8_homeOf 2 (some .int) 0 0 0 0 [.ref o, .int x1] SHy I P (zKi K) := by
  refine Ev.start [.ref o, .int x1] pn_X8 rfl (Nat.le_of_ble_eq_true rfl) rfl (fun κ cx hE => ?_)
  unfold w_X8_homeOf at h
  refine g_iload_n cx dX8_homeOf_0 rfl ?_
  refine g_if_lt cx (tgt := 20) dX8_homeOf_1 rfl (fun c1 => ?_) (fun c1 => ?_)
  · have h := zifp c1 h
    refine g_iconst cx dX8_homeOf_20 ic_m1 ?_
    exact g_wi cx hE dX8_homeOf_21 rfl rfl hP h
  · have h := zifn c1 h
    refine g_iload_n cx dX8_homeOf_4 rfl ?_
    refine g_sipush cx dX8_homeOf_5 sp_1000 ?_
    refine g_icmp_ge cx (tgt := 20) dX8_homeOf_8 rfl (fun c2 => ?_) (fun c2 => ?_)
    · have h := zifp c2 h
      refine g_iconst cx dX8_homeOf_20 ic_m1 ?_
      exact g_wi cx hE dX8_homeOf_21 rfl rfl hP h
    · have h := zifn c2 h
      refine g_aload_n cx dX8_homeOf_11 rfl ?_
      obtain ⟨hs3, h⟩ := h
      obtain ⟨v4, hv5, h⟩ := h
      refine g_getR cx lk_X8_15 hs3 (Nat.le_of_ble_eq_true rfl) rfl dX8_homeOf_12 hv5 ?_
      refine g_iload_n cx dX8_homeOf_15 rfl ?_
      obtain ⟨hs6, h⟩ := h
      obtain ⟨hc7, h⟩ := h
      refine g_iald cx dX8_homeOf_16 hs6 hc7 (x := (I v4 ((x1).toNatClampNeg))) rfl ?_
      refine g_goto cx (tgt := 21) dX8_homeOf_17 rfl ?_
      exact g_wi cx hE dX8_homeOf_21 rfl rfl hP h
def w_X0_homePlace (o : Nat) (I : zI) (P : zP) (K : Int32 → zI → zP → Prop) : Prop := SHy[o]? = some (0, 6) ∧ (if (I o 4) = 0 then (K (I o 5) I P) else (∃ v3, P o 3 = some v3 ∧ (SHy[v3]? = some (3, 11) ∧ (∃ v6, P v3 6 = some v6 ∧ (SHy[v6]? = some (8, 11) ∧ (w_X8_homeOf v6 (I o 5) I P (fun (v9 : Int32) (I9 : zI) (P9 : zP) => (K v9 I9 P9))))))))
theorem e_X0_homePlace {o : Nat} {I : zI} {P : zP} {K : Int32 → zI → zP → Prop} (hP : PSt P) (h : w_X0_homePlace o I P K) : Ev yX0_homePlace cX0_homePlace 1 (some .int) 1 21 0 0 [.ref o] SHy I P (zKi K) := by
  refine Ev.start [.ref o] pn_X0 rfl (Nat.le_of_ble_eq_true rfl) rfl (fun κ cx hE => ?_)
  unfold w_X0_homePlace at h
  refine g_aload_n cx dX0_homePlace_0 rfl ?_
  obtain ⟨hs1, h⟩ := h
  refine g_getI cx lk_X0_22 hs1 (Nat.le_of_ble_eq_true rfl) rfl dX0_homePlace_1 (x := (I o 4)) rfl ?_
  refine g_if_eq cx (tgt := 24) dX0_homePlace_4 rfl (fun c2 => ?_) (fun c2 => ?_)
  · have h := zifp c2 h
    refine g_aload_n cx dX0_homePlace_24 rfl ?_
    refine g_getI cx lk_X0_26 hs1 (Nat.le_of_ble_eq_true rfl) rfl dX0_homePlace_25 (x := (I o 5)) rfl ?_
    exact g_wi cx hE dX0_homePlace_28 rfl rfl hP h
  · have h := zifn c2 h
    refine g_aload_n cx dX0_homePlace_7 rfl ?_
    obtain ⟨v3, hv4, h⟩ := h
    refine g_getR cx lk_X0_29 hs1 (Nat.le_of_ble_eq_true rfl) rfl dX0_homePlace_8 hv4 ?_
    obtain ⟨hs5, h⟩ := h
    obtain ⟨v6, hv7, h⟩ := h
    refine g_getR cx lk_X0_39 hs5 (Nat.le_of_ble_eq_true rfl) rfl dX0_homePlace_11 hv7 ?_
    refine g_aload_n cx dX0_homePlace_14 rfl ?_
    refine g_getI cx lk_X0_26 hs1 (Nat.le_of_ble_eq_true rfl) rfl dX0_homePlace_15 (x := (I o 5)) rfl ?_
    obtain ⟨hs8, h⟩ := h
    refine g_wVi cx [.int (I o 5)] [] (e_X8_homeOf hP h) mt_X8_homeOf ml_X0_58 hs8 rfl rfl dX0_homePlace_18 rfl rfl (Nat.le_of_ble_eq_true rfl) (Nat.le_of_ble_eq_true rfl) (Nat.le_of_ble_eq_true rfl) (fun v9 I9 P9 hP h => ?_)
    refine g_goto cx (tgt := 28) dX0_homePlace_21 rfl ?_
    exact g_wi cx hE dX0_homePlace_28 rfl rfl hP h
def w_X0_local (o : Nat) (x1 : Int32) (I : zI) (P : zP) (K : Int32 → zI → zP → Prop) : Prop := if x1 < 0 then (K 0 I P) else (if 12 ≤ x1 then (K 0 I P) else (SHy[o]? = some (0, 6) ∧ (∃ v4, P o 0 = some v4 ∧ (SHy[v4]? = some (11, (zlen v4)) ∧ (vp_in x1 (zlen v4) ∧ (K (I v4 ((x1).toNatClampNeg)) I P))))))
theorem e_X0_local {o : Nat} {x1 : Int32} {I : zI} {P : zP} {K : Int32 → zI → zP → Prop} (hP : PSt P) (h : w_X0_local o x1 I P K) : Ev yX0_local cX0_local 2 (some .int) 0 0 0 0 [.ref o, .int x1] SHy I P (zKi K) := by
  refine Ev.start [.ref o, .int x1] pn_X0 rfl (Nat.le_of_ble_eq_true rfl) rfl (fun κ cx hE => ?_)
  unfold w_X0_local at h
  refine g_iload_n cx dX0_local_0 rfl ?_
  refine g_if_lt cx (tgt := 19) dX0_local_1 rfl (fun c1 => ?_) (fun c1 => ?_)
  · have h := zifp c1 h
    refine g_iconst cx dX0_local_19 ic_0 ?_
    exact g_wi cx hE dX0_local_20 rfl rfl hP h
  · have h := zifn c1 h
    refine g_iload_n cx dX0_local_4 rfl ?_
    refine g_bipush cx dX0_local_5 bp_12 ?_
    refine g_icmp_ge cx (tgt := 19) dX0_local_7 rfl (fun c2 => ?_) (fun c2 => ?_)
    · have h := zifp c2 h
      refine g_iconst cx dX0_local_19 ic_0 ?_
      exact g_wi cx hE dX0_local_20 rfl rfl hP h
    · have h := zifn c2 h
      refine g_aload_n cx dX0_local_10 rfl ?_
      obtain ⟨hs3, h⟩ := h
      obtain ⟨v4, hv5, h⟩ := h
      refine g_getR cx lk_X0_9 hs3 (Nat.le_of_ble_eq_true rfl) rfl dX0_local_11 hv5 ?_
      refine g_iload_n cx dX0_local_14 rfl ?_
      obtain ⟨hs6, h⟩ := h
      obtain ⟨hc7, h⟩ := h
      refine g_iald cx dX0_local_15 hs6 hc7 (x := (I v4 ((x1).toNatClampNeg))) rfl ?_
      refine g_goto cx (tgt := 20) dX0_local_16 rfl ?_
      exact g_wi cx hE dX0_local_20 rfl rfl hP h
def w_X9_byteAt (x1 : Nat) (x2 : Int32) (I : zI) (P : zP) (K : Int32 → zI → zP → Prop) : Prop := if x2 < 0 then (K 0 I P) else (SHy[x1]? = some (11, (zlen x1)) ∧ (if (Int32.ofNat (zlen x1)) ≤ x2 then (K 0 I P) else (vp_in x2 (zlen x1) ∧ (K (I x1 ((x2).toNatClampNeg)) I P))))
theorem e_X9_byteAt {x1 : Nat} {x2 : Int32} {I : zI} {P : zP} {K : Int32 → zI → zP → Prop} (hP : PSt P) (h : w_X9_byteAt x1 x2 I P K) : Ev yX9_byteAt cX9_byteAt 2 (some .int) 0 0 0 0 [.ref x1, .int x2] SHy I P (zKi K) := by
  refine Ev.start [.ref x1, .int x2] pn_X9 rfl (Nat.le_of_ble_eq_true rfl) rfl (fun κ cx hE => ?_)
  unfold w_X9_byteAt at h
  refine g_iload_n cx dX9_byteAt_0 rfl ?_
  refine g_if_lt cx (tgt := 16) dX9_byteAt_1 rfl (fun c1 => ?_) (fun c1 => ?_)
  · have h := zifp c1 h
    refine g_iconst cx dX9_byteAt_16 ic_0 ?_
    exact g_wi cx hE dX9_byteAt_17 rfl rfl hP h
  · have h := zifn c1 h
    refine g_iload_n cx dX9_byteAt_4 rfl ?_
    refine g_aload_n cx dX9_byteAt_5 rfl ?_
    obtain ⟨hs2, h⟩ := h
    refine g_alen cx hs2 (Nat.le_of_ble_eq_true rfl) (Nat.le_of_ble_eq_true rfl) dX9_byteAt_6 ?_
    refine g_icmp_ge cx (tgt := 16) dX9_byteAt_7 rfl (fun c3 => ?_) (fun c3 => ?_)
    · have h := zifp c3 h
      refine g_iconst cx dX9_byteAt_16 ic_0 ?_
      exact g_wi cx hE dX9_byteAt_17 rfl rfl hP h
    · have h := zifn c3 h
      refine g_aload_n cx dX9_byteAt_10 rfl ?_
      refine g_iload_n cx dX9_byteAt_11 rfl ?_
      obtain ⟨hc4, h⟩ := h
      refine g_iald cx dX9_byteAt_12 hs2 hc4 (x := (I x1 ((x2).toNatClampNeg))) rfl ?_
      refine g_goto cx (tgt := 17) dX9_byteAt_13 rfl ?_
      exact g_wi cx hE dX9_byteAt_17 rfl rfl hP h
def w_X0_operand (o : Nat) (I : zI) (P : zP) (K : Int32 → zI → zP → Prop) : Prop := SHy[o]? = some (0, 6) ∧ (w_X0_code o I P (fun (v2 : Nat) (I2 : zI) (P2 : zP) => (w_X9_byteAt v2 ((I2 o 5) + 1) I2 P2 (fun (v3 : Int32) (I3 : zI) (P3 : zP) => (K v3 I3 P3)))))
theorem e_X0_operand {o : Nat} {I : zI} {P : zP} {K : Int32 → zI → zP → Prop} (hP : PSt P) (h : w_X0_operand o I P K) : Ev yX0_operand cX0_operand 1 (some .int) 1 21 0 0 [.ref o] SHy I P (zKi K) := by
  refine Ev.start [.ref o] pn_X0 rfl (Nat.le_of_ble_eq_true rfl) rfl (fun κ cx hE => ?_)
  unfold w_X0_operand at h
  refine g_aload_n cx dX0_operand_0 rfl ?_
  obtain ⟨hs1, h⟩ := h
  refine g_wVr cx [] [] (e_X0_code hP h) mt_X0_code ml_X0_51 hs1 rfl rfl dX0_operand_1 rfl rfl (Nat.le_of_ble_eq_true rfl) (Nat.le_of_ble_eq_true rfl) (Nat.le_of_ble_eq_true rfl) (fun v2 I2 P2 hP h => ?_)
  refine g_aload_n cx dX0_operand_4 rfl ?_
  refine g_getI cx lk_X0_26 hs1 (Nat.le_of_ble_eq_true rfl) rfl dX0_operand_5 (x := (I2 o 5)) rfl ?_
  refine g_iconst cx dX0_operand_8 ic_1 ?_
  refine g_iadd cx dX0_operand_9 ?_
  refine g_wSi cx [.ref v2, .int ((I2 o 5) + 1)] [] (e_X9_byteAt hP h) mt_X9_byteAt ml_X0_54 dX0_operand_10 rfl rfl (Nat.le_of_ble_eq_true rfl) (Nat.le_of_ble_eq_true rfl) (Nat.le_of_ble_eq_true rfl) (fun v3 I3 P3 hP h => ?_)
  exact g_wi cx hE dX0_operand_13 rfl rfl hP h
def w_X0_peek (o : Nat) (x1 : Int32) (I : zI) (P : zP) (K : Int32 → zI → zP → Prop) : Prop := SHy[o]? = some (0, 6) ∧ (if (((I o 2) - 1) - x1) < 0 then (K 0 I P) else (if 10 ≤ (((I o 2) - 1) - x1) then (K 0 I P) else (∃ v4, P o 1 = some v4 ∧ (SHy[v4]? = some (11, (zlen v4)) ∧ (vp_in (((I o 2) - 1) - x1) (zlen v4) ∧ (K (I v4 (((((I o 2) - 1) - x1)).toNatClampNeg)) I P))))))
theorem e_X0_peek {o : Nat} {x1 : Int32} {I : zI} {P : zP} {K : Int32 → zI → zP → Prop} (hP : PSt P) (h : w_X0_peek o x1 I P K) : Ev yX0_peek cX0_peek 3 (some .int) 0 0 0 0 [.ref o, .int x1] SHy I P (zKi K) := by
  refine Ev.start [.ref o, .int x1, .float 0] pn_X0 rfl (Nat.le_of_ble_eq_true rfl) rfl (fun κ cx hE => ?_)
  unfold w_X0_peek at h
  refine g_aload_n cx dX0_peek_0 rfl ?_
  obtain ⟨hs1, h⟩ := h
  refine g_getI cx lk_X0_18 hs1 (Nat.le_of_ble_eq_true rfl) rfl dX0_peek_1 (x := (I o 2)) rfl ?_
  refine g_iconst cx dX0_peek_4 ic_1 ?_
  refine g_isub cx dX0_peek_5 ?_
  refine g_iload_n cx dX0_peek_6 rfl ?_
  refine g_isub cx dX0_peek_7 ?_
  refine g_istore_n cx dX0_peek_8 (Nat.le_of_ble_eq_true rfl) (Gx.L [.ref o, .int x1, .int (((I o 2) - 1) - x1)] rfl ?_)
  refine g_iload_n cx dX0_peek_9 rfl ?_
  refine g_if_lt cx (tgt := 28) dX0_peek_10 rfl (fun c2 => ?_) (fun c2 => ?_)
  · have h := zifp c2 h
    refine g_iconst cx dX0_peek_28 ic_0 ?_
    exact g_wi cx hE dX0_peek_29 rfl rfl hP h
  · have h := zifn c2 h
    refine g_iload_n cx dX0_peek_13 rfl ?_
    refine g_bipush cx dX0_peek_14 bp_10 ?_
    refine g_icmp_ge cx (tgt := 28) dX0_peek_16 rfl (fun c3 => ?_) (fun c3 => ?_)
    · have h := zifp c3 h
      refine g_iconst cx dX0_peek_28 ic_0 ?_
      exact g_wi cx hE dX0_peek_29 rfl rfl hP h
    · have h := zifn c3 h
      refine g_aload_n cx dX0_peek_19 rfl ?_
      obtain ⟨v4, hv5, h⟩ := h
      refine g_getR cx lk_X0_15 hs1 (Nat.le_of_ble_eq_true rfl) rfl dX0_peek_20 hv5 ?_
      refine g_iload_n cx dX0_peek_23 rfl ?_
      obtain ⟨hs6, h⟩ := h
      obtain ⟨hc7, h⟩ := h
      refine g_iald cx dX0_peek_24 hs6 hc7 (x := (I v4 (((((I o 2) - 1) - x1)).toNatClampNeg))) rfl ?_
      refine g_goto cx (tgt := 29) dX0_peek_25 rfl ?_
      exact g_wi cx hE dX0_peek_29 rfl rfl hP h
def w_X0_pop (o : Nat) (I : zI) (P : zP) (K : Int32 → zI → zP → Prop) : Prop := SHy[o]? = some (0, 6) ∧ (if (I o 2) < 1 then (K 0 I P) else (if (I o 2) ≤ 10 then (∃ v4, P o 1 = some v4 ∧ (SHy[v4]? = some (11, (zlen v4)) ∧ (vp_in ((zu I o 2 ((I o 2) - 1)) o 2) (zlen v4) ∧ (K ((zu I o 2 ((I o 2) - 1)) v4 ((((zu I o 2 ((I o 2) - 1)) o 2)).toNatClampNeg)) (zu I o 2 ((I o 2) - 1)) P)))) else (K 0 I P)))
theorem e_X0_pop {o : Nat} {I : zI} {P : zP} {K : Int32 → zI → zP → Prop} (hP : PSt P) (h : w_X0_pop o I P K) : Ev yX0_pop cX0_pop 1 (some .int) 0 0 0 0 [.ref o] SHy I P (zKi K) := by
  refine Ev.start [.ref o] pn_X0 rfl (Nat.le_of_ble_eq_true rfl) rfl (fun κ cx hE => ?_)
  unfold w_X0_pop at h
  refine g_aload_n cx dX0_pop_0 rfl ?_
  obtain ⟨hs1, h⟩ := h
  refine g_getI cx lk_X0_18 hs1 (Nat.le_of_ble_eq_true rfl) rfl dX0_pop_1 (x := (I o 2)) rfl ?_
  refine g_iconst cx dX0_pop_4 ic_1 ?_
  refine g_icmp_lt cx (tgt := 17) dX0_pop_5 rfl (fun c2 => ?_) (fun c2 => ?_)
  · have h := zifp c2 h
    refine g_iconst cx dX0_pop_17 ic_0 ?_
    exact g_wi cx hE dX0_pop_18 rfl rfl hP h
  · have h := zifn c2 h
    refine g_aload_n cx dX0_pop_8 rfl ?_
    refine g_getI cx lk_X0_18 hs1 (Nat.le_of_ble_eq_true rfl) rfl dX0_pop_9 (x := (I o 2)) rfl ?_
    refine g_bipush cx dX0_pop_12 bp_10 ?_
    refine g_icmp_le cx (tgt := 19) dX0_pop_14 rfl (fun c3 => ?_) (fun c3 => ?_)
    · have h := zifp c3 h
      refine g_aload_n cx dX0_pop_19 rfl ?_
      refine g_dup cx dX0_pop_20 rfl ?_
      refine g_getI cx lk_X0_18 hs1 (Nat.le_of_ble_eq_true rfl) rfl dX0_pop_21 (x := (I o 2)) rfl ?_
      refine g_iconst cx dX0_pop_24 ic_1 ?_
      refine g_isub cx dX0_pop_25 ?_
      refine g_pI cx lk_X0_18 hs1 (Nat.le_of_ble_eq_true rfl) rfl dX0_pop_26 fi_0_2 rfl rfl ?_
      refine g_aload_n cx dX0_pop_29 rfl ?_
      obtain ⟨v4, hv5, h⟩ := h
      refine g_getR cx lk_X0_15 hs1 (Nat.le_of_ble_eq_true rfl) rfl dX0_pop_30 hv5 ?_
      refine g_aload_n cx dX0_pop_33 rfl ?_
      refine g_getI cx lk_X0_18 hs1 (Nat.le_of_ble_eq_true rfl) rfl dX0_pop_34 (x := ((zu I o 2 ((I o 2) - 1)) o 2)) rfl ?_
      obtain ⟨hs6, h⟩ := h
      obtain ⟨hc7, h⟩ := h
      refine g_iald cx dX0_pop_37 hs6 hc7 (x := ((zu I o 2 ((I o 2) - 1)) v4 ((((zu I o 2 ((I o 2) - 1)) o 2)).toNatClampNeg))) rfl ?_
      exact g_wi cx hE dX0_pop_38 rfl rfl hP h
    · have h := zifn c3 h
      refine g_iconst cx dX0_pop_17 ic_0 ?_
      exact g_wi cx hE dX0_pop_18 rfl rfl hP h
def w_X0_setLocal (o : Nat) (x1 : Int32) (x2 : Int32) (I : zI) (P : zP) (K : zI → zP → Prop) : Prop := if x1 < 0 then (K I P) else (if 12 ≤ x1 then (K I P) else (SHy[o]? = some (0, 6) ∧ (∃ v4, P o 0 = some v4 ∧ (SHy[v4]? = some (11, (zlen v4)) ∧ (vp_in x1 (zlen v4) ∧ (K (zu I v4 ((x1).toNatClampNeg) x2) P))))))
theorem e_X0_setLocal {o : Nat} {x1 : Int32} {x2 : Int32} {I : zI} {P : zP} {K : zI → zP → Prop} (hP : PSt P) (h : w_X0_setLocal o x1 x2 I P K) : Ev yX0_setLocal cX0_setLocal 3 none 0 0 0 0 [.ref o, .int x1, .int x2] SHy I P (zKv K) := by
  refine Ev.start [.ref o, .int x1, .int x2] pn_X0 rfl (Nat.le_of_ble_eq_true rfl) rfl (fun κ cx hE => ?_)
  unfold w_X0_setLocal at h
  refine g_iload_n cx dX0_setLocal_0 rfl ?_
  refine g_if_lt cx (tgt := 17) dX0_setLocal_1 rfl (fun c1 => ?_) (fun c1 => ?_)
  · have h := zifp c1 h
    exact g_wv cx hE dX0_setLocal_17 rfl hP h
  · have h := zifn c1 h
    refine g_iload_n cx dX0_setLocal_4 rfl ?_
    refine g_bipush cx dX0_setLocal_5 bp_12 ?_
    refine g_icmp_ge cx (tgt := 17) dX0_setLocal_7 rfl (fun c2 => ?_) (fun c2 => ?_)
    · have h := zifp c2 h
      exact g_wv cx hE dX0_setLocal_17 rfl hP h
    · have h := zifn c2 h
      refine g_aload_n cx dX0_setLocal_10 rfl ?_
      obtain ⟨hs3, h⟩ := h
      obtain ⟨v4, hv5, h⟩ := h
      refine g_getR cx lk_X0_9 hs3 (Nat.le_of_ble_eq_true rfl) rfl dX0_setLocal_11 hv5 ?_
      refine g_iload_n cx dX0_setLocal_14 rfl ?_
      refine g_iload_n cx dX0_setLocal_15 rfl ?_
      obtain ⟨hs6, h⟩ := h
      obtain ⟨hc7, h⟩ := h
      refine g_iast cx dX0_setLocal_16 hs6 hc7 ?_
      exact g_wv cx hE dX0_setLocal_17 rfl hP h
def w_X10_faults (x1 : Int32) (I : zI) (P : zP) (K : Int32 → zI → zP → Prop) : Prop := vp_in x1 24 ∧ (vp_in x1 24 ∧ (vp_in x1 24 ∧ (vp_in x1 24 ∧ (if ((zu I 204 ((x1).toNatClampNeg) ((I 204 ((x1).toNatClampNeg)) + 1)) 204 ((x1).toNatClampNeg)) = ((zu I 204 ((x1).toNatClampNeg) ((I 204 ((x1).toNatClampNeg)) + 1)) 173 ((x1).toNatClampNeg)) then (K 1 (zu I 204 ((x1).toNatClampNeg) ((I 204 ((x1).toNatClampNeg)) + 1)) P) else (K 0 (zu I 204 ((x1).toNatClampNeg) ((I 204 ((x1).toNatClampNeg)) + 1)) P)))))
theorem e_X10_faults {x1 : Int32} {I : zI} {P : zP} {K : Int32 → zI → zP → Prop} (hP : PSt P) (h : w_X10_faults x1 I P K) : Ev yX10_faults cX10_faults 2 (some .boolean) 0 0 0 0 [.ref 155, .int x1] SHy I P (zKi K) := by
  refine Ev.start [.ref 155, .int x1] pn_X10 rfl (Nat.le_of_ble_eq_true rfl) rfl (fun κ cx hE => ?_)
  unfold w_X10_faults at h
  refine g_aload_n cx dX10_faults_0 rfl ?_
  refine g_getR cx lk_X10_159 rfl (Nat.le_of_ble_eq_true rfl) rfl dX10_faults_1 (v := 204) (pst hP 203 rfl) ?_
  refine g_iload_n cx dX10_faults_4 rfl ?_
  refine g_dup2 cx dX10_faults_5 rfl rfl ?_
  obtain ⟨hc1, h⟩ := h
  refine g_iald cx dX10_faults_6 rfl hc1 (x := (I 204 ((x1).toNatClampNeg))) rfl ?_
  refine g_iconst cx dX10_faults_7 ic_1 ?_
  refine g_iadd cx dX10_faults_8 ?_
  obtain ⟨hc2, h⟩ := h
  refine g_iast cx dX10_faults_9 rfl hc2 ?_
  refine g_aload_n cx dX10_faults_10 rfl ?_
  refine g_getR cx lk_X10_159 rfl (Nat.le_of_ble_eq_true rfl) rfl dX10_faults_11 (v := 204) (pst hP 203 rfl) ?_
  refine g_iload_n cx dX10_faults_14 rfl ?_
  obtain ⟨hc3, h⟩ := h
  refine g_iald cx dX10_faults_15 rfl hc3 (x := ((zu I 204 ((x1).toNatClampNeg) ((I 204 ((x1).toNatClampNeg)) + 1)) 204 ((x1).toNatClampNeg))) rfl ?_
  refine g_aload_n cx dX10_faults_16 rfl ?_
  refine g_getR cx lk_X10_66 rfl (Nat.le_of_ble_eq_true rfl) rfl dX10_faults_17 (v := 173) (pst hP 172 rfl) ?_
  refine g_iload_n cx dX10_faults_20 rfl ?_
  obtain ⟨hc4, h⟩ := h
  refine g_iald cx dX10_faults_21 rfl hc4 (x := ((zu I 204 ((x1).toNatClampNeg) ((I 204 ((x1).toNatClampNeg)) + 1)) 173 ((x1).toNatClampNeg))) rfl ?_
  refine g_icmp_ne cx (tgt := 29) dX10_faults_22 rfl (fun c5 => ?_) (fun c5 => ?_)
  · have h := zifn c5 h
    refine g_iconst cx dX10_faults_29 ic_0 ?_
    exact g_wi cx hE dX10_faults_30 rfl rfl hP h
  · have h := zifp c5 h
    refine g_iconst cx dX10_faults_25 ic_1 ?_
    refine g_goto cx (tgt := 30) dX10_faults_26 rfl ?_
    exact g_wi cx hE dX10_faults_30 rfl rfl hP h
def w_X10_isWoven (x1 : Int32) (I : zI) (P : zP) (K : Int32 → zI → zP → Prop) : Prop := vp_in x1 6 ∧ (if (I 175 ((x1).toNatClampNeg)) < 0 then (K 0 I P) else (K 1 I P))
theorem e_X10_isWoven {x1 : Int32} {I : zI} {P : zP} {K : Int32 → zI → zP → Prop} (hP : PSt P) (h : w_X10_isWoven x1 I P K) : Ev yX10_isWoven cX10_isWoven 2 (some .boolean) 0 0 0 0 [.ref 155, .int x1] SHy I P (zKi K) := by
  refine Ev.start [.ref 155, .int x1] pn_X10 rfl (Nat.le_of_ble_eq_true rfl) rfl (fun κ cx hE => ?_)
  unfold w_X10_isWoven at h
  refine g_aload_n cx dX10_isWoven_0 rfl ?_
  refine g_getR cx lk_X10_72 rfl (Nat.le_of_ble_eq_true rfl) rfl dX10_isWoven_1 (v := 175) (pst hP 174 rfl) ?_
  refine g_iload_n cx dX10_isWoven_4 rfl ?_
  obtain ⟨hc1, h⟩ := h
  refine g_iald cx dX10_isWoven_5 rfl hc1 (x := (I 175 ((x1).toNatClampNeg))) rfl ?_
  refine g_if_lt cx (tgt := 13) dX10_isWoven_6 rfl (fun c2 => ?_) (fun c2 => ?_)
  · have h := zifp c2 h
    refine g_iconst cx dX10_isWoven_13 ic_0 ?_
    exact g_wi cx hE dX10_isWoven_14 rfl rfl hP h
  · have h := zifn c2 h
    refine g_iconst cx dX10_isWoven_9 ic_1 ?_
    refine g_goto cx (tgt := 14) dX10_isWoven_10 rfl ?_
    exact g_wi cx hE dX10_isWoven_14 rfl rfl hP h
def w_X10_runsWoven (x1 : Int32) (I : zI) (P : zP) (K : Int32 → zI → zP → Prop) : Prop := if (I 155 50) = 1 then (w_X10_isWoven x1 I P (fun (v2 : Int32) (I2 : zI) (P2 : zP) => (if v2 = 0 then (K 0 I2 P2) else (K 1 I2 P2)))) else (K 0 I P)
theorem e_X10_runsWoven {x1 : Int32} {I : zI} {P : zP} {K : Int32 → zI → zP → Prop} (hP : PSt P) (h : w_X10_runsWoven x1 I P K) : Ev yX10_runsWoven cX10_runsWoven 2 (some .boolean) 1 21 0 0 [.ref 155, .int x1] SHy I P (zKi K) := by
  refine Ev.start [.ref 155, .int x1] pn_X10 rfl (Nat.le_of_ble_eq_true rfl) rfl (fun κ cx hE => ?_)
  unfold w_X10_runsWoven at h
  refine g_aload_n cx dX10_runsWoven_0 rfl ?_
  refine g_getI cx lk_X10_385 rfl (Nat.le_of_ble_eq_true rfl) rfl dX10_runsWoven_1 (x := (I 155 50)) rfl ?_
  refine g_iconst cx dX10_runsWoven_4 ic_1 ?_
  refine g_icmp_ne cx (tgt := 20) dX10_runsWoven_5 rfl (fun c1 => ?_) (fun c1 => ?_)
  · have h := zifn c1 h
    refine g_iconst cx dX10_runsWoven_20 ic_0 ?_
    exact g_wi cx hE dX10_runsWoven_21 rfl rfl hP h
  · have h := zifp c1 h
    refine g_aload_n cx dX10_runsWoven_8 rfl ?_
    refine g_iload_n cx dX10_runsWoven_9 rfl ?_
    refine g_wVi cx [.int x1] [] (e_X10_isWoven hP h) mt_X10_isWoven ml_X10_325 rfl rfl rfl dX10_runsWoven_10 rfl rfl (Nat.le_of_ble_eq_true rfl) (Nat.le_of_ble_eq_true rfl) (Nat.le_of_ble_eq_true rfl) (fun v2 I2 P2 hP h => ?_)
    refine g_if_eq cx (tgt := 20) dX10_runsWoven_13 rfl (fun c3 => ?_) (fun c3 => ?_)
    · have h := zifp c3 h
      refine g_iconst cx dX10_runsWoven_20 ic_0 ?_
      exact g_wi cx hE dX10_runsWoven_21 rfl rfl hP h
    · have h := zifn c3 h
      refine g_iconst cx dX10_runsWoven_16 ic_1 ?_
      refine g_goto cx (tgt := 21) dX10_runsWoven_17 rfl ?_
      exact g_wi cx hE dX10_runsWoven_21 rfl rfl hP h
def j_X10_catches_127 (X30 : Int32 → Int32 → Int32 → Int32 → Int32 → zI → zP → Prop) (K : Int32 → zI → zP → Prop) (y1 : Int32) (y2 : Int32) (y3 : Int32) (y4 : Int32) (y5 : Int32) (y6 : Int32) (y7 : Int32) (y8 : Int32) (s0 : Int32) (I : zI) (P : zP) : Prop := if y2 < y7 then (X30 y1 y2 y3 y4 (y5 + 1) I P) else (if y8 ≤ y2 then (X30 y1 y2 y3 y4 (y5 + 1) I P) else (if s0 = 0 then (K y6 I P) else (if s0 = (I 155 65) then (K y6 I P) else (X30 y1 y2 y3 y4 (y5 + 1) I P))))
theorem gj_X10_catches_127 {κ : zX} (cx : Cx yX10_catches cX10_catches 10 (some .int) 2 42 κ) {K : Int32 → zI → zP → Prop} (hE : zEnd (zKi K) 0 0 κ) {X30 : Int32 → Int32 → Int32 → Int32 → Int32 → zI → zP → Prop} (hX30 : ∀ (y1 : Int32) (y2 : Int32) (y3 : Int32) (y4 : Int32) (y5 : Int32) (I : zI) (P : zP), PSt P → X30 y1 y2 y3 y4 y5 I P → Gx κ 30 [.ref 155, .int y1, .int y2, .int y3, .int y4, .int y5, .float 0, .float 0, .float 0, .float 0] [] SHy I P 0 0) {y1 : Int32} {y2 : Int32} {y3 : Int32} {y4 : Int32} {y5 : Int32} {y6 : Int32} {y7 : Int32} {y8 : Int32} {s0 : Int32} {I : zI} {P : zP} (hP : PSt P) (h : j_X10_catches_127 X30 K y1 y2 y3 y4 y5 y6 y7 y8 s0 I P) : Gx κ 127 [.ref 155, .int y1, .int y2, .int y3, .int y4, .int y5, .int y6, .int y7, .int y8, .float 0] [.int s0] SHy I P 0 0 := by
  unfold j_X10_catches_127 at h
  refine g_istore cx dX10_catches_127 (Nat.le_of_ble_eq_true rfl) (Gx.L [.ref 155, .int y1, .int y2, .int y3, .int y4, .int y5, .int y6, .int y7, .int y8, .int s0] rfl ?_)
  refine g_iload cx dX10_catches_129 rfl ?_
  refine g_iload_n cx dX10_catches_131 rfl ?_
  refine g_icmp_gt cx (tgt := 158) dX10_catches_132 rfl (fun c1 => ?_) (fun c1 => ?_)
  · have h := zifp c1 h
    refine g_iinc cx (v := (y5 + 1)) dX10_catches_158 rfl rfl (Nat.le_of_ble_eq_true rfl) (Gx.L [.ref 155, .int y1, .int y2, .int y3, .int y4, .int (y5 + 1), .int y6, .int y7, .int y8, .int s0] rfl ?_)
    refine g_goto cx (tgt := 30) dX10_catches_161 rfl ?_
    refine (Gx.unset 6 (Gx.unset 7 (Gx.unset 8 (Gx.unset 9 (Gx.L [.ref 155, .int y1, .int y2, .int y3, .int y4, .int (y5 + 1), .float 0, .float 0, .float 0, .float 0] rfl ?_)))))
    exact hX30 _ _ _ _ _ _ _ hP h
  · have h := zifn c1 h
    refine g_iload_n cx dX10_catches_135 rfl ?_
    refine g_iload cx dX10_catches_136 rfl ?_
    refine g_icmp_ge cx (tgt := 158) dX10_catches_138 rfl (fun c2 => ?_) (fun c2 => ?_)
    · have h := zifp c2 h
      refine g_iinc cx (v := (y5 + 1)) dX10_catches_158 rfl rfl (Nat.le_of_ble_eq_true rfl) (Gx.L [.ref 155, .int y1, .int y2, .int y3, .int y4, .int (y5 + 1), .int y6, .int y7, .int y8, .int s0] rfl ?_)
      refine g_goto cx (tgt := 30) dX10_catches_161 rfl ?_
      refine (Gx.unset 6 (Gx.unset 7 (Gx.unset 8 (Gx.unset 9 (Gx.L [.ref 155, .int y1, .int y2, .int y3, .int y4, .int (y5 + 1), .float 0, .float 0, .float 0, .float 0] rfl ?_)))))
      exact hX30 _ _ _ _ _ _ _ hP h
    · have h := zifn c2 h
      refine g_iload cx dX10_catches_141 rfl ?_
      refine g_if_eq cx (tgt := 155) dX10_catches_143 rfl (fun c3 => ?_) (fun c3 => ?_)
      · have h := zifp c3 h
        refine g_iload cx dX10_catches_155 rfl ?_
        exact g_wi cx hE dX10_catches_157 rfl rfl hP h
      · have h := zifn c3 h
        refine g_iload cx dX10_catches_146 rfl ?_
        refine g_aload_n cx dX10_catches_148 rfl ?_
        refine g_getI cx lk_X10_424 rfl (Nat.le_of_ble_eq_true rfl) rfl dX10_catches_149 (x := (I 155 65)) rfl ?_
        refine g_icmp_ne cx (tgt := 158) dX10_catches_152 rfl (fun c4 => ?_) (fun c4 => ?_)
        · have h := zifn c4 h
          refine g_iinc cx (v := (y5 + 1)) dX10_catches_158 rfl rfl (Nat.le_of_ble_eq_true rfl) (Gx.L [.ref 155, .int y1, .int y2, .int y3, .int y4, .int (y5 + 1), .int y6, .int y7, .int y8, .int s0] rfl ?_)
          refine g_goto cx (tgt := 30) dX10_catches_161 rfl ?_
          refine (Gx.unset 6 (Gx.unset 7 (Gx.unset 8 (Gx.unset 9 (Gx.L [.ref 155, .int y1, .int y2, .int y3, .int y4, .int (y5 + 1), .float 0, .float 0, .float 0, .float 0] rfl ?_)))))
          exact hX30 _ _ _ _ _ _ _ hP h
        · have h := zifp c4 h
          refine g_iload cx dX10_catches_155 rfl ?_
          exact g_wi cx hE dX10_catches_157 rfl rfl hP h
def j_X10_catches_104 (X30 : Int32 → Int32 → Int32 → Int32 → Int32 → zI → zP → Prop) (K : Int32 → zI → zP → Prop) (y1 : Int32) (y2 : Int32) (y3 : Int32) (y4 : Int32) (y5 : Int32) (y6 : Int32) (y7 : Int32) (s0 : Int32) (I : zI) (P : zP) : Prop := if y3 = 0 then (vp_in y6 48 ∧ (j_X10_catches_127 X30 K y1 y2 y3 y4 y5 y6 y7 s0 (I 165 ((y6).toNatClampNeg)) I P)) else (vp_in y6 54 ∧ (j_X10_catches_127 X30 K y1 y2 y3 y4 y5 y6 y7 s0 (I 183 ((y6).toNatClampNeg)) I P))
theorem gj_X10_catches_104 {κ : zX} (cx : Cx yX10_catches cX10_catches 10 (some .int) 2 42 κ) {K : Int32 → zI → zP → Prop} (hE : zEnd (zKi K) 0 0 κ) {X30 : Int32 → Int32 → Int32 → Int32 → Int32 → zI → zP → Prop} (hX30 : ∀ (y1 : Int32) (y2 : Int32) (y3 : Int32) (y4 : Int32) (y5 : Int32) (I : zI) (P : zP), PSt P → X30 y1 y2 y3 y4 y5 I P → Gx κ 30 [.ref 155, .int y1, .int y2, .int y3, .int y4, .int y5, .float 0, .float 0, .float 0, .float 0] [] SHy I P 0 0) {y1 : Int32} {y2 : Int32} {y3 : Int32} {y4 : Int32} {y5 : Int32} {y6 : Int32} {y7 : Int32} {s0 : Int32} {I : zI} {P : zP} (hP : PSt P) (h : j_X10_catches_104 X30 K y1 y2 y3 y4 y5 y6 y7 s0 I P) : Gx κ 104 [.ref 155, .int y1, .int y2, .int y3, .int y4, .int y5, .int y6, .int y7, .float 0, .float 0] [.int s0] SHy I P 0 0 := by
  unfold j_X10_catches_104 at h
  refine g_istore cx dX10_catches_104 (Nat.le_of_ble_eq_true rfl) (Gx.L [.ref 155, .int y1, .int y2, .int y3, .int y4, .int y5, .int y6, .int y7, .int s0, .float 0] rfl ?_)
  refine g_iload_n cx dX10_catches_106 rfl ?_
  refine g_if_eq cx (tgt := 120) dX10_catches_107 rfl (fun c1 => ?_) (fun c1 => ?_)
  · have h := zifp c1 h
    refine g_aload_n cx dX10_catches_120 rfl ?_
    refine g_getR cx lk_X10_41 rfl (Nat.le_of_ble_eq_true rfl) rfl dX10_catches_121 (v := 165) (pst hP 164 rfl) ?_
    refine g_iload cx dX10_catches_124 rfl ?_
    obtain ⟨hc2, h⟩ := h
    refine g_iald cx dX10_catches_126 rfl hc2 (x := (I 165 ((y6).toNatClampNeg))) rfl ?_
    exact gj_X10_catches_127 cx hE hX30 hP h
  · have h := zifn c1 h
    refine g_aload_n cx dX10_catches_110 rfl ?_
    refine g_getR cx lk_X10_96 rfl (Nat.le_of_ble_eq_true rfl) rfl dX10_catches_111 (v := 183) (pst hP 182 rfl) ?_
    refine g_iload cx dX10_catches_114 rfl ?_
    obtain ⟨hc3, h⟩ := h
    refine g_iald cx dX10_catches_116 rfl hc3 (x := (I 183 ((y6).toNatClampNeg))) rfl ?_
    refine g_goto cx (tgt := 127) dX10_catches_117 rfl ?_
    exact gj_X10_catches_127 cx hE hX30 hP h
def j_X10_catches_81 (X30 : Int32 → Int32 → Int32 → Int32 → Int32 → zI → zP → Prop) (K : Int32 → zI → zP → Prop) (y1 : Int32) (y2 : Int32) (y3 : Int32) (y4 : Int32) (y5 : Int32) (y6 : Int32) (s0 : Int32) (I : zI) (P : zP) : Prop := if y3 = 0 then (vp_in y6 48 ∧ (j_X10_catches_104 X30 K y1 y2 y3 y4 y5 y6 s0 (I 163 ((y6).toNatClampNeg)) I P)) else (vp_in y6 54 ∧ (j_X10_catches_104 X30 K y1 y2 y3 y4 y5 y6 s0 (I 181 ((y6).toNatClampNeg)) I P))
theorem gj_X10_catches_81 {κ : zX} (cx : Cx yX10_catches cX10_catches 10 (some .int) 2 42 κ) {K : Int32 → zI → zP → Prop} (hE : zEnd (zKi K) 0 0 κ) {X30 : Int32 → Int32 → Int32 → Int32 → Int32 → zI → zP → Prop} (hX30 : ∀ (y1 : Int32) (y2 : Int32) (y3 : Int32) (y4 : Int32) (y5 : Int32) (I : zI) (P : zP), PSt P → X30 y1 y2 y3 y4 y5 I P → Gx κ 30 [.ref 155, .int y1, .int y2, .int y3, .int y4, .int y5, .float 0, .float 0, .float 0, .float 0] [] SHy I P 0 0) {y1 : Int32} {y2 : Int32} {y3 : Int32} {y4 : Int32} {y5 : Int32} {y6 : Int32} {s0 : Int32} {I : zI} {P : zP} (hP : PSt P) (h : j_X10_catches_81 X30 K y1 y2 y3 y4 y5 y6 s0 I P) : Gx κ 81 [.ref 155, .int y1, .int y2, .int y3, .int y4, .int y5, .int y6, .float 0, .float 0, .float 0] [.int s0] SHy I P 0 0 := by
  unfold j_X10_catches_81 at h
  refine g_istore cx dX10_catches_81 (Nat.le_of_ble_eq_true rfl) (Gx.L [.ref 155, .int y1, .int y2, .int y3, .int y4, .int y5, .int y6, .int s0, .float 0, .float 0] rfl ?_)
  refine g_iload_n cx dX10_catches_83 rfl ?_
  refine g_if_eq cx (tgt := 97) dX10_catches_84 rfl (fun c1 => ?_) (fun c1 => ?_)
  · have h := zifp c1 h
    refine g_aload_n cx dX10_catches_97 rfl ?_
    refine g_getR cx lk_X10_35 rfl (Nat.le_of_ble_eq_true rfl) rfl dX10_catches_98 (v := 163) (pst hP 162 rfl) ?_
    refine g_iload cx dX10_catches_101 rfl ?_
    obtain ⟨hc2, h⟩ := h
    refine g_iald cx dX10_catches_103 rfl hc2 (x := (I 163 ((y6).toNatClampNeg))) rfl ?_
    exact gj_X10_catches_104 cx hE hX30 hP h
  · have h := zifn c1 h
    refine g_aload_n cx dX10_catches_87 rfl ?_
    refine g_getR cx lk_X10_90 rfl (Nat.le_of_ble_eq_true rfl) rfl dX10_catches_88 (v := 181) (pst hP 180 rfl) ?_
    refine g_iload cx dX10_catches_91 rfl ?_
    obtain ⟨hc3, h⟩ := h
    refine g_iald cx dX10_catches_93 rfl hc3 (x := (I 181 ((y6).toNatClampNeg))) rfl ?_
    refine g_goto cx (tgt := 104) dX10_catches_94 rfl ?_
    exact gj_X10_catches_104 cx hE hX30 hP h
def j_X10_catches_58 (X30 : Int32 → Int32 → Int32 → Int32 → Int32 → zI → zP → Prop) (K : Int32 → zI → zP → Prop) (y1 : Int32) (y2 : Int32) (y3 : Int32) (y4 : Int32) (y5 : Int32) (s0 : Int32) (I : zI) (P : zP) : Prop := if y3 = 0 then (vp_in s0 48 ∧ (j_X10_catches_81 X30 K y1 y2 y3 y4 y5 s0 (I 162 ((s0).toNatClampNeg)) I P)) else (vp_in s0 54 ∧ (j_X10_catches_81 X30 K y1 y2 y3 y4 y5 s0 (I 180 ((s0).toNatClampNeg)) I P))
theorem gj_X10_catches_58 {κ : zX} (cx : Cx yX10_catches cX10_catches 10 (some .int) 2 42 κ) {K : Int32 → zI → zP → Prop} (hE : zEnd (zKi K) 0 0 κ) {X30 : Int32 → Int32 → Int32 → Int32 → Int32 → zI → zP → Prop} (hX30 : ∀ (y1 : Int32) (y2 : Int32) (y3 : Int32) (y4 : Int32) (y5 : Int32) (I : zI) (P : zP), PSt P → X30 y1 y2 y3 y4 y5 I P → Gx κ 30 [.ref 155, .int y1, .int y2, .int y3, .int y4, .int y5, .float 0, .float 0, .float 0, .float 0] [] SHy I P 0 0) {y1 : Int32} {y2 : Int32} {y3 : Int32} {y4 : Int32} {y5 : Int32} {s0 : Int32} {I : zI} {P : zP} (hP : PSt P) (h : j_X10_catches_58 X30 K y1 y2 y3 y4 y5 s0 I P) : Gx κ 58 [.ref 155, .int y1, .int y2, .int y3, .int y4, .int y5, .float 0, .float 0, .float 0, .float 0] [.int s0] SHy I P 0 0 := by
  unfold j_X10_catches_58 at h
  refine g_istore cx dX10_catches_58 (Nat.le_of_ble_eq_true rfl) (Gx.L [.ref 155, .int y1, .int y2, .int y3, .int y4, .int y5, .int s0, .float 0, .float 0, .float 0] rfl ?_)
  refine g_iload_n cx dX10_catches_60 rfl ?_
  refine g_if_eq cx (tgt := 74) dX10_catches_61 rfl (fun c1 => ?_) (fun c1 => ?_)
  · have h := zifp c1 h
    refine g_aload_n cx dX10_catches_74 rfl ?_
    refine g_getR cx lk_X10_32 rfl (Nat.le_of_ble_eq_true rfl) rfl dX10_catches_75 (v := 162) (pst hP 161 rfl) ?_
    refine g_iload cx dX10_catches_78 rfl ?_
    obtain ⟨hc2, h⟩ := h
    refine g_iald cx dX10_catches_80 rfl hc2 (x := (I 162 ((s0).toNatClampNeg))) rfl ?_
    exact gj_X10_catches_81 cx hE hX30 hP h
  · have h := zifn c1 h
    refine g_aload_n cx dX10_catches_64 rfl ?_
    refine g_getR cx lk_X10_87 rfl (Nat.le_of_ble_eq_true rfl) rfl dX10_catches_65 (v := 180) (pst hP 179 rfl) ?_
    refine g_iload cx dX10_catches_68 rfl ?_
    obtain ⟨hc3, h⟩ := h
    refine g_iald cx dX10_catches_70 rfl hc3 (x := (I 180 ((s0).toNatClampNeg))) rfl ?_
    refine g_goto cx (tgt := 81) dX10_catches_71 rfl ?_
    exact gj_X10_catches_81 cx hE hX30 hP h
def l_X10_catches_30 (K : Int32 → zI → zP → Prop) : Nat → Int32 → Int32 → Int32 → Int32 → Int32 → zI → zP → Prop
  | 0, _, _, _, _, _, _, _ => False
  | n + 1, y1, y2, y3, y4, y5, I, P => if y4 ≤ y5 then (K (-1) I P) else (if y3 = 0 then (j_X10_catches_58 (l_X10_catches_30 K n) K y1 y2 y3 y4 y5 ((8 * y1) + y5) I P) else (j_X10_catches_58 (l_X10_catches_30 K n) K y1 y2 y3 y4 y5 ((9 * y1) + y5) I P))
theorem gl_X10_catches_30 {κ : zX} (cx : Cx yX10_catches cX10_catches 10 (some .int) 2 42 κ) {K : Int32 → zI → zP → Prop} (hE : zEnd (zKi K) 0 0 κ) : ∀ (n : Nat) (y1 : Int32) (y2 : Int32) (y3 : Int32) (y4 : Int32) (y5 : Int32) (I : zI) (P : zP), PSt P → l_X10_catches_30 K n y1 y2 y3 y4 y5 I P → Gx κ 30 [.ref 155, .int y1, .int y2, .int y3, .int y4, .int y5, .float 0, .float 0, .float 0, .float 0] [] SHy I P 0 0 := by
  intro n
  induction n with
  | zero =>
    intro y1 y2 y3 y4 y5 I P hP h
    rw [l_X10_catches_30] at h
    exact False.elim h
  | succ n ih =>
    intro y1 y2 y3 y4 y5 I P hP h
    rw [l_X10_catches_30] at h
    refine g_iload cx dX10_catches_30 rfl ?_
    refine g_iload cx dX10_catches_32 rfl ?_
    refine g_icmp_ge cx (tgt := 164) dX10_catches_34 rfl (fun c1 => ?_) (fun c1 => ?_)
    · have h := zifp c1 h
      refine g_iconst cx dX10_catches_164 ic_m1 ?_
      exact g_wi cx hE dX10_catches_165 rfl rfl hP h
    · have h := zifn c1 h
      refine g_iload_n cx dX10_catches_37 rfl ?_
      refine g_if_eq cx (tgt := 51) dX10_catches_38 rfl (fun c2 => ?_) (fun c2 => ?_)
      · have h := zifp c2 h
        refine g_bipush cx dX10_catches_51 bp_8 ?_
        refine g_iload_n cx dX10_catches_53 rfl ?_
        refine g_imul cx dX10_catches_54 ?_
        refine g_iload cx dX10_catches_55 rfl ?_
        refine g_iadd cx dX10_catches_57 ?_
        exact gj_X10_catches_58 cx hE ih hP h
      · have h := zifn c2 h
        refine g_bipush cx dX10_catches_41 bp_9 ?_
        refine g_iload_n cx dX10_catches_43 rfl ?_
        refine g_imul cx dX10_catches_44 ?_
        refine g_iload cx dX10_catches_45 rfl ?_
        refine g_iadd cx dX10_catches_47 ?_
        refine g_goto cx (tgt := 58) dX10_catches_48 rfl ?_
        exact gj_X10_catches_58 cx hE ih hP h
def w_X10_catches (x1 : Int32) (x2 : Int32) (I : zI) (P : zP) (K : Int32 → zI → zP → Prop) : Prop := w_X10_runsWoven x1 I P (fun (v1 : Int32) (I1 : zI) (P1 : zP) => (if v1 = 0 then (vp_in x1 6 ∧ (∃ n9, l_X10_catches_30 K n9 x1 x2 v1 (I1 161 ((x1).toNatClampNeg)) 0 I1 P1)) else (vp_in x1 6 ∧ (∃ n9, l_X10_catches_30 K n9 x1 x2 v1 (I1 179 ((x1).toNatClampNeg)) 0 I1 P1))))
theorem e_X10_catches {x1 : Int32} {x2 : Int32} {I : zI} {P : zP} {K : Int32 → zI → zP → Prop} (hP : PSt P) (h : w_X10_catches x1 x2 I P K) : Ev yX10_catches cX10_catches 10 (some .int) 2 42 0 0 [.ref 155, .int x1, .int x2] SHy I P (zKi K) := by
  refine Ev.start [.ref 155, .int x1, .int x2, .float 0, .float 0, .float 0, .float 0, .float 0, .float 0, .float 0] pn_X10 rfl (Nat.le_of_ble_eq_true rfl) rfl (fun κ cx hE => ?_)
  unfold w_X10_catches at h
  refine g_aload_n cx dX10_catches_0 rfl ?_
  refine g_iload_n cx dX10_catches_1 rfl ?_
  refine g_wVi cx [.int x1] [] (e_X10_runsWoven hP h) mt_X10_runsWoven ml_X10_445 rfl rfl rfl dX10_catches_2 rfl rfl (Nat.le_of_ble_eq_true rfl) (Nat.le_of_ble_eq_true rfl) (Nat.le_of_ble_eq_true rfl) (fun v1 I1 P1 hP h => ?_)
  refine g_istore_n cx dX10_catches_5 (Nat.le_of_ble_eq_true rfl) (Gx.L [.ref 155, .int x1, .int x2, .int v1, .float 0, .float 0, .float 0, .float 0, .float 0, .float 0] rfl ?_)
  refine g_iload_n cx dX10_catches_6 rfl ?_
  refine g_if_eq cx (tgt := 19) dX10_catches_7 rfl (fun c2 => ?_) (fun c2 => ?_)
  · have h := zifp c2 h
    refine g_aload_n cx dX10_catches_19 rfl ?_
    refine g_getR cx lk_X10_29 rfl (Nat.le_of_ble_eq_true rfl) rfl dX10_catches_20 (v := 161) (pst hP 160 rfl) ?_
    refine g_iload_n cx dX10_catches_23 rfl ?_
    obtain ⟨hc3, h⟩ := h
    refine g_iald cx dX10_catches_24 rfl hc3 (x := (I1 161 ((x1).toNatClampNeg))) rfl ?_
    refine g_istore cx dX10_catches_25 (Nat.le_of_ble_eq_true rfl) (Gx.L [.ref 155, .int x1, .int x2, .int v1, .int (I1 161 ((x1).toNatClampNeg)), .float 0, .float 0, .float 0, .float 0, .float 0] rfl ?_)
    refine g_iconst cx dX10_catches_27 ic_0 ?_
    refine g_istore cx dX10_catches_28 (Nat.le_of_ble_eq_true rfl) (Gx.L [.ref 155, .int x1, .int x2, .int v1, .int (I1 161 ((x1).toNatClampNeg)), .int 0, .float 0, .float 0, .float 0, .float 0] rfl ?_)
    obtain ⟨n9, h⟩ := h
    exact gl_X10_catches_30 cx hE n9 _ _ _ _ _ _ _ hP h
  · have h := zifn c2 h
    refine g_aload_n cx dX10_catches_10 rfl ?_
    refine g_getR cx lk_X10_84 rfl (Nat.le_of_ble_eq_true rfl) rfl dX10_catches_11 (v := 179) (pst hP 178 rfl) ?_
    refine g_iload_n cx dX10_catches_14 rfl ?_
    obtain ⟨hc4, h⟩ := h
    refine g_iald cx dX10_catches_15 rfl hc4 (x := (I1 179 ((x1).toNatClampNeg))) rfl ?_
    refine g_goto cx (tgt := 25) dX10_catches_16 rfl ?_
    refine g_istore cx dX10_catches_25 (Nat.le_of_ble_eq_true rfl) (Gx.L [.ref 155, .int x1, .int x2, .int v1, .int (I1 179 ((x1).toNatClampNeg)), .float 0, .float 0, .float 0, .float 0, .float 0] rfl ?_)
    refine g_iconst cx dX10_catches_27 ic_0 ?_
    refine g_istore cx dX10_catches_28 (Nat.le_of_ble_eq_true rfl) (Gx.L [.ref 155, .int x1, .int x2, .int v1, .int (I1 179 ((x1).toNatClampNeg)), .int 0, .float 0, .float 0, .float 0, .float 0] rfl ?_)
    obtain ⟨n9, h⟩ := h
    exact gl_X10_catches_30 cx hE n9 _ _ _ _ _ _ _ hP h
def w_X10_give (x1 : Int32) (I : zI) (P : zP) (K : zI → zP → Prop) : Prop := vp_in ((I 155 54) - 1) 12 ∧ (vp_in ((12 * ((I 155 54) - 1)) + (I 198 ((((I 155 54) - 1)).toNatClampNeg))) 144 ∧ (vp_in (((zu I 200 ((((12 * ((I 155 54) - 1)) + (I 198 ((((I 155 54) - 1)).toNatClampNeg)))).toNatClampNeg) x1) 155 54) - 1) 12 ∧ (vp_in (((zu I 200 ((((12 * ((I 155 54) - 1)) + (I 198 ((((I 155 54) - 1)).toNatClampNeg)))).toNatClampNeg) x1) 155 54) - 1) 12 ∧ (K (zu (zu I 200 ((((12 * ((I 155 54) - 1)) + (I 198 ((((I 155 54) - 1)).toNatClampNeg)))).toNatClampNeg) x1) 198 (((((zu I 200 ((((12 * ((I 155 54) - 1)) + (I 198 ((((I 155 54) - 1)).toNatClampNeg)))).toNatClampNeg) x1) 155 54) - 1)).toNatClampNeg) (((zu I 200 ((((12 * ((I 155 54) - 1)) + (I 198 ((((I 155 54) - 1)).toNatClampNeg)))).toNatClampNeg) x1) 198 (((((zu I 200 ((((12 * ((I 155 54) - 1)) + (I 198 ((((I 155 54) - 1)).toNatClampNeg)))).toNatClampNeg) x1) 155 54) - 1)).toNatClampNeg)) + 1)) P))))
theorem e_X10_give {x1 : Int32} {I : zI} {P : zP} {K : zI → zP → Prop} (hP : PSt P) (h : w_X10_give x1 I P K) : Ev yX10_give cX10_give 2 none 0 0 0 0 [.ref 155, .int x1] SHy I P (zKv K) := by
  refine Ev.start [.ref 155, .int x1] pn_X10 rfl (Nat.le_of_ble_eq_true rfl) rfl (fun κ cx hE => ?_)
  unfold w_X10_give at h
  refine g_aload_n cx dX10_give_0 rfl ?_
  refine g_getR cx lk_X10_147 rfl (Nat.le_of_ble_eq_true rfl) rfl dX10_give_1 (v := 200) (pst hP 199 rfl) ?_
  refine g_bipush cx dX10_give_4 bp_12 ?_
  refine g_aload_n cx dX10_give_6 rfl ?_
  refine g_getI cx lk_X10_415 rfl (Nat.le_of_ble_eq_true rfl) rfl dX10_give_7 (x := (I 155 54)) rfl ?_
  refine g_iconst cx dX10_give_10 ic_1 ?_
  refine g_isub cx dX10_give_11 ?_
  refine g_imul cx dX10_give_12 ?_
  refine g_aload_n cx dX10_give_13 rfl ?_
  refine g_getR cx lk_X10_141 rfl (Nat.le_of_ble_eq_true rfl) rfl dX10_give_14 (v := 198) (pst hP 197 rfl) ?_
  refine g_aload_n cx dX10_give_17 rfl ?_
  refine g_getI cx lk_X10_415 rfl (Nat.le_of_ble_eq_true rfl) rfl dX10_give_18 (x := (I 155 54)) rfl ?_
  refine g_iconst cx dX10_give_21 ic_1 ?_
  refine g_isub cx dX10_give_22 ?_
  obtain ⟨hc1, h⟩ := h
  refine g_iald cx dX10_give_23 rfl hc1 (x := (I 198 ((((I 155 54) - 1)).toNatClampNeg))) rfl ?_
  refine g_iadd cx dX10_give_24 ?_
  refine g_iload_n cx dX10_give_25 rfl ?_
  obtain ⟨hc2, h⟩ := h
  refine g_iast cx dX10_give_26 rfl hc2 ?_
  refine g_aload_n cx dX10_give_27 rfl ?_
  refine g_getR cx lk_X10_141 rfl (Nat.le_of_ble_eq_true rfl) rfl dX10_give_28 (v := 198) (pst hP 197 rfl) ?_
  refine g_aload_n cx dX10_give_31 rfl ?_
  refine g_getI cx lk_X10_415 rfl (Nat.le_of_ble_eq_true rfl) rfl dX10_give_32 (x := ((zu I 200 ((((12 * ((I 155 54) - 1)) + (I 198 ((((I 155 54) - 1)).toNatClampNeg)))).toNatClampNeg) x1) 155 54)) rfl ?_
  refine g_iconst cx dX10_give_35 ic_1 ?_
  refine g_isub cx dX10_give_36 ?_
  refine Gx.N 37 rfl ?_
  refine g_dup2 cx dX10_give_37 rfl rfl ?_
  obtain ⟨hc3, h⟩ := h
  refine g_iald cx dX10_give_38 rfl hc3 (x := ((zu I 200 ((((12 * ((I 155 54) - 1)) + (I 198 ((((I 155 54) - 1)).toNatClampNeg)))).toNatClampNeg) x1) 198 (((((zu I 200 ((((12 * ((I 155 54) - 1)) + (I 198 ((((I 155 54) - 1)).toNatClampNeg)))).toNatClampNeg) x1) 155 54) - 1)).toNatClampNeg))) rfl ?_
  refine g_iconst cx dX10_give_39 ic_1 ?_
  refine g_iadd cx dX10_give_40 ?_
  obtain ⟨hc4, h⟩ := h
  refine g_iast cx dX10_give_41 rfl hc4 ?_
  exact g_wv cx hE dX10_give_42 rfl hP h
def w_X10_stands (x1 : Int32) (x2 : Int32) (x3 : Int32) (x4 : Int32) (x5 : Int32) (I : zI) (P : zP) (K : Int32 → zI → zP → Prop) : Prop := if x5 ≤ x1 then (K 0 I P) else (vp_in x1 24 ∧ (if (I 170 ((x1).toNatClampNeg)) = x2 then (vp_in x1 24 ∧ (if (I 171 ((x1).toNatClampNeg)) = x3 then (vp_in x1 24 ∧ (if (I 172 ((x1).toNatClampNeg)) = x4 then (K 1 I P) else (K 0 I P))) else (K 0 I P))) else (K 0 I P)))
theorem e_X10_stands {x1 : Int32} {x2 : Int32} {x3 : Int32} {x4 : Int32} {x5 : Int32} {I : zI} {P : zP} {K : Int32 → zI → zP → Prop} (hP : PSt P) (h : w_X10_stands x1 x2 x3 x4 x5 I P K) : Ev yX10_stands cX10_stands 6 (some .boolean) 0 0 0 0 [.ref 155, .int x1, .int x2, .int x3, .int x4, .int x5] SHy I P (zKi K) := by
  refine Ev.start [.ref 155, .int x1, .int x2, .int x3, .int x4, .int x5] pn_X10 rfl (Nat.le_of_ble_eq_true rfl) rfl (fun κ cx hE => ?_)
  unfold w_X10_stands at h
  refine g_iload_n cx dX10_stands_0 rfl ?_
  refine g_iload cx dX10_stands_1 rfl ?_
  refine g_icmp_ge cx (tgt := 41) dX10_stands_3 rfl (fun c1 => ?_) (fun c1 => ?_)
  · have h := zifp c1 h
    refine g_iconst cx dX10_stands_41 ic_0 ?_
    exact g_wi cx hE dX10_stands_42 rfl rfl hP h
  · have h := zifn c1 h
    refine g_aload_n cx dX10_stands_6 rfl ?_
    refine g_getR cx lk_X10_57 rfl (Nat.le_of_ble_eq_true rfl) rfl dX10_stands_7 (v := 170) (pst hP 169 rfl) ?_
    refine g_iload_n cx dX10_stands_10 rfl ?_
    obtain ⟨hc2, h⟩ := h
    refine g_iald cx dX10_stands_11 rfl hc2 (x := (I 170 ((x1).toNatClampNeg))) rfl ?_
    refine g_iload_n cx dX10_stands_12 rfl ?_
    refine g_icmp_ne cx (tgt := 41) dX10_stands_13 rfl (fun c3 => ?_) (fun c3 => ?_)
    · have h := zifn c3 h
      refine g_iconst cx dX10_stands_41 ic_0 ?_
      exact g_wi cx hE dX10_stands_42 rfl rfl hP h
    · have h := zifp c3 h
      refine g_aload_n cx dX10_stands_16 rfl ?_
      refine g_getR cx lk_X10_60 rfl (Nat.le_of_ble_eq_true rfl) rfl dX10_stands_17 (v := 171) (pst hP 170 rfl) ?_
      refine g_iload_n cx dX10_stands_20 rfl ?_
      obtain ⟨hc4, h⟩ := h
      refine g_iald cx dX10_stands_21 rfl hc4 (x := (I 171 ((x1).toNatClampNeg))) rfl ?_
      refine g_iload_n cx dX10_stands_22 rfl ?_
      refine g_icmp_ne cx (tgt := 41) dX10_stands_23 rfl (fun c5 => ?_) (fun c5 => ?_)
      · have h := zifn c5 h
        refine g_iconst cx dX10_stands_41 ic_0 ?_
        exact g_wi cx hE dX10_stands_42 rfl rfl hP h
      · have h := zifp c5 h
        refine g_aload_n cx dX10_stands_26 rfl ?_
        refine g_getR cx lk_X10_63 rfl (Nat.le_of_ble_eq_true rfl) rfl dX10_stands_27 (v := 172) (pst hP 171 rfl) ?_
        refine g_iload_n cx dX10_stands_30 rfl ?_
        obtain ⟨hc6, h⟩ := h
        refine g_iald cx dX10_stands_31 rfl hc6 (x := (I 172 ((x1).toNatClampNeg))) rfl ?_
        refine g_iload cx dX10_stands_32 rfl ?_
        refine g_icmp_ne cx (tgt := 41) dX10_stands_34 rfl (fun c7 => ?_) (fun c7 => ?_)
        · have h := zifn c7 h
          refine g_iconst cx dX10_stands_41 ic_0 ?_
          exact g_wi cx hE dX10_stands_42 rfl rfl hP h
        · have h := zifp c7 h
          refine g_iconst cx dX10_stands_37 ic_1 ?_
          refine g_goto cx (tgt := 42) dX10_stands_38 rfl ?_
          exact g_wi cx hE dX10_stands_42 rfl rfl hP h
def j_X10_tell_63 (K : zI → zP → Prop) (I : zI) (P : zP) : Prop := vp_in (I 155 50) 3 ∧ (vp_in (I 155 50) 3 ∧ (K (zu I 212 (((I 155 50)).toNatClampNeg) ((I 212 (((I 155 50)).toNatClampNeg)) + 1)) P))
theorem gj_X10_tell_63 {κ : zX} (cx : Cx yX10_tell cX10_tell 3 none 0 0 κ) {K : zI → zP → Prop} (hE : zEnd (zKv K) 0 0 κ) {I : zI} {P : zP} (hP : PSt P) (h : j_X10_tell_63 K I P) : Gx κ 63 [.ref 155, .float 0, .float 0] [] SHy I P 0 0 := by
  unfold j_X10_tell_63 at h
  refine g_aload_n cx dX10_tell_63 rfl ?_
  refine g_getR cx lk_X10_183 rfl (Nat.le_of_ble_eq_true rfl) rfl dX10_tell_64 (v := 212) (pst hP 211 rfl) ?_
  refine g_aload_n cx dX10_tell_67 rfl ?_
  refine g_getI cx lk_X10_385 rfl (Nat.le_of_ble_eq_true rfl) rfl dX10_tell_68 (x := (I 155 50)) rfl ?_
  refine g_dup2 cx dX10_tell_71 rfl rfl ?_
  obtain ⟨hc1, h⟩ := h
  refine g_iald cx dX10_tell_72 rfl hc1 (x := (I 212 (((I 155 50)).toNatClampNeg))) rfl ?_
  refine g_iconst cx dX10_tell_73 ic_1 ?_
  refine g_iadd cx dX10_tell_74 ?_
  obtain ⟨hc2, h⟩ := h
  refine g_iast cx dX10_tell_75 rfl hc2 ?_
  exact g_wv cx hE dX10_tell_76 rfl hP h
def w_X10_tell (x1 : Int32) (x2 : Int32) (I : zI) (P : zP) (K : zI → zP → Prop) : Prop := vp_in (I 155 50) 3 ∧ (if 400 ≤ (I 212 (((I 155 50)).toNatClampNeg)) then (j_X10_tell_63 K I P) else (vp_in (I 155 50) 3 ∧ (vp_in ((400 * (I 155 50)) + (I 212 (((I 155 50)).toNatClampNeg))) 1200 ∧ (vp_in ((zu I 219 ((((400 * (I 155 50)) + (I 212 (((I 155 50)).toNatClampNeg)))).toNatClampNeg) x1) 155 50) 3 ∧ (vp_in ((400 * ((zu I 219 ((((400 * (I 155 50)) + (I 212 (((I 155 50)).toNatClampNeg)))).toNatClampNeg) x1) 155 50)) + ((zu I 219 ((((400 * (I 155 50)) + (I 212 (((I 155 50)).toNatClampNeg)))).toNatClampNeg) x1) 212 ((((zu I 219 ((((400 * (I 155 50)) + (I 212 (((I 155 50)).toNatClampNeg)))).toNatClampNeg) x1) 155 50)).toNatClampNeg))) 1200 ∧ (j_X10_tell_63 K (zu (zu I 219 ((((400 * (I 155 50)) + (I 212 (((I 155 50)).toNatClampNeg)))).toNatClampNeg) x1) 220 ((((400 * ((zu I 219 ((((400 * (I 155 50)) + (I 212 (((I 155 50)).toNatClampNeg)))).toNatClampNeg) x1) 155 50)) + ((zu I 219 ((((400 * (I 155 50)) + (I 212 (((I 155 50)).toNatClampNeg)))).toNatClampNeg) x1) 212 ((((zu I 219 ((((400 * (I 155 50)) + (I 212 (((I 155 50)).toNatClampNeg)))).toNatClampNeg) x1) 155 50)).toNatClampNeg)))).toNatClampNeg) x2) P))))))
theorem e_X10_tell {x1 : Int32} {x2 : Int32} {I : zI} {P : zP} {K : zI → zP → Prop} (hP : PSt P) (h : w_X10_tell x1 x2 I P K) : Ev yX10_tell cX10_tell 3 none 0 0 0 0 [.ref 155, .int x1, .int x2] SHy I P (zKv K) := by
  refine Ev.start [.ref 155, .int x1, .int x2] pn_X10 rfl (Nat.le_of_ble_eq_true rfl) rfl (fun κ cx hE => ?_)
  unfold w_X10_tell at h
  refine g_aload_n cx dX10_tell_0 rfl ?_
  refine g_getR cx lk_X10_183 rfl (Nat.le_of_ble_eq_true rfl) rfl dX10_tell_1 (v := 212) (pst hP 211 rfl) ?_
  refine g_aload_n cx dX10_tell_4 rfl ?_
  refine g_getI cx lk_X10_385 rfl (Nat.le_of_ble_eq_true rfl) rfl dX10_tell_5 (x := (I 155 50)) rfl ?_
  obtain ⟨hc1, h⟩ := h
  refine g_iald cx dX10_tell_8 rfl hc1 (x := (I 212 (((I 155 50)).toNatClampNeg))) rfl ?_
  refine g_sipush cx dX10_tell_9 sp_400 ?_
  refine g_icmp_ge cx (tgt := 63) dX10_tell_12 rfl (fun c2 => ?_) (fun c2 => ?_)
  · have h := zifp c2 h
    refine (Gx.unset 1 (Gx.unset 2 (Gx.L [.ref 155, .float 0, .float 0] rfl ?_)))
    exact gj_X10_tell_63 cx hE hP h
  · have h := zifn c2 h
    refine g_aload_n cx dX10_tell_15 rfl ?_
    refine g_getR cx lk_X10_204 rfl (Nat.le_of_ble_eq_true rfl) rfl dX10_tell_16 (v := 219) (pst hP 218 rfl) ?_
    refine g_sipush cx dX10_tell_19 sp_400 ?_
    refine g_aload_n cx dX10_tell_22 rfl ?_
    refine g_getI cx lk_X10_385 rfl (Nat.le_of_ble_eq_true rfl) rfl dX10_tell_23 (x := (I 155 50)) rfl ?_
    refine g_imul cx dX10_tell_26 ?_
    refine g_aload_n cx dX10_tell_27 rfl ?_
    refine g_getR cx lk_X10_183 rfl (Nat.le_of_ble_eq_true rfl) rfl dX10_tell_28 (v := 212) (pst hP 211 rfl) ?_
    refine g_aload_n cx dX10_tell_31 rfl ?_
    refine g_getI cx lk_X10_385 rfl (Nat.le_of_ble_eq_true rfl) rfl dX10_tell_32 (x := (I 155 50)) rfl ?_
    obtain ⟨hc3, h⟩ := h
    refine g_iald cx dX10_tell_35 rfl hc3 (x := (I 212 (((I 155 50)).toNatClampNeg))) rfl ?_
    refine g_iadd cx dX10_tell_36 ?_
    refine g_iload_n cx dX10_tell_37 rfl ?_
    obtain ⟨hc4, h⟩ := h
    refine g_iast cx dX10_tell_38 rfl hc4 ?_
    refine g_aload_n cx dX10_tell_39 rfl ?_
    refine g_getR cx lk_X10_207 rfl (Nat.le_of_ble_eq_true rfl) rfl dX10_tell_40 (v := 220) (pst hP 219 rfl) ?_
    refine g_sipush cx dX10_tell_43 sp_400 ?_
    refine g_aload_n cx dX10_tell_46 rfl ?_
    refine g_getI cx lk_X10_385 rfl (Nat.le_of_ble_eq_true rfl) rfl dX10_tell_47 (x := ((zu I 219 ((((400 * (I 155 50)) + (I 212 (((I 155 50)).toNatClampNeg)))).toNatClampNeg) x1) 155 50)) rfl ?_
    refine g_imul cx dX10_tell_50 ?_
    refine g_aload_n cx dX10_tell_51 rfl ?_
    refine g_getR cx lk_X10_183 rfl (Nat.le_of_ble_eq_true rfl) rfl dX10_tell_52 (v := 212) (pst hP 211 rfl) ?_
    refine g_aload_n cx dX10_tell_55 rfl ?_
    refine g_getI cx lk_X10_385 rfl (Nat.le_of_ble_eq_true rfl) rfl dX10_tell_56 (x := ((zu I 219 ((((400 * (I 155 50)) + (I 212 (((I 155 50)).toNatClampNeg)))).toNatClampNeg) x1) 155 50)) rfl ?_
    refine Gx.N 59 rfl ?_
    obtain ⟨hc5, h⟩ := h
    refine g_iald cx dX10_tell_59 rfl hc5 (x := ((zu I 219 ((((400 * (I 155 50)) + (I 212 (((I 155 50)).toNatClampNeg)))).toNatClampNeg) x1) 212 ((((zu I 219 ((((400 * (I 155 50)) + (I 212 (((I 155 50)).toNatClampNeg)))).toNatClampNeg) x1) 155 50)).toNatClampNeg))) rfl ?_
    refine g_iadd cx dX10_tell_60 ?_
    refine g_iload_n cx dX10_tell_61 rfl ?_
    obtain ⟨hc6, h⟩ := h
    refine g_iast cx dX10_tell_62 rfl hc6 ?_
    refine (Gx.unset 1 (Gx.unset 2 (Gx.L [.ref 155, .float 0, .float 0] rfl ?_)))
    exact gj_X10_tell_63 cx hE hP h
def w_X10_watched (x1 : Int32) (I : zI) (P : zP) (K : Int32 → zI → zP → Prop) : Prop := if (I 155 50) = 2 then (w_X10_isWoven x1 I P (fun (v2 : Int32) (I2 : zI) (P2 : zP) => (if v2 = 0 then (K 0 I2 P2) else (vp_in x1 6 ∧ (K (I2 175 ((x1).toNatClampNeg)) I2 P2))))) else (K 0 I P)
theorem e_X10_watched {x1 : Int32} {I : zI} {P : zP} {K : Int32 → zI → zP → Prop} (hP : PSt P) (h : w_X10_watched x1 I P K) : Ev yX10_watched cX10_watched 2 (some .int) 1 21 0 0 [.ref 155, .int x1] SHy I P (zKi K) := by
  refine Ev.start [.ref 155, .int x1] pn_X10 rfl (Nat.le_of_ble_eq_true rfl) rfl (fun κ cx hE => ?_)
  unfold w_X10_watched at h
  refine g_aload_n cx dX10_watched_0 rfl ?_
  refine g_getI cx lk_X10_385 rfl (Nat.le_of_ble_eq_true rfl) rfl dX10_watched_1 (x := (I 155 50)) rfl ?_
  refine g_iconst cx dX10_watched_4 ic_2 ?_
  refine g_icmp_ne cx (tgt := 25) dX10_watched_5 rfl (fun c1 => ?_) (fun c1 => ?_)
  · have h := zifn c1 h
    refine g_iconst cx dX10_watched_25 ic_0 ?_
    exact g_wi cx hE dX10_watched_26 rfl rfl hP h
  · have h := zifp c1 h
    refine g_aload_n cx dX10_watched_8 rfl ?_
    refine g_iload_n cx dX10_watched_9 rfl ?_
    refine g_wVi cx [.int x1] [] (e_X10_isWoven hP h) mt_X10_isWoven ml_X10_325 rfl rfl rfl dX10_watched_10 rfl rfl (Nat.le_of_ble_eq_true rfl) (Nat.le_of_ble_eq_true rfl) (Nat.le_of_ble_eq_true rfl) (fun v2 I2 P2 hP h => ?_)
    refine g_if_eq cx (tgt := 25) dX10_watched_13 rfl (fun c3 => ?_) (fun c3 => ?_)
    · have h := zifp c3 h
      refine g_iconst cx dX10_watched_25 ic_0 ?_
      exact g_wi cx hE dX10_watched_26 rfl rfl hP h
    · have h := zifn c3 h
      refine g_aload_n cx dX10_watched_16 rfl ?_
      refine g_getR cx lk_X10_72 rfl (Nat.le_of_ble_eq_true rfl) rfl dX10_watched_17 (v := 175) (pst hP 174 rfl) ?_
      refine g_iload_n cx dX10_watched_20 rfl ?_
      obtain ⟨hc4, h⟩ := h
      refine g_iald cx dX10_watched_21 rfl hc4 (x := (I2 175 ((x1).toNatClampNeg))) rfl ?_
      refine g_goto cx (tgt := 26) dX10_watched_22 rfl ?_
      exact g_wi cx hE dX10_watched_26 rfl rfl hP h
def l_X10_caught_59 (K : zI → zP → Prop) : Nat → Int32 → Int32 → Int32 → zI → zP → Prop
  | 0, _, _, _, _, _ => False
  | n + 1, y1, y3, y4, I, P => w_X10_watched y1 I P (fun (v1 : Int32) (I1 : zI) (P1 : zP) => (if v1 ≤ y4 then (K I1 P1) else (w_X10_stands y4 5 y1 y3 (I1 155 17) I1 P1 (fun (v3 : Int32) (I3 : zI) (P3 : zP) => (if v3 = 0 then ((l_X10_caught_59 K n) y1 y3 (y4 + 1) I3 P3) else (w_X10_tell y4 (I3 155 65) I3 P3 (fun (I5 : zI) (P5 : zP) => ((l_X10_caught_59 K n) y1 y3 (y4 + 1) I5 P5))))))))
theorem gl_X10_caught_59 {κ : zX} (cx : Cx yX10_caught cX10_caught 5 none 2 42 κ) {K : zI → zP → Prop} (hE : zEnd (zKv K) 0 0 κ) : ∀ (n : Nat) (y1 : Int32) (y3 : Int32) (y4 : Int32) (I : zI) (P : zP), PSt P → l_X10_caught_59 K n y1 y3 y4 I P → Gx κ 59 [.ref 155, .int y1, .float 0, .int y3, .int y4] [] SHy I P 0 0 := by
  intro n
  induction n with
  | zero =>
    intro y1 y3 y4 I P hP h
    rw [l_X10_caught_59] at h
    exact False.elim h
  | succ n ih =>
    intro y1 y3 y4 I P hP h
    rw [l_X10_caught_59] at h
    refine g_iload cx dX10_caught_59 rfl ?_
    refine g_aload_n cx dX10_caught_61 rfl ?_
    refine g_iload_n cx dX10_caught_62 rfl ?_
    refine g_wVi cx [.int y1] [.int y4] (e_X10_watched hP h) mt_X10_watched ml_X10_436 rfl rfl rfl dX10_caught_63 rfl rfl (Nat.le_of_ble_eq_true rfl) (Nat.le_of_ble_eq_true rfl) (Nat.le_of_ble_eq_true rfl) (fun v1 I1 P1 hP h => ?_)
    refine g_icmp_ge cx (tgt := 101) dX10_caught_66 rfl (fun c2 => ?_) (fun c2 => ?_)
    · have h := zifp c2 h
      exact g_wv cx hE dX10_caught_101 rfl hP h
    · have h := zifn c2 h
      refine g_aload_n cx dX10_caught_69 rfl ?_
      refine g_iload cx dX10_caught_70 rfl ?_
      refine g_iconst cx dX10_caught_72 ic_5 ?_
      refine g_iload_n cx dX10_caught_73 rfl ?_
      refine g_iload_n cx dX10_caught_74 rfl ?_
      refine g_aload_n cx dX10_caught_75 rfl ?_
      refine g_getI cx lk_X10_335 rfl (Nat.le_of_ble_eq_true rfl) rfl dX10_caught_76 (x := (I1 155 17)) rfl ?_
      refine g_wVi cx [.int y4, .int 5, .int y1, .int y3, .int (I1 155 17)] [] (e_X10_stands hP h) mt_X10_stands ml_X10_338 rfl rfl rfl dX10_caught_79 rfl rfl (Nat.le_of_ble_eq_true rfl) (Nat.le_of_ble_eq_true rfl) (Nat.le_of_ble_eq_true rfl) (fun v3 I3 P3 hP h => ?_)
      refine g_if_eq cx (tgt := 95) dX10_caught_82 rfl (fun c4 => ?_) (fun c4 => ?_)
      · have h := zifp c4 h
        refine g_iinc cx (v := (y4 + 1)) dX10_caught_95 rfl rfl (Nat.le_of_ble_eq_true rfl) (Gx.L [.ref 155, .int y1, .float 0, .int y3, .int (y4 + 1)] rfl ?_)
        refine g_goto cx (tgt := 59) dX10_caught_98 rfl ?_
        exact ih _ _ _ _ _ hP h
      · have h := zifn c4 h
        refine g_aload_n cx dX10_caught_85 rfl ?_
        refine g_iload cx dX10_caught_86 rfl ?_
        refine g_aload_n cx dX10_caught_88 rfl ?_
        refine g_getI cx lk_X10_424 rfl (Nat.le_of_ble_eq_true rfl) rfl dX10_caught_89 (x := (I3 155 65)) rfl ?_
        refine g_wVv cx [.int y4, .int (I3 155 65)] [] (e_X10_tell hP h) mt_X10_tell ml_X10_442 rfl rfl rfl dX10_caught_92 rfl rfl (Nat.le_of_ble_eq_true rfl) (Nat.le_of_ble_eq_true rfl) (Nat.le_of_ble_eq_true rfl) (fun I5 P5 hP h => ?_)
        refine g_iinc cx (v := (y4 + 1)) dX10_caught_95 rfl rfl (Nat.le_of_ble_eq_true rfl) (Gx.L [.ref 155, .int y1, .float 0, .int y3, .int (y4 + 1)] rfl ?_)
        refine g_goto cx (tgt := 59) dX10_caught_98 rfl ?_
        exact ih _ _ _ _ _ hP h
def j_X10_caught_23 (K : zI → zP → Prop) (y1 : Int32) (s0 : Int32) (I : zI) (P : zP) : Prop := vp_in ((I 155 54) - 1) 12 ∧ (w_X10_give ((zu I 198 ((((I 155 54) - 1)).toNatClampNeg) 0) 155 65) (zu I 198 ((((I 155 54) - 1)).toNatClampNeg) 0) P (fun (I2 : zI) (P2 : zP) => (vp_in ((I2 155 54) - 1) 12 ∧ (∃ n9, l_X10_caught_59 K n9 y1 s0 0 (zu I2 197 ((((I2 155 54) - 1)).toNatClampNeg) s0) P2))))
theorem gj_X10_caught_23 {κ : zX} (cx : Cx yX10_caught cX10_caught 5 none 2 42 κ) {K : zI → zP → Prop} (hE : zEnd (zKv K) 0 0 κ) {y1 : Int32} {s0 : Int32} {I : zI} {P : zP} (hP : PSt P) (h : j_X10_caught_23 K y1 s0 I P) : Gx κ 23 [.ref 155, .int y1, .float 0, .float 0, .float 0] [.int s0] SHy I P 0 0 := by
  unfold j_X10_caught_23 at h
  refine g_istore_n cx dX10_caught_23 (Nat.le_of_ble_eq_true rfl) (Gx.L [.ref 155, .int y1, .float 0, .int s0, .float 0] rfl ?_)
  refine g_aload_n cx dX10_caught_24 rfl ?_
  refine g_getR cx lk_X10_141 rfl (Nat.le_of_ble_eq_true rfl) rfl dX10_caught_25 (v := 198) (pst hP 197 rfl) ?_
  refine g_aload_n cx dX10_caught_28 rfl ?_
  refine g_getI cx lk_X10_415 rfl (Nat.le_of_ble_eq_true rfl) rfl dX10_caught_29 (x := (I 155 54)) rfl ?_
  refine g_iconst cx dX10_caught_32 ic_1 ?_
  refine g_isub cx dX10_caught_33 ?_
  refine g_iconst cx dX10_caught_34 ic_0 ?_
  obtain ⟨hc1, h⟩ := h
  refine g_iast cx dX10_caught_35 rfl hc1 ?_
  refine g_aload_n cx dX10_caught_36 rfl ?_
  refine g_aload_n cx dX10_caught_37 rfl ?_
  refine g_getI cx lk_X10_424 rfl (Nat.le_of_ble_eq_true rfl) rfl dX10_caught_38 (x := ((zu I 198 ((((I 155 54) - 1)).toNatClampNeg) 0) 155 65)) rfl ?_
  refine g_wVv cx [.int ((zu I 198 ((((I 155 54) - 1)).toNatClampNeg) 0) 155 65)] [] (e_X10_give hP h) mt_X10_give ml_X10_510 rfl rfl rfl dX10_caught_41 rfl rfl (Nat.le_of_ble_eq_true rfl) (Nat.le_of_ble_eq_true rfl) (Nat.le_of_ble_eq_true rfl) (fun I2 P2 hP h => ?_)
  refine g_aload_n cx dX10_caught_44 rfl ?_
  refine g_getR cx lk_X10_138 rfl (Nat.le_of_ble_eq_true rfl) rfl dX10_caught_45 (v := 197) (pst hP 196 rfl) ?_
  refine g_aload_n cx dX10_caught_48 rfl ?_
  refine g_getI cx lk_X10_415 rfl (Nat.le_of_ble_eq_true rfl) rfl dX10_caught_49 (x := (I2 155 54)) rfl ?_
  refine g_iconst cx dX10_caught_52 ic_1 ?_
  refine g_isub cx dX10_caught_53 ?_
  refine g_iload_n cx dX10_caught_54 rfl ?_
  obtain ⟨hc3, h⟩ := h
  refine g_iast cx dX10_caught_55 rfl hc3 ?_
  refine g_iconst cx dX10_caught_56 ic_0 ?_
  refine g_istore cx dX10_caught_57 (Nat.le_of_ble_eq_true rfl) (Gx.L [.ref 155, .int y1, .float 0, .int s0, .int 0] rfl ?_)
  obtain ⟨n9, h⟩ := h
  exact gl_X10_caught_59 cx hE n9 _ _ _ _ _ hP h
def w_X10_caught (x1 : Int32) (x2 : Int32) (I : zI) (P : zP) (K : zI → zP → Prop) : Prop := w_X10_runsWoven x1 I P (fun (v1 : Int32) (I1 : zI) (P1 : zP) => (if v1 = 0 then (vp_in x2 48 ∧ (j_X10_caught_23 K x1 (I1 164 ((x2).toNatClampNeg)) I1 P1)) else (vp_in x2 54 ∧ (j_X10_caught_23 K x1 (I1 182 ((x2).toNatClampNeg)) I1 P1))))
theorem e_X10_caught {x1 : Int32} {x2 : Int32} {I : zI} {P : zP} {K : zI → zP → Prop} (hP : PSt P) (h : w_X10_caught x1 x2 I P K) : Ev yX10_caught cX10_caught 5 none 2 42 0 0 [.ref 155, .int x1, .int x2] SHy I P (zKv K) := by
  refine Ev.start [.ref 155, .int x1, .int x2, .float 0, .float 0] pn_X10 rfl (Nat.le_of_ble_eq_true rfl) rfl (fun κ cx hE => ?_)
  unfold w_X10_caught at h
  refine g_aload_n cx dX10_caught_0 rfl ?_
  refine g_iload_n cx dX10_caught_1 rfl ?_
  refine g_wVi cx [.int x1] [] (e_X10_runsWoven hP h) mt_X10_runsWoven ml_X10_445 rfl rfl rfl dX10_caught_2 rfl rfl (Nat.le_of_ble_eq_true rfl) (Nat.le_of_ble_eq_true rfl) (Nat.le_of_ble_eq_true rfl) (fun v1 I1 P1 hP h => ?_)
  refine g_if_eq cx (tgt := 17) dX10_caught_5 rfl (fun c2 => ?_) (fun c2 => ?_)
  · have h := zifp c2 h
    refine g_aload_n cx dX10_caught_17 rfl ?_
    refine g_getR cx lk_X10_38 rfl (Nat.le_of_ble_eq_true rfl) rfl dX10_caught_18 (v := 164) (pst hP 163 rfl) ?_
    refine g_iload_n cx dX10_caught_21 rfl ?_
    obtain ⟨hc3, h⟩ := h
    refine g_iald cx dX10_caught_22 rfl hc3 (x := (I1 164 ((x2).toNatClampNeg))) rfl ?_
    refine (Gx.unset 2 (Gx.L [.ref 155, .int x1, .float 0, .float 0, .float 0] rfl ?_))
    exact gj_X10_caught_23 cx hE hP h
  · have h := zifn c2 h
    refine g_aload_n cx dX10_caught_8 rfl ?_
    refine g_getR cx lk_X10_93 rfl (Nat.le_of_ble_eq_true rfl) rfl dX10_caught_9 (v := 182) (pst hP 181 rfl) ?_
    refine g_iload_n cx dX10_caught_12 rfl ?_
    obtain ⟨hc4, h⟩ := h
    refine g_iald cx dX10_caught_13 rfl hc4 (x := (I1 182 ((x2).toNatClampNeg))) rfl ?_
    refine g_goto cx (tgt := 23) dX10_caught_14 rfl ?_
    refine (Gx.unset 2 (Gx.L [.ref 155, .int x1, .float 0, .float 0, .float 0] rfl ?_))
    exact gj_X10_caught_23 cx hE hP h
def l_X10_isThrown_55 (X2 : Int32 → zI → zP → Prop) (K : zI → zP → Prop) : Nat → Int32 → Int32 → zI → zP → Prop
  | 0, _, _, _, _ => False
  | n + 1, y2, y5, I, P => w_X10_watched y2 I P (fun (v1 : Int32) (I1 : zI) (P1 : zP) => (if v1 ≤ y5 then (if ((I1 155 54) - 1) ≤ 0 then (X2 0 (zu I1 155 54 ((I1 155 54) - 1)) P1) else (X2 1 (zu I1 155 54 ((I1 155 54) - 1)) P1)) else (w_X10_stands y5 3 y2 0 (I1 155 17) I1 P1 (fun (v4 : Int32) (I4 : zI) (P4 : zP) => (if v4 = 0 then ((l_X10_isThrown_55 X2 K n) y2 (y5 + 1) I4 P4) else (w_X10_tell y5 (-(I4 155 65)) I4 P4 (fun (I6 : zI) (P6 : zP) => ((l_X10_isThrown_55 X2 K n) y2 (y5 + 1) I6 P6))))))))
theorem gl_X10_isThrown_55 {κ : zX} (cx : Cx yX10_isThrown cX10_isThrown 6 none 3 71 κ) {K : zI → zP → Prop} (hE : zEnd (zKv K) 0 0 κ) {X2 : Int32 → zI → zP → Prop} (hX2 : ∀ (y1 : Int32) (I : zI) (P : zP), PSt P → X2 y1 I P → Gx κ 2 [.ref 155, .int y1, .float 0, .float 0, .float 0, .float 0] [] SHy I P 0 0) : ∀ (n : Nat) (y2 : Int32) (y5 : Int32) (I : zI) (P : zP), PSt P → l_X10_isThrown_55 X2 K n y2 y5 I P → Gx κ 55 [.ref 155, .float 0, .int y2, .float 0, .float 0, .int y5] [] SHy I P 0 0 := by
  intro n
  induction n with
  | zero =>
    intro y2 y5 I P hP h
    rw [l_X10_isThrown_55] at h
    exact False.elim h
  | succ n ih =>
    intro y2 y5 I P hP h
    rw [l_X10_isThrown_55] at h
    refine g_iload cx dX10_isThrown_55 rfl ?_
    refine g_aload_n cx dX10_isThrown_57 rfl ?_
    refine g_iload_n cx dX10_isThrown_58 rfl ?_
    refine g_wVi cx [.int y2] [.int y5] (e_X10_watched hP h) mt_X10_watched ml_X10_436 rfl rfl rfl dX10_isThrown_59 rfl rfl (Nat.le_of_ble_eq_true rfl) (Nat.le_of_ble_eq_true rfl) (Nat.le_of_ble_eq_true rfl) (fun v1 I1 P1 hP h => ?_)
    refine g_icmp_ge cx (tgt := 98) dX10_isThrown_62 rfl (fun c2 => ?_) (fun c2 => ?_)
    · have h := zifp c2 h
      refine g_aload_n cx dX10_isThrown_98 rfl ?_
      refine g_dup cx dX10_isThrown_99 rfl ?_
      refine g_getI cx lk_X10_415 rfl (Nat.le_of_ble_eq_true rfl) rfl dX10_isThrown_100 (x := (I1 155 54)) rfl ?_
      refine g_iconst cx dX10_isThrown_103 ic_1 ?_
      refine g_isub cx dX10_isThrown_104 ?_
      refine g_pI cx lk_X10_415 rfl (Nat.le_of_ble_eq_true rfl) rfl dX10_isThrown_105 fi_10_54 rfl rfl ?_
      refine g_aload_n cx dX10_isThrown_108 rfl ?_
      refine g_getI cx lk_X10_415 rfl (Nat.le_of_ble_eq_true rfl) rfl dX10_isThrown_109 (x := ((I1 155 54) - 1)) rfl ?_
      refine g_if_le cx (tgt := 119) dX10_isThrown_112 rfl (fun c3 => ?_) (fun c3 => ?_)
      · have h := zifp c3 h
        refine g_iconst cx dX10_isThrown_119 ic_0 ?_
        refine g_istore_n cx dX10_isThrown_120 (Nat.le_of_ble_eq_true rfl) (Gx.L [.ref 155, .int 0, .int y2, .float 0, .float 0, .int y5] rfl ?_)
        refine g_goto cx (tgt := 2) dX10_isThrown_121 rfl ?_
        refine (Gx.unset 2 (Gx.unset 5 (Gx.L [.ref 155, .int 0, .float 0, .float 0, .float 0, .float 0] rfl ?_)))
        exact hX2 _ _ _ hP h
      · have h := zifn c3 h
        refine g_iconst cx dX10_isThrown_115 ic_1 ?_
        refine g_goto cx (tgt := 120) dX10_isThrown_116 rfl ?_
        refine g_istore_n cx dX10_isThrown_120 (Nat.le_of_ble_eq_true rfl) (Gx.L [.ref 155, .int 1, .int y2, .float 0, .float 0, .int y5] rfl ?_)
        refine g_goto cx (tgt := 2) dX10_isThrown_121 rfl ?_
        refine (Gx.unset 2 (Gx.unset 5 (Gx.L [.ref 155, .int 1, .float 0, .float 0, .float 0, .float 0] rfl ?_)))
        exact hX2 _ _ _ hP h
    · have h := zifn c2 h
      refine g_aload_n cx dX10_isThrown_65 rfl ?_
      refine g_iload cx dX10_isThrown_66 rfl ?_
      refine g_iconst cx dX10_isThrown_68 ic_3 ?_
      refine g_iload_n cx dX10_isThrown_69 rfl ?_
      refine g_iconst cx dX10_isThrown_70 ic_0 ?_
      refine g_aload_n cx dX10_isThrown_71 rfl ?_
      refine g_getI cx lk_X10_335 rfl (Nat.le_of_ble_eq_true rfl) rfl dX10_isThrown_72 (x := (I1 155 17)) rfl ?_
      refine g_wVi cx [.int y5, .int 3, .int y2, .int 0, .int (I1 155 17)] [] (e_X10_stands hP h) mt_X10_stands ml_X10_338 rfl rfl rfl dX10_isThrown_75 rfl rfl (Nat.le_of_ble_eq_true rfl) (Nat.le_of_ble_eq_true rfl) (Nat.le_of_ble_eq_true rfl) (fun v4 I4 P4 hP h => ?_)
      refine g_if_eq cx (tgt := 92) dX10_isThrown_78 rfl (fun c5 => ?_) (fun c5 => ?_)
      · have h := zifp c5 h
        refine g_iinc cx (v := (y5 + 1)) dX10_isThrown_92 rfl rfl (Nat.le_of_ble_eq_true rfl) (Gx.L [.ref 155, .float 0, .int y2, .float 0, .float 0, .int (y5 + 1)] rfl ?_)
        refine g_goto cx (tgt := 55) dX10_isThrown_95 rfl ?_
        exact ih _ _ _ _ hP h
      · have h := zifn c5 h
        refine g_aload_n cx dX10_isThrown_81 rfl ?_
        refine g_iload cx dX10_isThrown_82 rfl ?_
        refine g_aload_n cx dX10_isThrown_84 rfl ?_
        refine g_getI cx lk_X10_424 rfl (Nat.le_of_ble_eq_true rfl) rfl dX10_isThrown_85 (x := (I4 155 65)) rfl ?_
        refine g_ineg cx dX10_isThrown_88 ?_
        refine g_wVv cx [.int y5, .int (-(I4 155 65))] [] (e_X10_tell hP h) mt_X10_tell ml_X10_442 rfl rfl rfl dX10_isThrown_89 rfl rfl (Nat.le_of_ble_eq_true rfl) (Nat.le_of_ble_eq_true rfl) (Nat.le_of_ble_eq_true rfl) (fun I6 P6 hP h => ?_)
        refine g_iinc cx (v := (y5 + 1)) dX10_isThrown_92 rfl rfl (Nat.le_of_ble_eq_true rfl) (Gx.L [.ref 155, .float 0, .int y2, .float 0, .float 0, .int (y5 + 1)] rfl ?_)
        refine g_goto cx (tgt := 55) dX10_isThrown_95 rfl ?_
        exact ih _ _ _ _ hP h
def l_X10_isThrown_2 (K : zI → zP → Prop) : Nat → Int32 → zI → zP → Prop
  | 0, _, _, _ => False
  | n + 1, y1, I, P => if y1 = 0 then (K (zu I 155 52 1) P) else (vp_in ((I 155 54) - 1) 12 ∧ (vp_in ((I 155 54) - 1) 12 ∧ (w_X10_catches (I 196 ((((I 155 54) - 1)).toNatClampNeg)) (I 197 ((((I 155 54) - 1)).toNatClampNeg)) I P (fun (v4 : Int32) (I4 : zI) (P4 : zP) => (if v4 = (-1) then (∃ n9, l_X10_isThrown_55 (l_X10_isThrown_2 K n) K n9 (I 196 ((((I 155 54) - 1)).toNatClampNeg)) 0 I4 P4) else (w_X10_caught (I 196 ((((I 155 54) - 1)).toNatClampNeg)) v4 I4 P4 (fun (I6 : zI) (P6 : zP) => (K I6 P6))))))))
theorem gl_X10_isThrown_2 {κ : zX} (cx : Cx yX10_isThrown cX10_isThrown 6 none 3 71 κ) {K : zI → zP → Prop} (hE : zEnd (zKv K) 0 0 κ) : ∀ (n : Nat) (y1 : Int32) (I : zI) (P : zP), PSt P → l_X10_isThrown_2 K n y1 I P → Gx κ 2 [.ref 155, .int y1, .float 0, .float 0, .float 0, .float 0] [] SHy I P 0 0 := by
  intro n
  induction n with
  | zero =>
    intro y1 I P hP h
    rw [l_X10_isThrown_2] at h
    exact False.elim h
  | succ n ih =>
    intro y1 I P hP h
    rw [l_X10_isThrown_2] at h
    refine g_iload_n cx dX10_isThrown_2 rfl ?_
    refine g_if_eq cx (tgt := 124) dX10_isThrown_3 rfl (fun c1 => ?_) (fun c1 => ?_)
    · have h := zifp c1 h
      refine g_aload_n cx dX10_isThrown_124 rfl ?_
      refine g_iconst cx dX10_isThrown_125 ic_1 ?_
      refine g_pI cx lk_X10_403 rfl (Nat.le_of_ble_eq_true rfl) rfl dX10_isThrown_126 fi_10_52 rfl rfl ?_
      exact g_wv cx hE dX10_isThrown_129 rfl hP h
    · have h := zifn c1 h
      refine g_aload_n cx dX10_isThrown_6 rfl ?_
      refine g_getR cx lk_X10_135 rfl (Nat.le_of_ble_eq_true rfl) rfl dX10_isThrown_7 (v := 196) (pst hP 195 rfl) ?_
      refine g_aload_n cx dX10_isThrown_10 rfl ?_
      refine g_getI cx lk_X10_415 rfl (Nat.le_of_ble_eq_true rfl) rfl dX10_isThrown_11 (x := (I 155 54)) rfl ?_
      refine g_iconst cx dX10_isThrown_14 ic_1 ?_
      refine g_isub cx dX10_isThrown_15 ?_
      obtain ⟨hc2, h⟩ := h
      refine g_iald cx dX10_isThrown_16 rfl hc2 (x := (I 196 ((((I 155 54) - 1)).toNatClampNeg))) rfl ?_
      refine g_istore_n cx dX10_isThrown_17 (Nat.le_of_ble_eq_true rfl) (Gx.L [.ref 155, .int y1, .int (I 196 ((((I 155 54) - 1)).toNatClampNeg)), .float 0, .float 0, .float 0] rfl ?_)
      refine g_aload_n cx dX10_isThrown_18 rfl ?_
      refine g_getR cx lk_X10_138 rfl (Nat.le_of_ble_eq_true rfl) rfl dX10_isThrown_19 (v := 197) (pst hP 196 rfl) ?_
      refine g_aload_n cx dX10_isThrown_22 rfl ?_
      refine g_getI cx lk_X10_415 rfl (Nat.le_of_ble_eq_true rfl) rfl dX10_isThrown_23 (x := (I 155 54)) rfl ?_
      refine g_iconst cx dX10_isThrown_26 ic_1 ?_
      refine g_isub cx dX10_isThrown_27 ?_
      obtain ⟨hc3, h⟩ := h
      refine g_iald cx dX10_isThrown_28 rfl hc3 (x := (I 197 ((((I 155 54) - 1)).toNatClampNeg))) rfl ?_
      refine g_istore_n cx dX10_isThrown_29 (Nat.le_of_ble_eq_true rfl) (Gx.L [.ref 155, .int y1, .int (I 196 ((((I 155 54) - 1)).toNatClampNeg)), .int (I 197 ((((I 155 54) - 1)).toNatClampNeg)), .float 0, .float 0] rfl ?_)
      refine g_aload_n cx dX10_isThrown_30 rfl ?_
      refine g_iload_n cx dX10_isThrown_31 rfl ?_
      refine g_iload_n cx dX10_isThrown_32 rfl ?_
      refine g_wVi cx [.int (I 196 ((((I 155 54) - 1)).toNatClampNeg)), .int (I 197 ((((I 155 54) - 1)).toNatClampNeg))] [] (e_X10_catches hP h) mt_X10_catches ml_X10_504 rfl rfl rfl dX10_isThrown_33 rfl rfl (Nat.le_of_ble_eq_true rfl) (Nat.le_of_ble_eq_true rfl) (Nat.le_of_ble_eq_true rfl) (fun v4 I4 P4 hP h => ?_)
      refine g_istore cx dX10_isThrown_36 (Nat.le_of_ble_eq_true rfl) (Gx.L [.ref 155, .int y1, .int (I 196 ((((I 155 54) - 1)).toNatClampNeg)), .int (I 197 ((((I 155 54) - 1)).toNatClampNeg)), .int v4, .float 0] rfl ?_)
      refine g_iload cx dX10_isThrown_38 rfl ?_
      refine g_iconst cx dX10_isThrown_40 ic_m1 ?_
      refine g_icmp_eq cx (tgt := 52) dX10_isThrown_41 rfl (fun c5 => ?_) (fun c5 => ?_)
      · have h := zifp c5 h
        refine g_iconst cx dX10_isThrown_52 ic_0 ?_
        refine g_istore cx dX10_isThrown_53 (Nat.le_of_ble_eq_true rfl) (Gx.L [.ref 155, .int y1, .int (I 196 ((((I 155 54) - 1)).toNatClampNeg)), .int (I 197 ((((I 155 54) - 1)).toNatClampNeg)), .int v4, .int 0] rfl ?_)
        refine (Gx.unset 1 (Gx.unset 3 (Gx.unset 4 (Gx.L [.ref 155, .float 0, .int (I 196 ((((I 155 54) - 1)).toNatClampNeg)), .float 0, .float 0, .int 0] rfl ?_))))
        obtain ⟨n9, h⟩ := h
        exact gl_X10_isThrown_55 cx hE ih n9 _ _ _ _ hP h
      · have h := zifn c5 h
        refine g_aload_n cx dX10_isThrown_44 rfl ?_
        refine g_iload_n cx dX10_isThrown_45 rfl ?_
        refine g_iload cx dX10_isThrown_46 rfl ?_
        refine g_wVv cx [.int (I 196 ((((I 155 54) - 1)).toNatClampNeg)), .int v4] [] (e_X10_caught hP h) mt_X10_caught ml_X10_507 rfl rfl rfl dX10_isThrown_48 rfl rfl (Nat.le_of_ble_eq_true rfl) (Nat.le_of_ble_eq_true rfl) (Nat.le_of_ble_eq_true rfl) (fun I6 P6 hP h => ?_)
        exact g_wv cx hE dX10_isThrown_51 rfl hP h
def w_X10_isThrown (I : zI) (P : zP) (K : zI → zP → Prop) : Prop := ∃ n9, l_X10_isThrown_2 K n9 1 I P
theorem e_X10_isThrown {I : zI} {P : zP} {K : zI → zP → Prop} (hP : PSt P) (h : w_X10_isThrown I P K) : Ev yX10_isThrown cX10_isThrown 6 none 3 71 0 0 [.ref 155] SHy I P (zKv K) := by
  refine Ev.start [.ref 155, .float 0, .float 0, .float 0, .float 0, .float 0] pn_X10 rfl (Nat.le_of_ble_eq_true rfl) rfl (fun κ cx hE => ?_)
  unfold w_X10_isThrown at h
  refine g_iconst cx dX10_isThrown_0 ic_1 ?_
  refine g_istore_n cx dX10_isThrown_1 (Nat.le_of_ble_eq_true rfl) (Gx.L [.ref 155, .int 1, .float 0, .float 0, .float 0, .float 0] rfl ?_)
  obtain ⟨n9, h⟩ := h
  exact gl_X10_isThrown_2 cx hE n9 _ _ _ hP h
def w_X10_in (x1 : Int32) (x2 : Int32) (x3 : Int32) (I : zI) (P : zP) (K : Int32 → zI → zP → Prop) : Prop := if x1 < x2 then (K 0 I P) else (if x3 < x1 then (K 0 I P) else (K 1 I P))
theorem e_X10_in {x1 : Int32} {x2 : Int32} {x3 : Int32} {I : zI} {P : zP} {K : Int32 → zI → zP → Prop} (hP : PSt P) (h : w_X10_in x1 x2 x3 I P K) : Ev yX10_in cX10_in 3 (some .boolean) 0 0 0 0 [.int x1, .int x2, .int x3] SHy I P (zKi K) := by
  refine Ev.start [.int x1, .int x2, .int x3] pn_X10 rfl (Nat.le_of_ble_eq_true rfl) rfl (fun κ cx hE => ?_)
  unfold w_X10_in at h
  refine g_iload_n cx dX10_in_0 rfl ?_
  refine g_iload_n cx dX10_in_1 rfl ?_
  refine g_icmp_lt cx (tgt := 14) dX10_in_2 rfl (fun c1 => ?_) (fun c1 => ?_)
  · have h := zifp c1 h
    refine g_iconst cx dX10_in_14 ic_0 ?_
    exact g_wi cx hE dX10_in_15 rfl rfl hP h
  · have h := zifn c1 h
    refine g_iload_n cx dX10_in_5 rfl ?_
    refine g_iload_n cx dX10_in_6 rfl ?_
    refine g_icmp_gt cx (tgt := 14) dX10_in_7 rfl (fun c2 => ?_) (fun c2 => ?_)
    · have h := zifp c2 h
      refine g_iconst cx dX10_in_14 ic_0 ?_
      exact g_wi cx hE dX10_in_15 rfl rfl hP h
    · have h := zifn c2 h
      refine g_iconst cx dX10_in_10 ic_1 ?_
      refine g_goto cx (tgt := 15) dX10_in_11 rfl ?_
      exact g_wi cx hE dX10_in_15 rfl rfl hP h
def w_X10_stored (x1 : Int32) (I : zI) (P : zP) (K : Int32 → zI → zP → Prop) : Prop := vp_in x1 24 ∧ (if (I 206 ((x1).toNatClampNeg)) = 0 then (vp_in x1 24 ∧ (vp_in (I 207 ((x1).toNatClampNeg)) 8 ∧ (K (I 203 (((I 207 ((x1).toNatClampNeg))).toNatClampNeg)) I P))) else (vp_in x1 24 ∧ (vp_in x1 24 ∧ (vp_in ((50 * (I 206 ((x1).toNatClampNeg))) + (I 207 ((x1).toNatClampNeg))) 1550 ∧ (K (I 202 ((((50 * (I 206 ((x1).toNatClampNeg))) + (I 207 ((x1).toNatClampNeg)))).toNatClampNeg)) I P)))))
theorem e_X10_stored {x1 : Int32} {I : zI} {P : zP} {K : Int32 → zI → zP → Prop} (hP : PSt P) (h : w_X10_stored x1 I P K) : Ev yX10_stored cX10_stored 2 (some .int) 0 0 0 0 [.ref 155, .int x1] SHy I P (zKi K) := by
  refine Ev.start [.ref 155, .int x1] pn_X10 rfl (Nat.le_of_ble_eq_true rfl) rfl (fun κ cx hE => ?_)
  unfold w_X10_stored at h
  refine g_aload_n cx dX10_stored_0 rfl ?_
  refine g_getR cx lk_X10_165 rfl (Nat.le_of_ble_eq_true rfl) rfl dX10_stored_1 (v := 206) (pst hP 205 rfl) ?_
  refine g_iload_n cx dX10_stored_4 rfl ?_
  obtain ⟨hc1, h⟩ := h
  refine g_iald cx dX10_stored_5 rfl hc1 (x := (I 206 ((x1).toNatClampNeg))) rfl ?_
  refine g_if_ne cx (tgt := 23) dX10_stored_6 rfl (fun c2 => ?_) (fun c2 => ?_)
  · have h := zifn c2 h
    refine g_aload_n cx dX10_stored_23 rfl ?_
    refine g_getR cx lk_X10_153 rfl (Nat.le_of_ble_eq_true rfl) rfl dX10_stored_24 (v := 202) (pst hP 201 rfl) ?_
    refine g_bipush cx dX10_stored_27 bp_50 ?_
    refine g_aload_n cx dX10_stored_29 rfl ?_
    refine g_getR cx lk_X10_165 rfl (Nat.le_of_ble_eq_true rfl) rfl dX10_stored_30 (v := 206) (pst hP 205 rfl) ?_
    refine g_iload_n cx dX10_stored_33 rfl ?_
    obtain ⟨hc3, h⟩ := h
    refine g_iald cx dX10_stored_34 rfl hc3 (x := (I 206 ((x1).toNatClampNeg))) rfl ?_
    refine g_imul cx dX10_stored_35 ?_
    refine g_aload_n cx dX10_stored_36 rfl ?_
    refine g_getR cx lk_X10_168 rfl (Nat.le_of_ble_eq_true rfl) rfl dX10_stored_37 (v := 207) (pst hP 206 rfl) ?_
    refine g_iload_n cx dX10_stored_40 rfl ?_
    obtain ⟨hc4, h⟩ := h
    refine g_iald cx dX10_stored_41 rfl hc4 (x := (I 207 ((x1).toNatClampNeg))) rfl ?_
    refine g_iadd cx dX10_stored_42 ?_
    obtain ⟨hc5, h⟩ := h
    refine g_iald cx dX10_stored_43 rfl hc5 (x := (I 202 ((((50 * (I 206 ((x1).toNatClampNeg))) + (I 207 ((x1).toNatClampNeg)))).toNatClampNeg))) rfl ?_
    exact g_wi cx hE dX10_stored_44 rfl rfl hP h
  · have h := zifp c2 h
    refine g_aload_n cx dX10_stored_9 rfl ?_
    refine g_getR cx lk_X10_156 rfl (Nat.le_of_ble_eq_true rfl) rfl dX10_stored_10 (v := 203) (pst hP 202 rfl) ?_
    refine g_aload_n cx dX10_stored_13 rfl ?_
    refine g_getR cx lk_X10_168 rfl (Nat.le_of_ble_eq_true rfl) rfl dX10_stored_14 (v := 207) (pst hP 206 rfl) ?_
    refine g_iload_n cx dX10_stored_17 rfl ?_
    obtain ⟨hc6, h⟩ := h
    refine g_iald cx dX10_stored_18 rfl hc6 (x := (I 207 ((x1).toNatClampNeg))) rfl ?_
    obtain ⟨hc7, h⟩ := h
    refine g_iald cx dX10_stored_19 rfl hc7 (x := (I 203 (((I 207 ((x1).toNatClampNeg))).toNatClampNeg))) rfl ?_
    refine g_goto cx (tgt := 44) dX10_stored_20 rfl ?_
    exact g_wi cx hE dX10_stored_44 rfl rfl hP h
def w_X10_top (x1 : Int32) (I : zI) (P : zP) (K : Int32 → zI → zP → Prop) : Prop := vp_in ((I 155 54) - 1) 12 ∧ (vp_in ((((12 * ((I 155 54) - 1)) + (I 198 ((((I 155 54) - 1)).toNatClampNeg))) - 1) - x1) 144 ∧ (K (I 200 ((((((12 * ((I 155 54) - 1)) + (I 198 ((((I 155 54) - 1)).toNatClampNeg))) - 1) - x1)).toNatClampNeg)) I P))
theorem e_X10_top {x1 : Int32} {I : zI} {P : zP} {K : Int32 → zI → zP → Prop} (hP : PSt P) (h : w_X10_top x1 I P K) : Ev yX10_top cX10_top 2 (some .int) 0 0 0 0 [.ref 155, .int x1] SHy I P (zKi K) := by
  refine Ev.start [.ref 155, .int x1] pn_X10 rfl (Nat.le_of_ble_eq_true rfl) rfl (fun κ cx hE => ?_)
  unfold w_X10_top at h
  refine g_aload_n cx dX10_top_0 rfl ?_
  refine g_getR cx lk_X10_147 rfl (Nat.le_of_ble_eq_true rfl) rfl dX10_top_1 (v := 200) (pst hP 199 rfl) ?_
  refine g_bipush cx dX10_top_4 bp_12 ?_
  refine g_aload_n cx dX10_top_6 rfl ?_
  refine g_getI cx lk_X10_415 rfl (Nat.le_of_ble_eq_true rfl) rfl dX10_top_7 (x := (I 155 54)) rfl ?_
  refine g_iconst cx dX10_top_10 ic_1 ?_
  refine g_isub cx dX10_top_11 ?_
  refine g_imul cx dX10_top_12 ?_
  refine g_aload_n cx dX10_top_13 rfl ?_
  refine g_getR cx lk_X10_141 rfl (Nat.le_of_ble_eq_true rfl) rfl dX10_top_14 (v := 198) (pst hP 197 rfl) ?_
  refine g_aload_n cx dX10_top_17 rfl ?_
  refine g_getI cx lk_X10_415 rfl (Nat.le_of_ble_eq_true rfl) rfl dX10_top_18 (x := (I 155 54)) rfl ?_
  refine g_iconst cx dX10_top_21 ic_1 ?_
  refine g_isub cx dX10_top_22 ?_
  obtain ⟨hc1, h⟩ := h
  refine g_iald cx dX10_top_23 rfl hc1 (x := (I 198 ((((I 155 54) - 1)).toNatClampNeg))) rfl ?_
  refine g_iadd cx dX10_top_24 ?_
  refine g_iconst cx dX10_top_25 ic_1 ?_
  refine g_isub cx dX10_top_26 ?_
  refine g_iload_n cx dX10_top_27 rfl ?_
  refine g_isub cx dX10_top_28 ?_
  obtain ⟨hc2, h⟩ := h
  refine g_iald cx dX10_top_29 rfl hc2 (x := (I 200 ((((((12 * ((I 155 54) - 1)) + (I 198 ((((I 155 54) - 1)).toNatClampNeg))) - 1) - x1)).toNatClampNeg))) rfl ?_
  exact g_wi cx hE dX10_top_30 rfl rfl hP h
