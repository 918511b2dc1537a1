def lawX (N : Nat) (xs : Nat → Int32) (κ : zX) : Prop := match κ with
  | (p, l, e, R, s, m, args, below, meth, c, Q, D, dA, b, tA, n) => va_X (tA 3) N xs s s.heap ∧ tA 3 < s.heap.size ∧ b = s.heap.size ∧ R = room_1 ∧ Q = lw_Z below args s ∧ args = #[Value.ref (tA 3)]
theorem g_aloadT {κ : zX} {y : MethodName} {cc : ByteArray} {nL : Nat} {ret : Option FieldType} {fr lo : Nat} (cx : Cx y cc nL ret fr lo κ) {pc : Nat} {L st : List Value} {sh : zSh} {I : zI} {P : zP} {ce sl : Nat} {k : Fin 4} {i : Nat} (hd : decode cc pc = .ok (.aload_n k, 1)) (hi : L[k.val]? = some (.retAddr i)) (kk : Gx κ (pc + 1) L (.retAddr i :: st) sh I P ce sl) : Gx κ pc L st sh I P ce sl := by
  obtain ⟨p, l, e, R, s, m, args, below, meth, c, Q, D, dA, b, tA, nq⟩ := κ
  obtain ⟨hx, hb, hr, hml, rfl, hown, hts, hK, hnm, hlk0, hfr, hlo, hbs⟩ := cx
  intro H locs ls hP hz hS hl
  exact lv_aload_n hx hb hd rfl (zl_get hl hi rfl) (kk H locs ls hP hz hS hl)
theorem g_slen {κ : zX} {y : MethodName} {cc : ByteArray} {nL : Nat} {ret : Option FieldType} {fr lo : Nat} (cx : Cx y cc nL ret fr lo κ) {pc : Nat} {L st : List Value} {sh : zSh} {I : zI} {P : zP} {ce sl : Nat} {N : Nat} {xs : Nat → Int32} (hX : lawX N xs κ) (hd : decode cc pc = .ok (.arraylength, 1)) (kk : Gx κ (pc + 1) L (.int (Int32.ofNat N) :: st) sh I P ce sl) : Gx κ pc L (.retAddr 3 :: st) sh I P ce sl := by
  obtain ⟨p, l, e, R, s, m, args, below, meth, c, Q, D, dA, b, tA, nq⟩ := κ
  obtain ⟨hx, hb, hr, hml, rfl, hown, hts, hK, hnm, hlk0, hfr, hlo, hbs⟩ := cx
  obtain ⟨h1, h2, rfl, -⟩ := hX
  intro H locs ls hP hz hS hl
  exact va_slen hx hb h1 h2 (Nat.not_le.mpr h2) hS hd (kk H locs ls hP hz hS hl)
theorem g_sld {κ : zX} {y : MethodName} {cc : ByteArray} {nL : Nat} {ret : Option FieldType} {fr lo : Nat} (cx : Cx y cc nL ret fr lo κ) {pc : Nat} {L st : List Value} {sh : zSh} {I : zI} {P : zP} {ce sl : Nat} {N : Nat} {xs : Nat → Int32} {i x : Int32} (hX : lawX N xs κ) (hd : decode cc pc = .ok (.iaload, 1)) (hin : vp_in i N) (hv : xs i.toNatClampNeg = x) (kk : Gx κ (pc + 1) L (.int x :: st) sh I P ce sl) : Gx κ pc L (.int i :: .retAddr 3 :: st) sh I P ce sl := by
  obtain ⟨p, l, e, R, s, m, args, below, meth, c, Q, D, dA, b, tA, nq⟩ := κ
  obtain ⟨hx, hb, hr, hml, rfl, hown, hts, hK, hnm, hlk0, hfr, hlo, hbs⟩ := cx
  subst hv
  obtain ⟨h1, h2, rfl, -⟩ := hX
  intro H locs ls hP hz hS hl
  exact va_sld hx hb h1 h2 (Nat.not_le.mpr h2) hS hin hd (kk H locs ls hP hz hS hl)
theorem lawroom {N : Nat} {xs : Nat → Int32} {κ : zX} (hX : lawX N xs κ) {a b : Nat} (h1 : a ≤ 600000) (h2 : b ≤ 7302250) : ∀ mc9 ms9, zRoom κ mc9 ms9 → a ≤ mc9 ∧ b ≤ ms9 := by
  obtain ⟨p, l, e, R, s, m, args, below, meth, c, Q, D, dA, b, tA, nq⟩ := κ
  obtain ⟨-, -, -, rfl, -⟩ := hX
  intro mc9 ms9 h
  obtain ⟨h5, h6⟩ := h
  have h5 : 600000 = mc9 := h5
  have h6 : 7302250 = ms9 := h6
  omega
theorem g_cL {κ : zX} {y : MethodName} {cc : ByteArray} {nL : Nat} {ret : Option FieldType} {fr lo : Nat} (cx : Cx y cc nL ret fr lo κ) {pc : Nat} {L st : List Value} {I : zI} {P : zP} {ce sl : Nat} {N : Nat} {xs : Nat → Int32} (hX : lawX N xs κ) {idx fr2 lo2 nL2 : Nat} {y2 : MethodName} {cc2 : ByteArray} {ret2 : Option FieldType} {K : Int32 → zI → zP → Prop} {o t n : Nat} {q : vw_C} (As rest : List Value) (hE : Ev y2 cc2 nL2 ret2 fr2 lo2 0 0 (.ref o :: As) SHy I P (zKi K)) (hM : zMv y2 cc2 nL2 ret2 As.length) (hl2 : zMl y.cls idx y2) (hsh : SHy[o]? = some (t, n)) (hc : vwCl[t]? = some q) (hq : q.1 = y2.cls) (hd : decode cc pc = .ok (.invokevirtual idx, 3)) (hstk : st = As.reverse ++ .ref o :: rest) (hlv : rest.all zlive = true) (hst : rest.length ≤ 8) (hf1 : fr2 + 1 ≤ fr) (hf2 : 8 + (nL2 + 11) + lo2 ≤ lo) (h1 : ce ≤ 600000) (h2 : sl ≤ 7302250) (kk : ∀ (v : Int32) (I2 : zI) (P2 : zP), PSt P2 → K v I2 P2 → Gx κ (pc + 3) L (.int v :: rest) SHy I2 P2 ce sl) : Gx κ pc L st SHy I P ce sl :=
  g_callV cx As rest hE hM hl2 hstk hsh hc hq (zallL hlv) hst hf1 hf2 (lawroom hX h1 h2) hd (fun r sh2 I2 P2 hq => by
    obtain ⟨rfl, h1, v, rfl, h2⟩ := hq
    exact kk v I2 P2 h1 h2)
theorem g_lret {κ : zX} {nm : String} (cx : Cx ⟨"ProbeLoomLaw", nm, ""⟩ code 4 ret 10 394 κ) {pc : Nat} {L : List Value} {sh : zSh} {I : zI} {P : zP} {ce sl N : Nat} {xs : Nat → Int32} (hX : lawX N xs κ) (h1 : ce ≤ 600000) (h2 : sl ≤ 7302250) (hd : decode code pc = .ok (.ireturn, 1)) : Gx κ pc L [.int 1] sh I P ce sl := by
  obtain ⟨p, l, e, R, s, m, args, below, meth, c, Q, D, dA, b, tA, nq⟩ := κ
  obtain ⟨hx, hb, hr, hml, rfl, hown, hts, hK, hnm, hlk0, hfr, hlo, hbs⟩ := cx
  obtain ⟨-, g2, rfl, rfl, rfl, rfl⟩ := hX
  intro H locs ls hP hz hS hl
  refine va_forget (fun q hq => hS.2.2 q hq) ?_
  refine W.widen h1 h2 ?_
  exact lw_ret hx hb hr hlk0 hd

/-- both answer alike, and Q holds behind them -/
def ok_feed (a : Nat → Int32) (Q : zI → zP → Prop) (I : zI) (P : zP) : Prop := w_X9_feed (a 1) (a 2) (a 3) (a 4) (a 5) I P (fun r I2 P2 => w_X10_feed (a 1) (a 2) (a 3) (a 4) (a 5) I2 P2 (fun r2 I3 P3 => r = r2 ∧ Q I3 P3))
/-- both answer alike, and Q holds behind them -/
def ok_cut (a : Nat → Int32) (Q : zI → zP → Prop) (I : zI) (P : zP) : Prop := w_X9_cut (a 1) I P (fun r I2 P2 => w_X10_cut (a 1) I2 P2 (fun r2 I3 P3 => r = r2 ∧ Q I3 P3))
/-- both answer alike, and Q holds behind them -/
def ok_make (a : Nat → Int32) (Q : zI → zP → Prop) (I : zI) (P : zP) : Prop := w_X9_make I P (fun r I2 P2 => w_X10_make I2 P2 (fun r2 I3 P3 => r = r2 ∧ Q I3 P3))
/-- both answer alike, and Q holds behind them -/
def ok_place (a : Nat → Int32) (Q : zI → zP → Prop) (I : zI) (P : zP) : Prop := w_X9_place I P (fun r I2 P2 => w_X10_place I2 P2 (fun r2 I3 P3 => r = r2 ∧ Q I3 P3))
/-- both answer alike, and Q holds behind them -/
def ok_method (a : Nat → Int32) (Q : zI → zP → Prop) (I : zI) (P : zP) : Prop := w_X9_method (a 1) (a 2) I P (fun r I2 P2 => w_X10_method (a 1) (a 2) I2 P2 (fun r2 I3 P3 => r = r2 ∧ Q I3 P3))
/-- both answer alike, and Q holds behind them -/
def ok_octet (a : Nat → Int32) (Q : zI → zP → Prop) (I : zI) (P : zP) : Prop := w_X9_octet (a 1) (if a 2 = 0 then 0 else 1) (a 3) I P (fun r I2 P2 => w_X10_octet (a 1) (if a 2 = 0 then 0 else 1) (a 3) I2 P2 (fun r2 I3 P3 => r = r2 ∧ Q I3 P3))
/-- both answer alike, and Q holds behind them -/
def ok_handler (a : Nat → Int32) (Q : zI → zP → Prop) (I : zI) (P : zP) : Prop := w_X9_handler (a 1) (if a 2 = 0 then 0 else 1) (a 3) (a 4) I P (fun r I2 P2 => w_X10_handler (a 1) (if a 2 = 0 then 0 else 1) (a 3) (a 4) I2 P2 (fun r2 I3 P3 => r = r2 ∧ Q I3 P3))
/-- both answer alike, and Q holds behind them -/
def ok_type (a : Nat → Int32) (Q : zI → zP → Prop) (I : zI) (P : zP) : Prop := w_X9_type (a 1) (a 2) (a 3) I P (fun r I2 P2 => w_X10_type (a 1) (a 2) (a 3) I2 P2 (fun r2 I3 P3 => r = r2 ∧ Q I3 P3))
/-- both answer alike, and Q holds behind them -/
def ok_moved (a : Nat → Int32) (Q : zI → zP → Prop) (I : zI) (P : zP) : Prop := w_X9_moved (a 1) (a 2) I P (fun r I2 P2 => w_X10_moved (a 1) (a 2) I2 P2 (fun r2 I3 P3 => r = r2 ∧ Q I3 P3))
/-- both answer alike, and Q holds behind them -/
def ok_probe (a : Nat → Int32) (Q : zI → zP → Prop) (I : zI) (P : zP) : Prop := w_X9_probe (a 1) (a 2) (a 3) (a 4) (a 5) I P (fun r I2 P2 => w_X10_probe (a 1) (a 2) (a 3) (a 4) (a 5) I2 P2 (fun r2 I3 P3 => r = r2 ∧ Q I3 P3))
/-- both answer alike, and Q holds behind them -/
def ok_clear (a : Nat → Int32) (Q : zI → zP → Prop) (I : zI) (P : zP) : Prop := w_X9_clear I P (fun r I2 P2 => w_X10_clear I2 P2 (fun r2 I3 P3 => r = r2 ∧ Q I3 P3))
/-- both answer alike, and Q holds behind them -/
def ok_weave (a : Nat → Int32) (Q : zI → zP → Prop) (I : zI) (P : zP) : Prop := w_X9_weave (a 1) I P (fun r I2 P2 => w_X10_weave (a 1) I2 P2 (fun r2 I3 P3 => r = r2 ∧ Q I3 P3))
/-- both answer alike, and Q holds behind them -/
def ok_unweave (a : Nat → Int32) (Q : zI → zP → Prop) (I : zI) (P : zP) : Prop := w_X9_unweave (a 1) I P (fun r I2 P2 => w_X10_unweave (a 1) I2 P2 (fun r2 I3 P3 => r = r2 ∧ Q I3 P3))
/-- both answer alike, and Q holds behind them -/
def ok_run (a : Nat → Int32) (Q : zI → zP → Prop) (I : zI) (P : zP) : Prop := w_X9_run (a 1) (a 2) (a 3) (a 4) (a 5) I P (fun r I2 P2 => w_X10_run (a 1) (a 2) (a 3) (a 4) (a 5) I2 P2 (fun r2 I3 P3 => r = r2 ∧ Q I3 P3))
/-- both answer alike, and Q holds behind them -/
def ok_told (a : Nat → Int32) (Q : zI → zP → Prop) (I : zI) (P : zP) : Prop := w_X9_told (a 1) (a 2) I P (fun r I2 P2 => w_X10_told (a 1) (a 2) I2 P2 (fun r2 I3 P3 => r = r2 ∧ Q I3 P3))
/-- both answer alike, and Q holds behind them -/
def ok_mark (a : Nat → Int32) (Q : zI → zP → Prop) (I : zI) (P : zP) : Prop := w_X9_mark (a 1) (a 2) I P (fun r I2 P2 => w_X10_mark (a 1) (a 2) I2 P2 (fun r2 I3 P3 => r = r2 ∧ Q I3 P3))
/-- both answer alike, and Q holds behind them -/
def ok_field (a : Nat → Int32) (Q : zI → zP → Prop) (I : zI) (P : zP) : Prop := w_X9_field (a 1) (a 2) I P (fun r I2 P2 => w_X10_field (a 1) (a 2) I2 P2 (fun r2 I3 P3 => r = r2 ∧ Q I3 P3))
/-- both answer alike, and Q holds behind them -/
def ok_record (a : Nat → Int32) (Q : zI → zP → Prop) (I : zI) (P : zP) : Prop := w_X9_record (a 1) (a 2) (a 3) I P (fun r I2 P2 => w_X10_record (a 1) (a 2) (a 3) I2 P2 (fun r2 I3 P3 => r = r2 ∧ Q I3 P3))
/-- both answer alike, and Q holds behind them -/
def ok_records (a : Nat → Int32) (Q : zI → zP → Prop) (I : zI) (P : zP) : Prop := w_X9_records (a 1) (a 2) I P (fun r I2 P2 => w_X10_records (a 1) (a 2) I2 P2 (fun r2 I3 P3 => r = r2 ∧ Q I3 P3))
/-- both answer alike, and Q holds behind them -/
def ok_differ (a : Nat → Int32) (Q : zI → zP → Prop) (I : zI) (P : zP) : Prop := w_X9_differ I P (fun r I2 P2 => w_X10_differ I2 P2 (fun r2 I3 P3 => r = r2 ∧ Q I3 P3))
/-- both answer alike, and Q holds behind them -/
def ok_count (a : Nat → Int32) (Q : zI → zP → Prop) (I : zI) (P : zP) : Prop := w_X9_count (a 1) I P (fun r I2 P2 => w_X10_count (a 1) I2 P2 (fun r2 I3 P3 => r = r2 ∧ Q I3 P3))
def lawStep (a : Nat → Int32) (Q : zI → zP → Prop) (I : zI) (P : zP) : Prop := (a 0 &&& 31 = 0 → ok_feed a Q I P) ∧ (a 0 &&& 31 = 1 → ok_cut a Q I P) ∧ (a 0 &&& 31 = 2 → ok_make a Q I P) ∧ (a 0 &&& 31 = 3 → ok_place a Q I P) ∧ (a 0 &&& 31 = 4 → ok_method a Q I P) ∧ (a 0 &&& 31 = 5 → ok_octet a Q I P) ∧ (a 0 &&& 31 = 6 → ok_handler a Q I P) ∧ (a 0 &&& 31 = 7 → ok_type a Q I P) ∧ (a 0 &&& 31 = 8 → ok_moved a Q I P) ∧ (a 0 &&& 31 = 9 → ok_probe a Q I P) ∧ (a 0 &&& 31 = 10 → ok_clear a Q I P) ∧ (a 0 &&& 31 = 11 → ok_weave a Q I P) ∧ (a 0 &&& 31 = 12 → ok_unweave a Q I P) ∧ (a 0 &&& 31 = 13 → ok_run a Q I P) ∧ (a 0 &&& 31 = 14 → ok_told a Q I P) ∧ (a 0 &&& 31 = 15 → ok_mark a Q I P) ∧ (a 0 &&& 31 = 16 → ok_field a Q I P) ∧ (a 0 &&& 31 = 17 → ok_record a Q I P) ∧ (a 0 &&& 31 = 18 → ok_records a Q I P) ∧ (a 0 &&& 31 = 19 → ok_differ a Q I P) ∧ (a 0 &&& 31 = 20 → ok_count a Q I P) ∧ (¬ a 0 &&& 31 = 0 → ¬ a 0 &&& 31 = 1 → ¬ a 0 &&& 31 = 2 → ¬ a 0 &&& 31 = 3 → ¬ a 0 &&& 31 = 4 → ¬ a 0 &&& 31 = 5 → ¬ a 0 &&& 31 = 6 → ¬ a 0 &&& 31 = 7 → ¬ a 0 &&& 31 = 8 → ¬ a 0 &&& 31 = 9 → ¬ a 0 &&& 31 = 10 → ¬ a 0 &&& 31 = 11 → ¬ a 0 &&& 31 = 12 → ¬ a 0 &&& 31 = 13 → ¬ a 0 &&& 31 = 14 → ¬ a 0 &&& 31 = 15 → ¬ a 0 &&& 31 = 16 → ¬ a 0 &&& 31 = 17 → ¬ a 0 &&& 31 = 18 → ¬ a 0 &&& 31 = 19 → ¬ a 0 &&& 31 = 20 → Q I P)
theorem law_le {N n : Nat} (hN : N ≤ 3072) (hn : n ≤ 600) : (Int32.ofNat N - 6 < nI (6 * n)) ↔ ¬ 6 * n + 6 ≤ N := by
  rw [Int32.lt_iff_toInt_lt, show Int32.ofNat N - 6 = nI N - nI 6 from rfl, pk_sub_toInt (by omega) (by omega), nI_toInt (by omega)]
  omega
theorem law_in {N n : Nat} {xs : Nat → Int32} (hN : N ≤ 3072) (h : 6 * n + 6 ≤ N) (j : Nat) (hj : j < 6) : vp_in (nI (6 * n) + nI j) N ∧ xs (nI (6 * n) + nI j).toNatClampNeg = xs (6 * n + j) := by
  rw [nI_add]
  exact ⟨vp_in_nI (by omega) (by omega), by rw [nI_clamp (by omega)]⟩
set_option maxRecDepth 100000 in
theorem law_loop {κ : zX} {nm : String} (cx : Cx ⟨"ProbeLoomLaw", nm, ""⟩ code 4 ret 10 394 κ) {N : Nat} {xs : Nat → Int32} (hX : lawX N xs κ) (hN : N ≤ 3072) (Inv : Nat → zI → zP → Prop) (hs : ∀ n I P, 6 * n + 6 ≤ N → PSt P → Inv n I P → lawStep (fun j => xs (6 * n + j)) (Inv (n + 1)) I P) :
    ∀ (f n : Nat) (I : zI) (P : zP), N + 6 ≤ 6 * (n + f) → n ≤ 550 → PSt P → Inv n I P → Gx κ 18 [.retAddr 3, .ref 0, .ref 155, .int (nI (6 * n))] [] SHy I P 221 128337 := by
  intro f
  induction f with
  | zero =>
    intro n I P h1 h2 hP h3
    refine g_iload_n cx dL_law_18 rfl ?_
    refine g_aloadT cx dL_law_19 rfl ?_
    refine g_slen cx hX dL_law_20 ?_
    refine g_bipush cx dL_law_21 bp_6 ?_
    refine g_isub cx dL_law_23 ?_
    refine g_icmp_gt cx (tgt := 883) dL_law_24 rfl (fun c0 => ?_) (fun c0 => absurd ((law_le hN (by omega)).mpr (by omega)) c0)
    refine g_iconst cx dL_law_883 ic_1 ?_
    exact g_lret cx hX (Nat.le_of_ble_eq_true rfl) (Nat.le_of_ble_eq_true rfl) dL_law_884
  | succ f ih =>
    intro n I P h1 h2 hP h3
    refine g_iload_n cx dL_law_18 rfl ?_
    refine g_aloadT cx dL_law_19 rfl ?_
    refine g_slen cx hX dL_law_20 ?_
    refine g_bipush cx dL_law_21 bp_6 ?_
    refine g_isub cx dL_law_23 ?_
    refine g_icmp_gt cx (tgt := 883) dL_law_24 rfl (fun c0 => ?_) (fun c0 => ?_)
    · refine g_iconst cx dL_law_883 ic_1 ?_
      exact g_lret cx hX (Nat.le_of_ble_eq_true rfl) (Nat.le_of_ble_eq_true rfl) dL_law_884
    have hle : 6 * n + 6 ≤ N := Decidable.of_not_not (fun q => c0 ((law_le hN (by omega)).mpr q))
    have hst := hs n I P hle hP h3
    have hin : ∀ j, j < 6 → vp_in (nI (6 * n) + nI j) N ∧ xs (nI (6 * n) + nI j).toNatClampNeg = xs (6 * n + j) := law_in hN hle
    have hin0 : vp_in (nI (6 * n)) N ∧ xs (nI (6 * n)).toNatClampNeg = xs (6 * n + 0) := ⟨vp_in_nI (by omega) (by omega), by rw [nI_clamp (by omega)]; rfl⟩
    have hnext : ∀ (I : zI) (P : zP), PSt P → Inv (n + 1) I P → Gx κ 877 [.retAddr 3, .ref 0, .ref 155, .int (nI (6 * n))] [] SHy I P 221 128337 := by
      intro I P hP h
      refine g_iinc cx (v := nI (6 * (n + 1))) dL_law_877 rfl (by rw [show Int32.ofInt 6 = nI 6 from rfl, nI_add]; rfl) (Nat.le_of_ble_eq_true rfl) ?_
      refine Gx.L [.retAddr 3, .ref 0, .ref 155, .int (nI (6 * (n + 1)))] rfl ?_
      refine g_goto cx (tgt := 18) dL_law_880 rfl ?_
      exact ih (n + 1) I P (by omega) (by omega) hP h
    generalize ha : (fun j => xs (6 * n + j)) = a at hst
    have hin : ∀ j, j < 6 → vp_in (nI (6 * n) + nI j) N ∧ xs (nI (6 * n) + nI j).toNatClampNeg = a j := by rw [← ha]; exact hin
    have hin0 : vp_in (nI (6 * n)) N ∧ xs (nI (6 * n)).toNatClampNeg = a 0 := by rw [← ha]; exact hin0
    refine g_aloadT cx dL_law_27 rfl ?_
    refine g_iload_n cx dL_law_28 rfl ?_
    refine g_sld cx hX dL_law_29 hin0.1 hin0.2 ?_
    refine g_bipush cx dL_law_30 bp_31 ?_
    refine g_iand cx dL_law_32 ?_
    by_cases c1 : ((a 0) &&& 31) = 0
    · skip
      refine g_tabIn cx (tgt := 132) (off := 99) dL_law_33 (by rw [c1]; decide) (by rw [c1]; decide) (by rw [c1]; rfl) rfl ?_
      refine g_aload_n cx dL_law_132 rfl ?_
      refine g_aloadT cx dL_law_133 rfl ?_
      refine g_iload_n cx dL_law_134 rfl ?_
      refine g_iconst cx dL_law_135 ic_1 ?_
      refine g_iadd cx dL_law_136 ?_
      refine g_sld cx hX dL_law_137 (hin 1 (Nat.le_of_ble_eq_true rfl)).1 (hin 1 (Nat.le_of_ble_eq_true rfl)).2 ?_
      refine g_aloadT cx dL_law_138 rfl ?_
      refine g_iload_n cx dL_law_139 rfl ?_
      refine g_iconst cx dL_law_140 ic_2 ?_
      refine g_iadd cx dL_law_141 ?_
      refine g_sld cx hX dL_law_142 (hin 2 (Nat.le_of_ble_eq_true rfl)).1 (hin 2 (Nat.le_of_ble_eq_true rfl)).2 ?_
      refine g_aloadT cx dL_law_143 rfl ?_
      refine g_iload_n cx dL_law_144 rfl ?_
      refine g_iconst cx dL_law_145 ic_3 ?_
      refine g_iadd cx dL_law_146 ?_
      refine g_sld cx hX dL_law_147 (hin 3 (Nat.le_of_ble_eq_true rfl)).1 (hin 3 (Nat.le_of_ble_eq_true rfl)).2 ?_
      refine g_aloadT cx dL_law_148 rfl ?_
      refine g_iload_n cx dL_law_149 rfl ?_
      refine g_iconst cx dL_law_150 ic_4 ?_
      refine g_iadd cx dL_law_151 ?_
      refine g_sld cx hX dL_law_152 (hin 4 (Nat.le_of_ble_eq_true rfl)).1 (hin 4 (Nat.le_of_ble_eq_true rfl)).2 ?_
      refine g_aloadT cx dL_law_153 rfl ?_
      refine g_iload_n cx dL_law_154 rfl ?_
      refine g_iconst cx dL_law_155 ic_5 ?_
      refine g_iadd cx dL_law_156 ?_
      refine g_sld cx hX dL_law_157 (hin 5 (Nat.le_of_ble_eq_true rfl)).1 (hin 5 (Nat.le_of_ble_eq_true rfl)).2 ?_
      have h := hst.1 c1
      unfold ok_feed at h
      refine g_cL cx hX [.int (a 1), .int (a 2), .int (a 3), .int (a 4), .int (a 5)] [] (e_X9_feed hP h) mt_X9_feed ml_L_13 rfl rfl rfl dL_law_158 rfl rfl (Nat.le_of_ble_eq_true rfl) (Nat.le_of_ble_eq_true rfl) (Nat.le_of_ble_eq_true rfl) (Nat.le_of_ble_eq_true rfl) (Nat.le_of_ble_eq_true rfl) (fun r I2 P2 hP h => ?_)
      refine g_aload_n cx dL_law_161 rfl ?_
      refine g_aloadT cx dL_law_162 rfl ?_
      refine g_iload_n cx dL_law_163 rfl ?_
      refine g_iconst cx dL_law_164 ic_1 ?_
      refine g_iadd cx dL_law_165 ?_
      refine g_sld cx hX dL_law_166 (hin 1 (Nat.le_of_ble_eq_true rfl)).1 (hin 1 (Nat.le_of_ble_eq_true rfl)).2 ?_
      refine g_aloadT cx dL_law_167 rfl ?_
      refine g_iload_n cx dL_law_168 rfl ?_
      refine g_iconst cx dL_law_169 ic_2 ?_
      refine g_iadd cx dL_law_170 ?_
      refine g_sld cx hX dL_law_171 (hin 2 (Nat.le_of_ble_eq_true rfl)).1 (hin 2 (Nat.le_of_ble_eq_true rfl)).2 ?_
      refine g_aloadT cx dL_law_172 rfl ?_
      refine g_iload_n cx dL_law_173 rfl ?_
      refine g_iconst cx dL_law_174 ic_3 ?_
      refine g_iadd cx dL_law_175 ?_
      refine g_sld cx hX dL_law_176 (hin 3 (Nat.le_of_ble_eq_true rfl)).1 (hin 3 (Nat.le_of_ble_eq_true rfl)).2 ?_
      refine g_aloadT cx dL_law_177 rfl ?_
      refine g_iload_n cx dL_law_178 rfl ?_
      refine g_iconst cx dL_law_179 ic_4 ?_
      refine g_iadd cx dL_law_180 ?_
      refine g_sld cx hX dL_law_181 (hin 4 (Nat.le_of_ble_eq_true rfl)).1 (hin 4 (Nat.le_of_ble_eq_true rfl)).2 ?_
      refine g_aloadT cx dL_law_182 rfl ?_
      refine g_iload_n cx dL_law_183 rfl ?_
      refine g_iconst cx dL_law_184 ic_5 ?_
      refine g_iadd cx dL_law_185 ?_
      refine g_sld cx hX dL_law_186 (hin 5 (Nat.le_of_ble_eq_true rfl)).1 (hin 5 (Nat.le_of_ble_eq_true rfl)).2 ?_
      refine g_cL cx hX [.int (a 1), .int (a 2), .int (a 3), .int (a 4), .int (a 5)] [.int r] (e_X10_feed hP h) mt_X10_feed ml_L_17 rfl rfl rfl dL_law_187 rfl rfl (Nat.le_of_ble_eq_true rfl) (Nat.le_of_ble_eq_true rfl) (Nat.le_of_ble_eq_true rfl) (Nat.le_of_ble_eq_true rfl) (Nat.le_of_ble_eq_true rfl) (fun r2 I3 P3 hP h => ?_)
      refine g_icmp_eq cx (tgt := 877) dL_law_190 rfl (fun _ => ?_) (fun q => absurd h.1 q)
      exact hnext I3 P3 hP h.2
    · skip
      by_cases c2 : ((a 0) &&& 31) = 1
      · skip
        refine g_tabIn cx (tgt := 195) (off := 162) dL_law_33 (by rw [c2]; decide) (by rw [c2]; decide) (by rw [c2]; rfl) rfl ?_
        refine g_aload_n cx dL_law_195 rfl ?_
        refine g_aloadT cx dL_law_196 rfl ?_
        refine g_iload_n cx dL_law_197 rfl ?_
        refine g_iconst cx dL_law_198 ic_1 ?_
        refine g_iadd cx dL_law_199 ?_
        refine g_sld cx hX dL_law_200 (hin 1 (Nat.le_of_ble_eq_true rfl)).1 (hin 1 (Nat.le_of_ble_eq_true rfl)).2 ?_
        have h := hst.2.1 c2
        unfold ok_cut at h
        refine g_cL cx hX [.int (a 1)] [] (e_X9_cut hP h) mt_X9_cut ml_L_18 rfl rfl rfl dL_law_201 rfl rfl (Nat.le_of_ble_eq_true rfl) (Nat.le_of_ble_eq_true rfl) (Nat.le_of_ble_eq_true rfl) (Nat.le_of_ble_eq_true rfl) (Nat.le_of_ble_eq_true rfl) (fun r I2 P2 hP h => ?_)
        refine g_aload_n cx dL_law_204 rfl ?_
        refine g_aloadT cx dL_law_205 rfl ?_
        refine g_iload_n cx dL_law_206 rfl ?_
        refine g_iconst cx dL_law_207 ic_1 ?_
        refine g_iadd cx dL_law_208 ?_
        refine g_sld cx hX dL_law_209 (hin 1 (Nat.le_of_ble_eq_true rfl)).1 (hin 1 (Nat.le_of_ble_eq_true rfl)).2 ?_
        refine g_cL cx hX [.int (a 1)] [.int r] (e_X10_cut hP h) mt_X10_cut ml_L_22 rfl rfl rfl dL_law_210 rfl rfl (Nat.le_of_ble_eq_true rfl) (Nat.le_of_ble_eq_true rfl) (Nat.le_of_ble_eq_true rfl) (Nat.le_of_ble_eq_true rfl) (Nat.le_of_ble_eq_true rfl) (fun r2 I3 P3 hP h => ?_)
        refine g_icmp_eq cx (tgt := 877) dL_law_213 rfl (fun _ => ?_) (fun q => absurd h.1 q)
        exact hnext I3 P3 hP h.2
      · skip
        by_cases c3 : ((a 0) &&& 31) = 2
        · skip
          refine g_tabIn cx (tgt := 218) (off := 185) dL_law_33 (by rw [c3]; decide) (by rw [c3]; decide) (by rw [c3]; rfl) rfl ?_
          refine g_aload_n cx dL_law_218 rfl ?_
          have h := hst.2.2.1 c3
          unfold ok_make at h
          refine g_cL cx hX [] [] (e_X9_make hP h) mt_X9_make ml_L_23 rfl rfl rfl dL_law_219 rfl rfl (Nat.le_of_ble_eq_true rfl) (Nat.le_of_ble_eq_true rfl) (Nat.le_of_ble_eq_true rfl) (Nat.le_of_ble_eq_true rfl) (Nat.le_of_ble_eq_true rfl) (fun r I2 P2 hP h => ?_)
          refine g_aload_n cx dL_law_222 rfl ?_
          refine g_cL cx hX [] [.int r] (e_X10_make hP h) mt_X10_make ml_L_27 rfl rfl rfl dL_law_223 rfl rfl (Nat.le_of_ble_eq_true rfl) (Nat.le_of_ble_eq_true rfl) (Nat.le_of_ble_eq_true rfl) (Nat.le_of_ble_eq_true rfl) (Nat.le_of_ble_eq_true rfl) (fun r2 I3 P3 hP h => ?_)
          refine g_icmp_eq cx (tgt := 877) dL_law_226 rfl (fun _ => ?_) (fun q => absurd h.1 q)
          exact hnext I3 P3 hP h.2
        · skip
          by_cases c4 : ((a 0) &&& 31) = 3
          · skip
            refine g_tabIn cx (tgt := 231) (off := 198) dL_law_33 (by rw [c4]; decide) (by rw [c4]; decide) (by rw [c4]; rfl) rfl ?_
            refine g_aload_n cx dL_law_231 rfl ?_
            have h := hst.2.2.2.1 c4
            unfold ok_place at h
            refine g_cL cx hX [] [] (e_X9_place hP h) mt_X9_place ml_L_28 rfl rfl rfl dL_law_232 rfl rfl (Nat.le_of_ble_eq_true rfl) (Nat.le_of_ble_eq_true rfl) (Nat.le_of_ble_eq_true rfl) (Nat.le_of_ble_eq_true rfl) (Nat.le_of_ble_eq_true rfl) (fun r I2 P2 hP h => ?_)
            refine g_aload_n cx dL_law_235 rfl ?_
            refine g_cL cx hX [] [.int r] (e_X10_place hP h) mt_X10_place ml_L_31 rfl rfl rfl dL_law_236 rfl rfl (Nat.le_of_ble_eq_true rfl) (Nat.le_of_ble_eq_true rfl) (Nat.le_of_ble_eq_true rfl) (Nat.le_of_ble_eq_true rfl) (Nat.le_of_ble_eq_true rfl) (fun r2 I3 P3 hP h => ?_)
            refine g_icmp_eq cx (tgt := 877) dL_law_239 rfl (fun _ => ?_) (fun q => absurd h.1 q)
            exact hnext I3 P3 hP h.2
          · skip
            by_cases c5 : ((a 0) &&& 31) = 4
            · skip
              refine g_tabIn cx (tgt := 244) (off := 211) dL_law_33 (by rw [c5]; decide) (by rw [c5]; decide) (by rw [c5]; rfl) rfl ?_
              refine g_aload_n cx dL_law_244 rfl ?_
              refine g_aloadT cx dL_law_245 rfl ?_
              refine g_iload_n cx dL_law_246 rfl ?_
              refine g_iconst cx dL_law_247 ic_1 ?_
              refine g_iadd cx dL_law_248 ?_
              refine g_sld cx hX dL_law_249 (hin 1 (Nat.le_of_ble_eq_true rfl)).1 (hin 1 (Nat.le_of_ble_eq_true rfl)).2 ?_
              refine g_aloadT cx dL_law_250 rfl ?_
              refine g_iload_n cx dL_law_251 rfl ?_
              refine g_iconst cx dL_law_252 ic_2 ?_
              refine g_iadd cx dL_law_253 ?_
              refine g_sld cx hX dL_law_254 (hin 2 (Nat.le_of_ble_eq_true rfl)).1 (hin 2 (Nat.le_of_ble_eq_true rfl)).2 ?_
              have h := hst.2.2.2.2.1 c5
              unfold ok_method at h
              refine g_cL cx hX [.int (a 1), .int (a 2)] [] (e_X9_method hP h) mt_X9_method ml_L_32 rfl rfl rfl dL_law_255 rfl rfl (Nat.le_of_ble_eq_true rfl) (Nat.le_of_ble_eq_true rfl) (Nat.le_of_ble_eq_true rfl) (Nat.le_of_ble_eq_true rfl) (Nat.le_of_ble_eq_true rfl) (fun r I2 P2 hP h => ?_)
              refine g_aload_n cx dL_law_258 rfl ?_
              refine g_aloadT cx dL_law_259 rfl ?_
              refine g_iload_n cx dL_law_260 rfl ?_
              refine g_iconst cx dL_law_261 ic_1 ?_
              refine g_iadd cx dL_law_262 ?_
              refine g_sld cx hX dL_law_263 (hin 1 (Nat.le_of_ble_eq_true rfl)).1 (hin 1 (Nat.le_of_ble_eq_true rfl)).2 ?_
              refine g_aloadT cx dL_law_264 rfl ?_
              refine g_iload_n cx dL_law_265 rfl ?_
              refine g_iconst cx dL_law_266 ic_2 ?_
              refine g_iadd cx dL_law_267 ?_
              refine g_sld cx hX dL_law_268 (hin 2 (Nat.le_of_ble_eq_true rfl)).1 (hin 2 (Nat.le_of_ble_eq_true rfl)).2 ?_
              refine g_cL cx hX [.int (a 1), .int (a 2)] [.int r] (e_X10_method hP h) mt_X10_method ml_L_36 rfl rfl rfl dL_law_269 rfl rfl (Nat.le_of_ble_eq_true rfl) (Nat.le_of_ble_eq_true rfl) (Nat.le_of_ble_eq_true rfl) (Nat.le_of_ble_eq_true rfl) (Nat.le_of_ble_eq_true rfl) (fun r2 I3 P3 hP h => ?_)
              refine g_icmp_eq cx (tgt := 877) dL_law_272 rfl (fun _ => ?_) (fun q => absurd h.1 q)
              exact hnext I3 P3 hP h.2
            · skip
              by_cases c6 : ((a 0) &&& 31) = 5
              · skip
                refine g_tabIn cx (tgt := 277) (off := 244) dL_law_33 (by rw [c6]; decide) (by rw [c6]; decide) (by rw [c6]; rfl) rfl ?_
                refine g_aload_n cx dL_law_277 rfl ?_
                refine g_aloadT cx dL_law_278 rfl ?_
                refine g_iload_n cx dL_law_279 rfl ?_
                refine g_iconst cx dL_law_280 ic_1 ?_
                refine g_iadd cx dL_law_281 ?_
                refine g_sld cx hX dL_law_282 (hin 1 (Nat.le_of_ble_eq_true rfl)).1 (hin 1 (Nat.le_of_ble_eq_true rfl)).2 ?_
                refine g_aloadT cx dL_law_283 rfl ?_
                refine g_iload_n cx dL_law_284 rfl ?_
                refine g_iconst cx dL_law_285 ic_2 ?_
                refine g_iadd cx dL_law_286 ?_
                refine g_sld cx hX dL_law_287 (hin 2 (Nat.le_of_ble_eq_true rfl)).1 (hin 2 (Nat.le_of_ble_eq_true rfl)).2 ?_
                refine g_if_eq cx (tgt := 295) dL_law_288 rfl (fun c7 => ?_) (fun c7 => ?_)
                · skip
                  refine g_iconst cx dL_law_295 ic_0 ?_
                  refine g_aloadT cx dL_law_296 rfl ?_
                  refine g_iload_n cx dL_law_297 rfl ?_
                  refine g_iconst cx dL_law_298 ic_3 ?_
                  refine g_iadd cx dL_law_299 ?_
                  refine g_sld cx hX dL_law_300 (hin 3 (Nat.le_of_ble_eq_true rfl)).1 (hin 3 (Nat.le_of_ble_eq_true rfl)).2 ?_
                  have h := hst.2.2.2.2.2.1 c6
                  unfold ok_octet at h
                  simp only [if_pos c7] at h
                  refine g_cL cx hX [.int (a 1), .int 0, .int (a 3)] [] (e_X9_octet hP h) mt_X9_octet ml_L_37 rfl rfl rfl dL_law_301 rfl rfl (Nat.le_of_ble_eq_true rfl) (Nat.le_of_ble_eq_true rfl) (Nat.le_of_ble_eq_true rfl) (Nat.le_of_ble_eq_true rfl) (Nat.le_of_ble_eq_true rfl) (fun r I2 P2 hP h => ?_)
                  refine g_aload_n cx dL_law_304 rfl ?_
                  refine g_aloadT cx dL_law_305 rfl ?_
                  refine g_iload_n cx dL_law_306 rfl ?_
                  refine g_iconst cx dL_law_307 ic_1 ?_
                  refine g_iadd cx dL_law_308 ?_
                  refine g_sld cx hX dL_law_309 (hin 1 (Nat.le_of_ble_eq_true rfl)).1 (hin 1 (Nat.le_of_ble_eq_true rfl)).2 ?_
                  refine g_aloadT cx dL_law_310 rfl ?_
                  refine g_iload_n cx dL_law_311 rfl ?_
                  refine g_iconst cx dL_law_312 ic_2 ?_
                  refine g_iadd cx dL_law_313 ?_
                  refine g_sld cx hX dL_law_314 (hin 2 (Nat.le_of_ble_eq_true rfl)).1 (hin 2 (Nat.le_of_ble_eq_true rfl)).2 ?_
                  refine g_if_eq cx (tgt := 322) dL_law_315 rfl (fun _ => ?_) (fun q => absurd c7 q)
                  refine g_iconst cx dL_law_322 ic_0 ?_
                  refine g_aloadT cx dL_law_323 rfl ?_
                  refine g_iload_n cx dL_law_324 rfl ?_
                  refine g_iconst cx dL_law_325 ic_3 ?_
                  refine g_iadd cx dL_law_326 ?_
                  refine g_sld cx hX dL_law_327 (hin 3 (Nat.le_of_ble_eq_true rfl)).1 (hin 3 (Nat.le_of_ble_eq_true rfl)).2 ?_
                  refine g_cL cx hX [.int (a 1), .int 0, .int (a 3)] [.int r] (e_X10_octet hP h) mt_X10_octet ml_L_41 rfl rfl rfl dL_law_328 rfl rfl (Nat.le_of_ble_eq_true rfl) (Nat.le_of_ble_eq_true rfl) (Nat.le_of_ble_eq_true rfl) (Nat.le_of_ble_eq_true rfl) (Nat.le_of_ble_eq_true rfl) (fun r2 I3 P3 hP h => ?_)
                  refine g_icmp_eq cx (tgt := 877) dL_law_331 rfl (fun _ => ?_) (fun q => absurd h.1 q)
                  exact hnext I3 P3 hP h.2
                · skip
                  refine g_iconst cx dL_law_291 ic_1 ?_
                  refine g_goto cx (tgt := 296) dL_law_292 rfl ?_
                  refine g_aloadT cx dL_law_296 rfl ?_
                  refine g_iload_n cx dL_law_297 rfl ?_
                  refine g_iconst cx dL_law_298 ic_3 ?_
                  refine g_iadd cx dL_law_299 ?_
                  refine g_sld cx hX dL_law_300 (hin 3 (Nat.le_of_ble_eq_true rfl)).1 (hin 3 (Nat.le_of_ble_eq_true rfl)).2 ?_
                  have h := hst.2.2.2.2.2.1 c6
                  unfold ok_octet at h
                  simp only [if_neg c7] at h
                  refine g_cL cx hX [.int (a 1), .int 1, .int (a 3)] [] (e_X9_octet hP h) mt_X9_octet ml_L_37 rfl rfl rfl dL_law_301 rfl rfl (Nat.le_of_ble_eq_true rfl) (Nat.le_of_ble_eq_true rfl) (Nat.le_of_ble_eq_true rfl) (Nat.le_of_ble_eq_true rfl) (Nat.le_of_ble_eq_true rfl) (fun r I2 P2 hP h => ?_)
                  refine g_aload_n cx dL_law_304 rfl ?_
                  refine g_aloadT cx dL_law_305 rfl ?_
                  refine g_iload_n cx dL_law_306 rfl ?_
                  refine g_iconst cx dL_law_307 ic_1 ?_
                  refine g_iadd cx dL_law_308 ?_
                  refine g_sld cx hX dL_law_309 (hin 1 (Nat.le_of_ble_eq_true rfl)).1 (hin 1 (Nat.le_of_ble_eq_true rfl)).2 ?_
                  refine g_aloadT cx dL_law_310 rfl ?_
                  refine g_iload_n cx dL_law_311 rfl ?_
                  refine g_iconst cx dL_law_312 ic_2 ?_
                  refine g_iadd cx dL_law_313 ?_
                  refine g_sld cx hX dL_law_314 (hin 2 (Nat.le_of_ble_eq_true rfl)).1 (hin 2 (Nat.le_of_ble_eq_true rfl)).2 ?_
                  refine g_if_eq cx (tgt := 322) dL_law_315 rfl (fun q => absurd q c7) (fun _ => ?_)
                  refine g_iconst cx dL_law_318 ic_1 ?_
                  refine g_goto cx (tgt := 323) dL_law_319 rfl ?_
                  refine g_aloadT cx dL_law_323 rfl ?_
                  refine g_iload_n cx dL_law_324 rfl ?_
                  refine g_iconst cx dL_law_325 ic_3 ?_
                  refine g_iadd cx dL_law_326 ?_
                  refine g_sld cx hX dL_law_327 (hin 3 (Nat.le_of_ble_eq_true rfl)).1 (hin 3 (Nat.le_of_ble_eq_true rfl)).2 ?_
                  refine g_cL cx hX [.int (a 1), .int 1, .int (a 3)] [.int r] (e_X10_octet hP h) mt_X10_octet ml_L_41 rfl rfl rfl dL_law_328 rfl rfl (Nat.le_of_ble_eq_true rfl) (Nat.le_of_ble_eq_true rfl) (Nat.le_of_ble_eq_true rfl) (Nat.le_of_ble_eq_true rfl) (Nat.le_of_ble_eq_true rfl) (fun r2 I3 P3 hP h => ?_)
                  refine g_icmp_eq cx (tgt := 877) dL_law_331 rfl (fun _ => ?_) (fun q => absurd h.1 q)
                  exact hnext I3 P3 hP h.2
              · skip
                by_cases c8 : ((a 0) &&& 31) = 6
                · skip
                  refine g_tabIn cx (tgt := 336) (off := 303) dL_law_33 (by rw [c8]; decide) (by rw [c8]; decide) (by rw [c8]; rfl) rfl ?_
                  refine g_aload_n cx dL_law_336 rfl ?_
                  refine g_aloadT cx dL_law_337 rfl ?_
                  refine g_iload_n cx dL_law_338 rfl ?_
                  refine g_iconst cx dL_law_339 ic_1 ?_
                  refine g_iadd cx dL_law_340 ?_
                  refine g_sld cx hX dL_law_341 (hin 1 (Nat.le_of_ble_eq_true rfl)).1 (hin 1 (Nat.le_of_ble_eq_true rfl)).2 ?_
                  refine g_aloadT cx dL_law_342 rfl ?_
                  refine g_iload_n cx dL_law_343 rfl ?_
                  refine g_iconst cx dL_law_344 ic_2 ?_
                  refine g_iadd cx dL_law_345 ?_
                  refine g_sld cx hX dL_law_346 (hin 2 (Nat.le_of_ble_eq_true rfl)).1 (hin 2 (Nat.le_of_ble_eq_true rfl)).2 ?_
                  refine g_if_eq cx (tgt := 354) dL_law_347 rfl (fun c9 => ?_) (fun c9 => ?_)
                  · skip
                    refine g_iconst cx dL_law_354 ic_0 ?_
                    refine g_aloadT cx dL_law_355 rfl ?_
                    refine g_iload_n cx dL_law_356 rfl ?_
                    refine g_iconst cx dL_law_357 ic_3 ?_
                    refine g_iadd cx dL_law_358 ?_
                    refine g_sld cx hX dL_law_359 (hin 3 (Nat.le_of_ble_eq_true rfl)).1 (hin 3 (Nat.le_of_ble_eq_true rfl)).2 ?_
                    refine g_aloadT cx dL_law_360 rfl ?_
                    refine g_iload_n cx dL_law_361 rfl ?_
                    refine g_iconst cx dL_law_362 ic_4 ?_
                    refine g_iadd cx dL_law_363 ?_
                    refine g_sld cx hX dL_law_364 (hin 4 (Nat.le_of_ble_eq_true rfl)).1 (hin 4 (Nat.le_of_ble_eq_true rfl)).2 ?_
                    have h := hst.2.2.2.2.2.2.1 c8
                    unfold ok_handler at h
                    simp only [if_pos c9] at h
                    refine g_cL cx hX [.int (a 1), .int 0, .int (a 3), .int (a 4)] [] (e_X9_handler hP h) mt_X9_handler ml_L_42 rfl rfl rfl dL_law_365 rfl rfl (Nat.le_of_ble_eq_true rfl) (Nat.le_of_ble_eq_true rfl) (Nat.le_of_ble_eq_true rfl) (Nat.le_of_ble_eq_true rfl) (Nat.le_of_ble_eq_true rfl) (fun r I2 P2 hP h => ?_)
                    refine g_aload_n cx dL_law_368 rfl ?_
                    refine g_aloadT cx dL_law_369 rfl ?_
                    refine g_iload_n cx dL_law_370 rfl ?_
                    refine g_iconst cx dL_law_371 ic_1 ?_
                    refine g_iadd cx dL_law_372 ?_
                    refine g_sld cx hX dL_law_373 (hin 1 (Nat.le_of_ble_eq_true rfl)).1 (hin 1 (Nat.le_of_ble_eq_true rfl)).2 ?_
                    refine g_aloadT cx dL_law_374 rfl ?_
                    refine g_iload_n cx dL_law_375 rfl ?_
                    refine g_iconst cx dL_law_376 ic_2 ?_
                    refine g_iadd cx dL_law_377 ?_
                    refine g_sld cx hX dL_law_378 (hin 2 (Nat.le_of_ble_eq_true rfl)).1 (hin 2 (Nat.le_of_ble_eq_true rfl)).2 ?_
                    refine g_if_eq cx (tgt := 386) dL_law_379 rfl (fun _ => ?_) (fun q => absurd c9 q)
                    refine g_iconst cx dL_law_386 ic_0 ?_
                    refine g_aloadT cx dL_law_387 rfl ?_
                    refine g_iload_n cx dL_law_388 rfl ?_
                    refine g_iconst cx dL_law_389 ic_3 ?_
                    refine g_iadd cx dL_law_390 ?_
                    refine g_sld cx hX dL_law_391 (hin 3 (Nat.le_of_ble_eq_true rfl)).1 (hin 3 (Nat.le_of_ble_eq_true rfl)).2 ?_
                    refine g_aloadT cx dL_law_392 rfl ?_
                    refine g_iload_n cx dL_law_393 rfl ?_
                    refine g_iconst cx dL_law_394 ic_4 ?_
                    refine g_iadd cx dL_law_395 ?_
                    refine g_sld cx hX dL_law_396 (hin 4 (Nat.le_of_ble_eq_true rfl)).1 (hin 4 (Nat.le_of_ble_eq_true rfl)).2 ?_
                    refine g_cL cx hX [.int (a 1), .int 0, .int (a 3), .int (a 4)] [.int r] (e_X10_handler hP h) mt_X10_handler ml_L_46 rfl rfl rfl dL_law_397 rfl rfl (Nat.le_of_ble_eq_true rfl) (Nat.le_of_ble_eq_true rfl) (Nat.le_of_ble_eq_true rfl) (Nat.le_of_ble_eq_true rfl) (Nat.le_of_ble_eq_true rfl) (fun r2 I3 P3 hP h => ?_)
                    refine g_icmp_eq cx (tgt := 877) dL_law_400 rfl (fun _ => ?_) (fun q => absurd h.1 q)
                    exact hnext I3 P3 hP h.2
                  · skip
                    refine g_iconst cx dL_law_350 ic_1 ?_
                    refine g_goto cx (tgt := 355) dL_law_351 rfl ?_
                    refine g_aloadT cx dL_law_355 rfl ?_
                    refine g_iload_n cx dL_law_356 rfl ?_
                    refine g_iconst cx dL_law_357 ic_3 ?_
                    refine g_iadd cx dL_law_358 ?_
                    refine g_sld cx hX dL_law_359 (hin 3 (Nat.le_of_ble_eq_true rfl)).1 (hin 3 (Nat.le_of_ble_eq_true rfl)).2 ?_
                    refine g_aloadT cx dL_law_360 rfl ?_
                    refine g_iload_n cx dL_law_361 rfl ?_
                    refine g_iconst cx dL_law_362 ic_4 ?_
                    refine g_iadd cx dL_law_363 ?_
                    refine g_sld cx hX dL_law_364 (hin 4 (Nat.le_of_ble_eq_true rfl)).1 (hin 4 (Nat.le_of_ble_eq_true rfl)).2 ?_
                    have h := hst.2.2.2.2.2.2.1 c8
                    unfold ok_handler at h
                    simp only [if_neg c9] at h
                    refine g_cL cx hX [.int (a 1), .int 1, .int (a 3), .int (a 4)] [] (e_X9_handler hP h) mt_X9_handler ml_L_42 rfl rfl rfl dL_law_365 rfl rfl (Nat.le_of_ble_eq_true rfl) (Nat.le_of_ble_eq_true rfl) (Nat.le_of_ble_eq_true rfl) (Nat.le_of_ble_eq_true rfl) (Nat.le_of_ble_eq_true rfl) (fun r I2 P2 hP h => ?_)
                    refine g_aload_n cx dL_law_368 rfl ?_
                    refine g_aloadT cx dL_law_369 rfl ?_
                    refine g_iload_n cx dL_law_370 rfl ?_
                    refine g_iconst cx dL_law_371 ic_1 ?_
                    refine g_iadd cx dL_law_372 ?_
                    refine g_sld cx hX dL_law_373 (hin 1 (Nat.le_of_ble_eq_true rfl)).1 (hin 1 (Nat.le_of_ble_eq_true rfl)).2 ?_
                    refine g_aloadT cx dL_law_374 rfl ?_
                    refine g_iload_n cx dL_law_375 rfl ?_
                    refine g_iconst cx dL_law_376 ic_2 ?_
                    refine g_iadd cx dL_law_377 ?_
                    refine g_sld cx hX dL_law_378 (hin 2 (Nat.le_of_ble_eq_true rfl)).1 (hin 2 (Nat.le_of_ble_eq_true rfl)).2 ?_
                    refine g_if_eq cx (tgt := 386) dL_law_379 rfl (fun q => absurd q c9) (fun _ => ?_)
                    refine g_iconst cx dL_law_382 ic_1 ?_
                    refine g_goto cx (tgt := 387) dL_law_383 rfl ?_
                    refine g_aloadT cx dL_law_387 rfl ?_
                    refine g_iload_n cx dL_law_388 rfl ?_
                    refine g_iconst cx dL_law_389 ic_3 ?_
                    refine g_iadd cx dL_law_390 ?_
                    refine g_sld cx hX dL_law_391 (hin 3 (Nat.le_of_ble_eq_true rfl)).1 (hin 3 (Nat.le_of_ble_eq_true rfl)).2 ?_
                    refine g_aloadT cx dL_law_392 rfl ?_
                    refine g_iload_n cx dL_law_393 rfl ?_
                    refine g_iconst cx dL_law_394 ic_4 ?_
                    refine g_iadd cx dL_law_395 ?_
                    refine g_sld cx hX dL_law_396 (hin 4 (Nat.le_of_ble_eq_true rfl)).1 (hin 4 (Nat.le_of_ble_eq_true rfl)).2 ?_
                    refine g_cL cx hX [.int (a 1), .int 1, .int (a 3), .int (a 4)] [.int r] (e_X10_handler hP h) mt_X10_handler ml_L_46 rfl rfl rfl dL_law_397 rfl rfl (Nat.le_of_ble_eq_true rfl) (Nat.le_of_ble_eq_true rfl) (Nat.le_of_ble_eq_true rfl) (Nat.le_of_ble_eq_true rfl) (Nat.le_of_ble_eq_true rfl) (fun r2 I3 P3 hP h => ?_)
                    refine g_icmp_eq cx (tgt := 877) dL_law_400 rfl (fun _ => ?_) (fun q => absurd h.1 q)
                    exact hnext I3 P3 hP h.2
                · skip
                  by_cases c10 : ((a 0) &&& 31) = 7
                  · skip
                    refine g_tabIn cx (tgt := 405) (off := 372) dL_law_33 (by rw [c10]; decide) (by rw [c10]; decide) (by rw [c10]; rfl) rfl ?_
                    refine g_aload_n cx dL_law_405 rfl ?_
                    refine g_aloadT cx dL_law_406 rfl ?_
                    refine g_iload_n cx dL_law_407 rfl ?_
                    refine g_iconst cx dL_law_408 ic_1 ?_
                    refine g_iadd cx dL_law_409 ?_
                    refine g_sld cx hX dL_law_410 (hin 1 (Nat.le_of_ble_eq_true rfl)).1 (hin 1 (Nat.le_of_ble_eq_true rfl)).2 ?_
                    refine g_aloadT cx dL_law_411 rfl ?_
                    refine g_iload_n cx dL_law_412 rfl ?_
                    refine g_iconst cx dL_law_413 ic_2 ?_
                    refine g_iadd cx dL_law_414 ?_
                    refine g_sld cx hX dL_law_415 (hin 2 (Nat.le_of_ble_eq_true rfl)).1 (hin 2 (Nat.le_of_ble_eq_true rfl)).2 ?_
                    refine g_aloadT cx dL_law_416 rfl ?_
                    refine g_iload_n cx dL_law_417 rfl ?_
                    refine g_iconst cx dL_law_418 ic_3 ?_
                    refine g_iadd cx dL_law_419 ?_
                    refine g_sld cx hX dL_law_420 (hin 3 (Nat.le_of_ble_eq_true rfl)).1 (hin 3 (Nat.le_of_ble_eq_true rfl)).2 ?_
                    have h := hst.2.2.2.2.2.2.2.1 c10
                    unfold ok_type at h
                    refine g_cL cx hX [.int (a 1), .int (a 2), .int (a 3)] [] (e_X9_type hP h) mt_X9_type ml_L_47 rfl rfl rfl dL_law_421 rfl rfl (Nat.le_of_ble_eq_true rfl) (Nat.le_of_ble_eq_true rfl) (Nat.le_of_ble_eq_true rfl) (Nat.le_of_ble_eq_true rfl) (Nat.le_of_ble_eq_true rfl) (fun r I2 P2 hP h => ?_)
                    refine g_aload_n cx dL_law_424 rfl ?_
                    refine g_aloadT cx dL_law_425 rfl ?_
                    refine g_iload_n cx dL_law_426 rfl ?_
                    refine g_iconst cx dL_law_427 ic_1 ?_
                    refine g_iadd cx dL_law_428 ?_
                    refine g_sld cx hX dL_law_429 (hin 1 (Nat.le_of_ble_eq_true rfl)).1 (hin 1 (Nat.le_of_ble_eq_true rfl)).2 ?_
                    refine g_aloadT cx dL_law_430 rfl ?_
                    refine g_iload_n cx dL_law_431 rfl ?_
                    refine g_iconst cx dL_law_432 ic_2 ?_
                    refine g_iadd cx dL_law_433 ?_
                    refine g_sld cx hX dL_law_434 (hin 2 (Nat.le_of_ble_eq_true rfl)).1 (hin 2 (Nat.le_of_ble_eq_true rfl)).2 ?_
                    refine g_aloadT cx dL_law_435 rfl ?_
                    refine g_iload_n cx dL_law_436 rfl ?_
                    refine g_iconst cx dL_law_437 ic_3 ?_
                    refine g_iadd cx dL_law_438 ?_
                    refine g_sld cx hX dL_law_439 (hin 3 (Nat.le_of_ble_eq_true rfl)).1 (hin 3 (Nat.le_of_ble_eq_true rfl)).2 ?_
                    refine g_cL cx hX [.int (a 1), .int (a 2), .int (a 3)] [.int r] (e_X10_type hP h) mt_X10_type ml_L_51 rfl rfl rfl dL_law_440 rfl rfl (Nat.le_of_ble_eq_true rfl) (Nat.le_of_ble_eq_true rfl) (Nat.le_of_ble_eq_true rfl) (Nat.le_of_ble_eq_true rfl) (Nat.le_of_ble_eq_true rfl) (fun r2 I3 P3 hP h => ?_)
                    refine g_icmp_eq cx (tgt := 877) dL_law_443 rfl (fun _ => ?_) (fun q => absurd h.1 q)
                    exact hnext I3 P3 hP h.2
                  · skip
                    by_cases c11 : ((a 0) &&& 31) = 8
                    · skip
                      refine g_tabIn cx (tgt := 448) (off := 415) dL_law_33 (by rw [c11]; decide) (by rw [c11]; decide) (by rw [c11]; rfl) rfl ?_
                      refine g_aload_n cx dL_law_448 rfl ?_
                      refine g_aloadT cx dL_law_449 rfl ?_
                      refine g_iload_n cx dL_law_450 rfl ?_
                      refine g_iconst cx dL_law_451 ic_1 ?_
                      refine g_iadd cx dL_law_452 ?_
                      refine g_sld cx hX dL_law_453 (hin 1 (Nat.le_of_ble_eq_true rfl)).1 (hin 1 (Nat.le_of_ble_eq_true rfl)).2 ?_
                      refine g_aloadT cx dL_law_454 rfl ?_
                      refine g_iload_n cx dL_law_455 rfl ?_
                      refine g_iconst cx dL_law_456 ic_2 ?_
                      refine g_iadd cx dL_law_457 ?_
                      refine g_sld cx hX dL_law_458 (hin 2 (Nat.le_of_ble_eq_true rfl)).1 (hin 2 (Nat.le_of_ble_eq_true rfl)).2 ?_
                      have h := hst.2.2.2.2.2.2.2.2.1 c11
                      unfold ok_moved at h
                      refine g_cL cx hX [.int (a 1), .int (a 2)] [] (e_X9_moved hP h) mt_X9_moved ml_L_52 rfl rfl rfl dL_law_459 rfl rfl (Nat.le_of_ble_eq_true rfl) (Nat.le_of_ble_eq_true rfl) (Nat.le_of_ble_eq_true rfl) (Nat.le_of_ble_eq_true rfl) (Nat.le_of_ble_eq_true rfl) (fun r I2 P2 hP h => ?_)
                      refine g_aload_n cx dL_law_462 rfl ?_
                      refine g_aloadT cx dL_law_463 rfl ?_
                      refine g_iload_n cx dL_law_464 rfl ?_
                      refine g_iconst cx dL_law_465 ic_1 ?_
                      refine g_iadd cx dL_law_466 ?_
                      refine g_sld cx hX dL_law_467 (hin 1 (Nat.le_of_ble_eq_true rfl)).1 (hin 1 (Nat.le_of_ble_eq_true rfl)).2 ?_
                      refine g_aloadT cx dL_law_468 rfl ?_
                      refine g_iload_n cx dL_law_469 rfl ?_
                      refine g_iconst cx dL_law_470 ic_2 ?_
                      refine g_iadd cx dL_law_471 ?_
                      refine g_sld cx hX dL_law_472 (hin 2 (Nat.le_of_ble_eq_true rfl)).1 (hin 2 (Nat.le_of_ble_eq_true rfl)).2 ?_
                      refine g_cL cx hX [.int (a 1), .int (a 2)] [.int r] (e_X10_moved hP h) mt_X10_moved ml_L_55 rfl rfl rfl dL_law_473 rfl rfl (Nat.le_of_ble_eq_true rfl) (Nat.le_of_ble_eq_true rfl) (Nat.le_of_ble_eq_true rfl) (Nat.le_of_ble_eq_true rfl) (Nat.le_of_ble_eq_true rfl) (fun r2 I3 P3 hP h => ?_)
                      refine g_icmp_eq cx (tgt := 877) dL_law_476 rfl (fun _ => ?_) (fun q => absurd h.1 q)
                      exact hnext I3 P3 hP h.2
                    · skip
                      by_cases c12 : ((a 0) &&& 31) = 9
                      · skip
                        refine g_tabIn cx (tgt := 481) (off := 448) dL_law_33 (by rw [c12]; decide) (by rw [c12]; decide) (by rw [c12]; rfl) rfl ?_
                        refine g_aload_n cx dL_law_481 rfl ?_
                        refine g_aloadT cx dL_law_482 rfl ?_
                        refine g_iload_n cx dL_law_483 rfl ?_
                        refine g_iconst cx dL_law_484 ic_1 ?_
                        refine g_iadd cx dL_law_485 ?_
                        refine g_sld cx hX dL_law_486 (hin 1 (Nat.le_of_ble_eq_true rfl)).1 (hin 1 (Nat.le_of_ble_eq_true rfl)).2 ?_
                        refine g_aloadT cx dL_law_487 rfl ?_
                        refine g_iload_n cx dL_law_488 rfl ?_
                        refine g_iconst cx dL_law_489 ic_2 ?_
                        refine g_iadd cx dL_law_490 ?_
                        refine g_sld cx hX dL_law_491 (hin 2 (Nat.le_of_ble_eq_true rfl)).1 (hin 2 (Nat.le_of_ble_eq_true rfl)).2 ?_
                        refine g_aloadT cx dL_law_492 rfl ?_
                        refine g_iload_n cx dL_law_493 rfl ?_
                        refine g_iconst cx dL_law_494 ic_3 ?_
                        refine g_iadd cx dL_law_495 ?_
                        refine g_sld cx hX dL_law_496 (hin 3 (Nat.le_of_ble_eq_true rfl)).1 (hin 3 (Nat.le_of_ble_eq_true rfl)).2 ?_
                        refine g_aloadT cx dL_law_497 rfl ?_
                        refine g_iload_n cx dL_law_498 rfl ?_
                        refine g_iconst cx dL_law_499 ic_4 ?_
                        refine g_iadd cx dL_law_500 ?_
                        refine g_sld cx hX dL_law_501 (hin 4 (Nat.le_of_ble_eq_true rfl)).1 (hin 4 (Nat.le_of_ble_eq_true rfl)).2 ?_
                        refine g_aloadT cx dL_law_502 rfl ?_
                        refine g_iload_n cx dL_law_503 rfl ?_
                        refine g_iconst cx dL_law_504 ic_5 ?_
                        refine g_iadd cx dL_law_505 ?_
                        refine g_sld cx hX dL_law_506 (hin 5 (Nat.le_of_ble_eq_true rfl)).1 (hin 5 (Nat.le_of_ble_eq_true rfl)).2 ?_
                        have h := hst.2.2.2.2.2.2.2.2.2.1 c12
                        unfold ok_probe at h
                        refine g_cL cx hX [.int (a 1), .int (a 2), .int (a 3), .int (a 4), .int (a 5)] [] (e_X9_probe hP h) mt_X9_probe ml_L_56 rfl rfl rfl dL_law_507 rfl rfl (Nat.le_of_ble_eq_true rfl) (Nat.le_of_ble_eq_true rfl) (Nat.le_of_ble_eq_true rfl) (Nat.le_of_ble_eq_true rfl) (Nat.le_of_ble_eq_true rfl) (fun r I2 P2 hP h => ?_)
                        refine g_aload_n cx dL_law_510 rfl ?_
                        refine g_aloadT cx dL_law_511 rfl ?_
                        refine g_iload_n cx dL_law_512 rfl ?_
                        refine g_iconst cx dL_law_513 ic_1 ?_
                        refine g_iadd cx dL_law_514 ?_
                        refine g_sld cx hX dL_law_515 (hin 1 (Nat.le_of_ble_eq_true rfl)).1 (hin 1 (Nat.le_of_ble_eq_true rfl)).2 ?_
                        refine g_aloadT cx dL_law_516 rfl ?_
                        refine g_iload_n cx dL_law_517 rfl ?_
                        refine g_iconst cx dL_law_518 ic_2 ?_
                        refine g_iadd cx dL_law_519 ?_
                        refine g_sld cx hX dL_law_520 (hin 2 (Nat.le_of_ble_eq_true rfl)).1 (hin 2 (Nat.le_of_ble_eq_true rfl)).2 ?_
                        refine g_aloadT cx dL_law_521 rfl ?_
                        refine g_iload_n cx dL_law_522 rfl ?_
                        refine g_iconst cx dL_law_523 ic_3 ?_
                        refine g_iadd cx dL_law_524 ?_
                        refine g_sld cx hX dL_law_525 (hin 3 (Nat.le_of_ble_eq_true rfl)).1 (hin 3 (Nat.le_of_ble_eq_true rfl)).2 ?_
                        refine g_aloadT cx dL_law_526 rfl ?_
                        refine g_iload_n cx dL_law_527 rfl ?_
                        refine g_iconst cx dL_law_528 ic_4 ?_
                        refine g_iadd cx dL_law_529 ?_
                        refine g_sld cx hX dL_law_530 (hin 4 (Nat.le_of_ble_eq_true rfl)).1 (hin 4 (Nat.le_of_ble_eq_true rfl)).2 ?_
                        refine g_aloadT cx dL_law_531 rfl ?_
                        refine g_iload_n cx dL_law_532 rfl ?_
                        refine g_iconst cx dL_law_533 ic_5 ?_
                        refine g_iadd cx dL_law_534 ?_
                        refine g_sld cx hX dL_law_535 (hin 5 (Nat.le_of_ble_eq_true rfl)).1 (hin 5 (Nat.le_of_ble_eq_true rfl)).2 ?_
                        refine g_cL cx hX [.int (a 1), .int (a 2), .int (a 3), .int (a 4), .int (a 5)] [.int r] (e_X10_probe hP h) mt_X10_probe ml_L_59 rfl rfl rfl dL_law_536 rfl rfl (Nat.le_of_ble_eq_true rfl) (Nat.le_of_ble_eq_true rfl) (Nat.le_of_ble_eq_true rfl) (Nat.le_of_ble_eq_true rfl) (Nat.le_of_ble_eq_true rfl) (fun r2 I3 P3 hP h => ?_)
                        refine g_icmp_eq cx (tgt := 877) dL_law_539 rfl (fun _ => ?_) (fun q => absurd h.1 q)
                        exact hnext I3 P3 hP h.2
                      · skip
                        by_cases c13 : ((a 0) &&& 31) = 10
                        · skip
                          refine g_tabIn cx (tgt := 544) (off := 511) dL_law_33 (by rw [c13]; decide) (by rw [c13]; decide) (by rw [c13]; rfl) rfl ?_
                          refine g_aload_n cx dL_law_544 rfl ?_
                          have h := hst.2.2.2.2.2.2.2.2.2.2.1 c13
                          unfold ok_clear at h
                          refine g_cL cx hX [] [] (e_X9_clear hP h) mt_X9_clear ml_L_60 rfl rfl rfl dL_law_545 rfl rfl (Nat.le_of_ble_eq_true rfl) (Nat.le_of_ble_eq_true rfl) (Nat.le_of_ble_eq_true rfl) (Nat.le_of_ble_eq_true rfl) (Nat.le_of_ble_eq_true rfl) (fun r I2 P2 hP h => ?_)
                          refine g_aload_n cx dL_law_548 rfl ?_
                          refine g_cL cx hX [] [.int r] (e_X10_clear hP h) mt_X10_clear ml_L_63 rfl rfl rfl dL_law_549 rfl rfl (Nat.le_of_ble_eq_true rfl) (Nat.le_of_ble_eq_true rfl) (Nat.le_of_ble_eq_true rfl) (Nat.le_of_ble_eq_true rfl) (Nat.le_of_ble_eq_true rfl) (fun r2 I3 P3 hP h => ?_)
                          refine g_icmp_eq cx (tgt := 877) dL_law_552 rfl (fun _ => ?_) (fun q => absurd h.1 q)
                          exact hnext I3 P3 hP h.2
                        · skip
                          by_cases c14 : ((a 0) &&& 31) = 11
                          · skip
                            refine g_tabIn cx (tgt := 557) (off := 524) dL_law_33 (by rw [c14]; decide) (by rw [c14]; decide) (by rw [c14]; rfl) rfl ?_
                            refine g_aload_n cx dL_law_557 rfl ?_
                            refine g_aloadT cx dL_law_558 rfl ?_
                            refine g_iload_n cx dL_law_559 rfl ?_
                            refine g_iconst cx dL_law_560 ic_1 ?_
                            refine g_iadd cx dL_law_561 ?_
                            refine g_sld cx hX dL_law_562 (hin 1 (Nat.le_of_ble_eq_true rfl)).1 (hin 1 (Nat.le_of_ble_eq_true rfl)).2 ?_
                            have h := hst.2.2.2.2.2.2.2.2.2.2.2.1 c14
                            unfold ok_weave at h
                            refine g_cL cx hX [.int (a 1)] [] (e_X9_weave hP h) mt_X9_weave ml_L_64 rfl rfl rfl dL_law_563 rfl rfl (Nat.le_of_ble_eq_true rfl) (Nat.le_of_ble_eq_true rfl) (Nat.le_of_ble_eq_true rfl) (Nat.le_of_ble_eq_true rfl) (Nat.le_of_ble_eq_true rfl) (fun r I2 P2 hP h => ?_)
                            refine g_aload_n cx dL_law_566 rfl ?_
                            refine g_aloadT cx dL_law_567 rfl ?_
                            refine g_iload_n cx dL_law_568 rfl ?_
                            refine g_iconst cx dL_law_569 ic_1 ?_
                            refine g_iadd cx dL_law_570 ?_
                            refine g_sld cx hX dL_law_571 (hin 1 (Nat.le_of_ble_eq_true rfl)).1 (hin 1 (Nat.le_of_ble_eq_true rfl)).2 ?_
                            refine g_cL cx hX [.int (a 1)] [.int r] (e_X10_weave hP h) mt_X10_weave ml_L_67 rfl rfl rfl dL_law_572 rfl rfl (Nat.le_of_ble_eq_true rfl) (Nat.le_of_ble_eq_true rfl) (Nat.le_of_ble_eq_true rfl) (Nat.le_of_ble_eq_true rfl) (Nat.le_of_ble_eq_true rfl) (fun r2 I3 P3 hP h => ?_)
                            refine g_icmp_eq cx (tgt := 877) dL_law_575 rfl (fun _ => ?_) (fun q => absurd h.1 q)
                            exact hnext I3 P3 hP h.2
                          · skip
                            by_cases c15 : ((a 0) &&& 31) = 12
                            · skip
                              refine g_tabIn cx (tgt := 580) (off := 547) dL_law_33 (by rw [c15]; decide) (by rw [c15]; decide) (by rw [c15]; rfl) rfl ?_
                              refine g_aload_n cx dL_law_580 rfl ?_
                              refine g_aloadT cx dL_law_581 rfl ?_
                              refine g_iload_n cx dL_law_582 rfl ?_
                              refine g_iconst cx dL_law_583 ic_1 ?_
                              refine g_iadd cx dL_law_584 ?_
                              refine g_sld cx hX dL_law_585 (hin 1 (Nat.le_of_ble_eq_true rfl)).1 (hin 1 (Nat.le_of_ble_eq_true rfl)).2 ?_
                              have h := hst.2.2.2.2.2.2.2.2.2.2.2.2.1 c15
                              unfold ok_unweave at h
                              refine g_cL cx hX [.int (a 1)] [] (e_X9_unweave hP h) mt_X9_unweave ml_L_68 rfl rfl rfl dL_law_586 rfl rfl (Nat.le_of_ble_eq_true rfl) (Nat.le_of_ble_eq_true rfl) (Nat.le_of_ble_eq_true rfl) (Nat.le_of_ble_eq_true rfl) (Nat.le_of_ble_eq_true rfl) (fun r I2 P2 hP h => ?_)
                              refine g_aload_n cx dL_law_589 rfl ?_
                              refine g_aloadT cx dL_law_590 rfl ?_
                              refine g_iload_n cx dL_law_591 rfl ?_
                              refine g_iconst cx dL_law_592 ic_1 ?_
                              refine g_iadd cx dL_law_593 ?_
                              refine g_sld cx hX dL_law_594 (hin 1 (Nat.le_of_ble_eq_true rfl)).1 (hin 1 (Nat.le_of_ble_eq_true rfl)).2 ?_
                              refine g_cL cx hX [.int (a 1)] [.int r] (e_X10_unweave hP h) mt_X10_unweave ml_L_71 rfl rfl rfl dL_law_595 rfl rfl (Nat.le_of_ble_eq_true rfl) (Nat.le_of_ble_eq_true rfl) (Nat.le_of_ble_eq_true rfl) (Nat.le_of_ble_eq_true rfl) (Nat.le_of_ble_eq_true rfl) (fun r2 I3 P3 hP h => ?_)
                              refine g_icmp_eq cx (tgt := 877) dL_law_598 rfl (fun _ => ?_) (fun q => absurd h.1 q)
                              exact hnext I3 P3 hP h.2
                            · skip
                              by_cases c16 : ((a 0) &&& 31) = 13
                              · skip
                                refine g_tabIn cx (tgt := 603) (off := 570) dL_law_33 (by rw [c16]; decide) (by rw [c16]; decide) (by rw [c16]; rfl) rfl ?_
                                refine g_aload_n cx dL_law_603 rfl ?_
                                refine g_aloadT cx dL_law_604 rfl ?_
                                refine g_iload_n cx dL_law_605 rfl ?_
                                refine g_iconst cx dL_law_606 ic_1 ?_
                                refine g_iadd cx dL_law_607 ?_
                                refine g_sld cx hX dL_law_608 (hin 1 (Nat.le_of_ble_eq_true rfl)).1 (hin 1 (Nat.le_of_ble_eq_true rfl)).2 ?_
                                refine g_aloadT cx dL_law_609 rfl ?_
                                refine g_iload_n cx dL_law_610 rfl ?_
                                refine g_iconst cx dL_law_611 ic_2 ?_
                                refine g_iadd cx dL_law_612 ?_
                                refine g_sld cx hX dL_law_613 (hin 2 (Nat.le_of_ble_eq_true rfl)).1 (hin 2 (Nat.le_of_ble_eq_true rfl)).2 ?_
                                refine g_aloadT cx dL_law_614 rfl ?_
                                refine g_iload_n cx dL_law_615 rfl ?_
                                refine g_iconst cx dL_law_616 ic_3 ?_
                                refine g_iadd cx dL_law_617 ?_
                                refine g_sld cx hX dL_law_618 (hin 3 (Nat.le_of_ble_eq_true rfl)).1 (hin 3 (Nat.le_of_ble_eq_true rfl)).2 ?_
                                refine g_aloadT cx dL_law_619 rfl ?_
                                refine g_iload_n cx dL_law_620 rfl ?_
                                refine g_iconst cx dL_law_621 ic_4 ?_
                                refine g_iadd cx dL_law_622 ?_
                                refine g_sld cx hX dL_law_623 (hin 4 (Nat.le_of_ble_eq_true rfl)).1 (hin 4 (Nat.le_of_ble_eq_true rfl)).2 ?_
                                refine g_aloadT cx dL_law_624 rfl ?_
                                refine g_iload_n cx dL_law_625 rfl ?_
                                refine g_iconst cx dL_law_626 ic_5 ?_
                                refine g_iadd cx dL_law_627 ?_
                                refine g_sld cx hX dL_law_628 (hin 5 (Nat.le_of_ble_eq_true rfl)).1 (hin 5 (Nat.le_of_ble_eq_true rfl)).2 ?_
                                have h := hst.2.2.2.2.2.2.2.2.2.2.2.2.2.1 c16
                                unfold ok_run at h
                                refine g_cL cx hX [.int (a 1), .int (a 2), .int (a 3), .int (a 4), .int (a 5)] [] (e_X9_run hP h) mt_X9_run ml_L_72 rfl rfl rfl dL_law_629 rfl rfl (Nat.le_of_ble_eq_true rfl) (Nat.le_of_ble_eq_true rfl) (Nat.le_of_ble_eq_true rfl) (Nat.le_of_ble_eq_true rfl) (Nat.le_of_ble_eq_true rfl) (fun r I2 P2 hP h => ?_)
                                refine g_aload_n cx dL_law_632 rfl ?_
                                refine g_aloadT cx dL_law_633 rfl ?_
                                refine g_iload_n cx dL_law_634 rfl ?_
                                refine g_iconst cx dL_law_635 ic_1 ?_
                                refine g_iadd cx dL_law_636 ?_
                                refine g_sld cx hX dL_law_637 (hin 1 (Nat.le_of_ble_eq_true rfl)).1 (hin 1 (Nat.le_of_ble_eq_true rfl)).2 ?_
                                refine g_aloadT cx dL_law_638 rfl ?_
                                refine g_iload_n cx dL_law_639 rfl ?_
                                refine g_iconst cx dL_law_640 ic_2 ?_
                                refine g_iadd cx dL_law_641 ?_
                                refine g_sld cx hX dL_law_642 (hin 2 (Nat.le_of_ble_eq_true rfl)).1 (hin 2 (Nat.le_of_ble_eq_true rfl)).2 ?_
                                refine g_aloadT cx dL_law_643 rfl ?_
                                refine g_iload_n cx dL_law_644 rfl ?_
                                refine g_iconst cx dL_law_645 ic_3 ?_
                                refine g_iadd cx dL_law_646 ?_
                                refine g_sld cx hX dL_law_647 (hin 3 (Nat.le_of_ble_eq_true rfl)).1 (hin 3 (Nat.le_of_ble_eq_true rfl)).2 ?_
                                refine g_aloadT cx dL_law_648 rfl ?_
                                refine g_iload_n cx dL_law_649 rfl ?_
                                refine g_iconst cx dL_law_650 ic_4 ?_
                                refine g_iadd cx dL_law_651 ?_
                                refine g_sld cx hX dL_law_652 (hin 4 (Nat.le_of_ble_eq_true rfl)).1 (hin 4 (Nat.le_of_ble_eq_true rfl)).2 ?_
                                refine g_aloadT cx dL_law_653 rfl ?_
                                refine g_iload_n cx dL_law_654 rfl ?_
                                refine g_iconst cx dL_law_655 ic_5 ?_
                                refine g_iadd cx dL_law_656 ?_
                                refine g_sld cx hX dL_law_657 (hin 5 (Nat.le_of_ble_eq_true rfl)).1 (hin 5 (Nat.le_of_ble_eq_true rfl)).2 ?_
                                refine g_cL cx hX [.int (a 1), .int (a 2), .int (a 3), .int (a 4), .int (a 5)] [.int r] (e_X10_run hP h) mt_X10_run ml_L_75 rfl rfl rfl dL_law_658 rfl rfl (Nat.le_of_ble_eq_true rfl) (Nat.le_of_ble_eq_true rfl) (Nat.le_of_ble_eq_true rfl) (Nat.le_of_ble_eq_true rfl) (Nat.le_of_ble_eq_true rfl) (fun r2 I3 P3 hP h => ?_)
                                refine g_icmp_eq cx (tgt := 877) dL_law_661 rfl (fun _ => ?_) (fun q => absurd h.1 q)
                                exact hnext I3 P3 hP h.2
                              · skip
                                by_cases c17 : ((a 0) &&& 31) = 14
                                · skip
                                  refine g_tabIn cx (tgt := 666) (off := 633) dL_law_33 (by rw [c17]; decide) (by rw [c17]; decide) (by rw [c17]; rfl) rfl ?_
                                  refine g_aload_n cx dL_law_666 rfl ?_
                                  refine g_aloadT cx dL_law_667 rfl ?_
                                  refine g_iload_n cx dL_law_668 rfl ?_
                                  refine g_iconst cx dL_law_669 ic_1 ?_
                                  refine g_iadd cx dL_law_670 ?_
                                  refine g_sld cx hX dL_law_671 (hin 1 (Nat.le_of_ble_eq_true rfl)).1 (hin 1 (Nat.le_of_ble_eq_true rfl)).2 ?_
                                  refine g_aloadT cx dL_law_672 rfl ?_
                                  refine g_iload_n cx dL_law_673 rfl ?_
                                  refine g_iconst cx dL_law_674 ic_2 ?_
                                  refine g_iadd cx dL_law_675 ?_
                                  refine g_sld cx hX dL_law_676 (hin 2 (Nat.le_of_ble_eq_true rfl)).1 (hin 2 (Nat.le_of_ble_eq_true rfl)).2 ?_
                                  have h := hst.2.2.2.2.2.2.2.2.2.2.2.2.2.2.1 c17
                                  unfold ok_told at h
                                  refine g_cL cx hX [.int (a 1), .int (a 2)] [] (e_X9_told hP h) mt_X9_told ml_L_76 rfl rfl rfl dL_law_677 rfl rfl (Nat.le_of_ble_eq_true rfl) (Nat.le_of_ble_eq_true rfl) (Nat.le_of_ble_eq_true rfl) (Nat.le_of_ble_eq_true rfl) (Nat.le_of_ble_eq_true rfl) (fun r I2 P2 hP h => ?_)
                                  refine g_aload_n cx dL_law_680 rfl ?_
                                  refine g_aloadT cx dL_law_681 rfl ?_
                                  refine g_iload_n cx dL_law_682 rfl ?_
                                  refine g_iconst cx dL_law_683 ic_1 ?_
                                  refine g_iadd cx dL_law_684 ?_
                                  refine g_sld cx hX dL_law_685 (hin 1 (Nat.le_of_ble_eq_true rfl)).1 (hin 1 (Nat.le_of_ble_eq_true rfl)).2 ?_
                                  refine g_aloadT cx dL_law_686 rfl ?_
                                  refine g_iload_n cx dL_law_687 rfl ?_
                                  refine g_iconst cx dL_law_688 ic_2 ?_
                                  refine g_iadd cx dL_law_689 ?_
                                  refine g_sld cx hX dL_law_690 (hin 2 (Nat.le_of_ble_eq_true rfl)).1 (hin 2 (Nat.le_of_ble_eq_true rfl)).2 ?_
                                  refine g_cL cx hX [.int (a 1), .int (a 2)] [.int r] (e_X10_told hP h) mt_X10_told ml_L_79 rfl rfl rfl dL_law_691 rfl rfl (Nat.le_of_ble_eq_true rfl) (Nat.le_of_ble_eq_true rfl) (Nat.le_of_ble_eq_true rfl) (Nat.le_of_ble_eq_true rfl) (Nat.le_of_ble_eq_true rfl) (fun r2 I3 P3 hP h => ?_)
                                  refine g_icmp_eq cx (tgt := 877) dL_law_694 rfl (fun _ => ?_) (fun q => absurd h.1 q)
                                  exact hnext I3 P3 hP h.2
                                · skip
                                  by_cases c18 : ((a 0) &&& 31) = 15
                                  · skip
                                    refine g_tabIn cx (tgt := 699) (off := 666) dL_law_33 (by rw [c18]; decide) (by rw [c18]; decide) (by rw [c18]; rfl) rfl ?_
                                    refine g_aload_n cx dL_law_699 rfl ?_
                                    refine g_aloadT cx dL_law_700 rfl ?_
                                    refine g_iload_n cx dL_law_701 rfl ?_
                                    refine g_iconst cx dL_law_702 ic_1 ?_
                                    refine g_iadd cx dL_law_703 ?_
                                    refine g_sld cx hX dL_law_704 (hin 1 (Nat.le_of_ble_eq_true rfl)).1 (hin 1 (Nat.le_of_ble_eq_true rfl)).2 ?_
                                    refine g_aloadT cx dL_law_705 rfl ?_
                                    refine g_iload_n cx dL_law_706 rfl ?_
                                    refine g_iconst cx dL_law_707 ic_2 ?_
                                    refine g_iadd cx dL_law_708 ?_
                                    refine g_sld cx hX dL_law_709 (hin 2 (Nat.le_of_ble_eq_true rfl)).1 (hin 2 (Nat.le_of_ble_eq_true rfl)).2 ?_
                                    have h := hst.2.2.2.2.2.2.2.2.2.2.2.2.2.2.2.1 c18
                                    unfold ok_mark at h
                                    refine g_cL cx hX [.int (a 1), .int (a 2)] [] (e_X9_mark hP h) mt_X9_mark ml_L_80 rfl rfl rfl dL_law_710 rfl rfl (Nat.le_of_ble_eq_true rfl) (Nat.le_of_ble_eq_true rfl) (Nat.le_of_ble_eq_true rfl) (Nat.le_of_ble_eq_true rfl) (Nat.le_of_ble_eq_true rfl) (fun r I2 P2 hP h => ?_)
                                    refine g_aload_n cx dL_law_713 rfl ?_
                                    refine g_aloadT cx dL_law_714 rfl ?_
                                    refine g_iload_n cx dL_law_715 rfl ?_
                                    refine g_iconst cx dL_law_716 ic_1 ?_
                                    refine g_iadd cx dL_law_717 ?_
                                    refine g_sld cx hX dL_law_718 (hin 1 (Nat.le_of_ble_eq_true rfl)).1 (hin 1 (Nat.le_of_ble_eq_true rfl)).2 ?_
                                    refine g_aloadT cx dL_law_719 rfl ?_
                                    refine g_iload_n cx dL_law_720 rfl ?_
                                    refine g_iconst cx dL_law_721 ic_2 ?_
                                    refine g_iadd cx dL_law_722 ?_
                                    refine g_sld cx hX dL_law_723 (hin 2 (Nat.le_of_ble_eq_true rfl)).1 (hin 2 (Nat.le_of_ble_eq_true rfl)).2 ?_
                                    refine g_cL cx hX [.int (a 1), .int (a 2)] [.int r] (e_X10_mark hP h) mt_X10_mark ml_L_83 rfl rfl rfl dL_law_724 rfl rfl (Nat.le_of_ble_eq_true rfl) (Nat.le_of_ble_eq_true rfl) (Nat.le_of_ble_eq_true rfl) (Nat.le_of_ble_eq_true rfl) (Nat.le_of_ble_eq_true rfl) (fun r2 I3 P3 hP h => ?_)
                                    refine g_icmp_eq cx (tgt := 877) dL_law_727 rfl (fun _ => ?_) (fun q => absurd h.1 q)
                                    exact hnext I3 P3 hP h.2
                                  · skip
                                    by_cases c19 : ((a 0) &&& 31) = 16
                                    · skip
                                      refine g_tabIn cx (tgt := 732) (off := 699) dL_law_33 (by rw [c19]; decide) (by rw [c19]; decide) (by rw [c19]; rfl) rfl ?_
                                      refine g_aload_n cx dL_law_732 rfl ?_
                                      refine g_aloadT cx dL_law_733 rfl ?_
                                      refine g_iload_n cx dL_law_734 rfl ?_
                                      refine g_iconst cx dL_law_735 ic_1 ?_
                                      refine g_iadd cx dL_law_736 ?_
                                      refine g_sld cx hX dL_law_737 (hin 1 (Nat.le_of_ble_eq_true rfl)).1 (hin 1 (Nat.le_of_ble_eq_true rfl)).2 ?_
                                      refine g_aloadT cx dL_law_738 rfl ?_
                                      refine g_iload_n cx dL_law_739 rfl ?_
                                      refine g_iconst cx dL_law_740 ic_2 ?_
                                      refine g_iadd cx dL_law_741 ?_
                                      refine g_sld cx hX dL_law_742 (hin 2 (Nat.le_of_ble_eq_true rfl)).1 (hin 2 (Nat.le_of_ble_eq_true rfl)).2 ?_
                                      have h := hst.2.2.2.2.2.2.2.2.2.2.2.2.2.2.2.2.1 c19
                                      unfold ok_field at h
                                      refine g_cL cx hX [.int (a 1), .int (a 2)] [] (e_X9_field hP h) mt_X9_field ml_L_84 rfl rfl rfl dL_law_743 rfl rfl (Nat.le_of_ble_eq_true rfl) (Nat.le_of_ble_eq_true rfl) (Nat.le_of_ble_eq_true rfl) (Nat.le_of_ble_eq_true rfl) (Nat.le_of_ble_eq_true rfl) (fun r I2 P2 hP h => ?_)
                                      refine g_aload_n cx dL_law_746 rfl ?_
                                      refine g_aloadT cx dL_law_747 rfl ?_
                                      refine g_iload_n cx dL_law_748 rfl ?_
                                      refine g_iconst cx dL_law_749 ic_1 ?_
                                      refine g_iadd cx dL_law_750 ?_
                                      refine g_sld cx hX dL_law_751 (hin 1 (Nat.le_of_ble_eq_true rfl)).1 (hin 1 (Nat.le_of_ble_eq_true rfl)).2 ?_
                                      refine g_aloadT cx dL_law_752 rfl ?_
                                      refine g_iload_n cx dL_law_753 rfl ?_
                                      refine g_iconst cx dL_law_754 ic_2 ?_
                                      refine g_iadd cx dL_law_755 ?_
                                      refine g_sld cx hX dL_law_756 (hin 2 (Nat.le_of_ble_eq_true rfl)).1 (hin 2 (Nat.le_of_ble_eq_true rfl)).2 ?_
                                      refine g_cL cx hX [.int (a 1), .int (a 2)] [.int r] (e_X10_field hP h) mt_X10_field ml_L_87 rfl rfl rfl dL_law_757 rfl rfl (Nat.le_of_ble_eq_true rfl) (Nat.le_of_ble_eq_true rfl) (Nat.le_of_ble_eq_true rfl) (Nat.le_of_ble_eq_true rfl) (Nat.le_of_ble_eq_true rfl) (fun r2 I3 P3 hP h => ?_)
                                      refine g_icmp_eq cx (tgt := 877) dL_law_760 rfl (fun _ => ?_) (fun q => absurd h.1 q)
                                      exact hnext I3 P3 hP h.2
                                    · skip
                                      by_cases c20 : ((a 0) &&& 31) = 17
                                      · skip
                                        refine g_tabIn cx (tgt := 765) (off := 732) dL_law_33 (by rw [c20]; decide) (by rw [c20]; decide) (by rw [c20]; rfl) rfl ?_
                                        refine g_aload_n cx dL_law_765 rfl ?_
                                        refine g_aloadT cx dL_law_766 rfl ?_
                                        refine g_iload_n cx dL_law_767 rfl ?_
                                        refine g_iconst cx dL_law_768 ic_1 ?_
                                        refine g_iadd cx dL_law_769 ?_
                                        refine g_sld cx hX dL_law_770 (hin 1 (Nat.le_of_ble_eq_true rfl)).1 (hin 1 (Nat.le_of_ble_eq_true rfl)).2 ?_
                                        refine g_aloadT cx dL_law_771 rfl ?_
                                        refine g_iload_n cx dL_law_772 rfl ?_
                                        refine g_iconst cx dL_law_773 ic_2 ?_
                                        refine g_iadd cx dL_law_774 ?_
                                        refine g_sld cx hX dL_law_775 (hin 2 (Nat.le_of_ble_eq_true rfl)).1 (hin 2 (Nat.le_of_ble_eq_true rfl)).2 ?_
                                        refine g_aloadT cx dL_law_776 rfl ?_
                                        refine g_iload_n cx dL_law_777 rfl ?_
                                        refine g_iconst cx dL_law_778 ic_3 ?_
                                        refine g_iadd cx dL_law_779 ?_
                                        refine g_sld cx hX dL_law_780 (hin 3 (Nat.le_of_ble_eq_true rfl)).1 (hin 3 (Nat.le_of_ble_eq_true rfl)).2 ?_
                                        have h := hst.2.2.2.2.2.2.2.2.2.2.2.2.2.2.2.2.2.1 c20
                                        unfold ok_record at h
                                        refine g_cL cx hX [.int (a 1), .int (a 2), .int (a 3)] [] (e_X9_record hP h) mt_X9_record ml_L_88 rfl rfl rfl dL_law_781 rfl rfl (Nat.le_of_ble_eq_true rfl) (Nat.le_of_ble_eq_true rfl) (Nat.le_of_ble_eq_true rfl) (Nat.le_of_ble_eq_true rfl) (Nat.le_of_ble_eq_true rfl) (fun r I2 P2 hP h => ?_)
                                        refine g_aload_n cx dL_law_784 rfl ?_
                                        refine g_aloadT cx dL_law_785 rfl ?_
                                        refine g_iload_n cx dL_law_786 rfl ?_
                                        refine g_iconst cx dL_law_787 ic_1 ?_
                                        refine g_iadd cx dL_law_788 ?_
                                        refine g_sld cx hX dL_law_789 (hin 1 (Nat.le_of_ble_eq_true rfl)).1 (hin 1 (Nat.le_of_ble_eq_true rfl)).2 ?_
                                        refine g_aloadT cx dL_law_790 rfl ?_
                                        refine g_iload_n cx dL_law_791 rfl ?_
                                        refine g_iconst cx dL_law_792 ic_2 ?_
                                        refine g_iadd cx dL_law_793 ?_
                                        refine g_sld cx hX dL_law_794 (hin 2 (Nat.le_of_ble_eq_true rfl)).1 (hin 2 (Nat.le_of_ble_eq_true rfl)).2 ?_
                                        refine g_aloadT cx dL_law_795 rfl ?_
                                        refine g_iload_n cx dL_law_796 rfl ?_
                                        refine g_iconst cx dL_law_797 ic_3 ?_
                                        refine g_iadd cx dL_law_798 ?_
                                        refine g_sld cx hX dL_law_799 (hin 3 (Nat.le_of_ble_eq_true rfl)).1 (hin 3 (Nat.le_of_ble_eq_true rfl)).2 ?_
                                        refine g_cL cx hX [.int (a 1), .int (a 2), .int (a 3)] [.int r] (e_X10_record hP h) mt_X10_record ml_L_91 rfl rfl rfl dL_law_800 rfl rfl (Nat.le_of_ble_eq_true rfl) (Nat.le_of_ble_eq_true rfl) (Nat.le_of_ble_eq_true rfl) (Nat.le_of_ble_eq_true rfl) (Nat.le_of_ble_eq_true rfl) (fun r2 I3 P3 hP h => ?_)
                                        refine g_icmp_eq cx (tgt := 877) dL_law_803 rfl (fun _ => ?_) (fun q => absurd h.1 q)
                                        exact hnext I3 P3 hP h.2
                                      · skip
                                        by_cases c21 : ((a 0) &&& 31) = 18
                                        · skip
                                          refine g_tabIn cx (tgt := 808) (off := 775) dL_law_33 (by rw [c21]; decide) (by rw [c21]; decide) (by rw [c21]; rfl) rfl ?_
                                          refine g_aload_n cx dL_law_808 rfl ?_
                                          refine g_aloadT cx dL_law_809 rfl ?_
                                          refine g_iload_n cx dL_law_810 rfl ?_
                                          refine g_iconst cx dL_law_811 ic_1 ?_
                                          refine g_iadd cx dL_law_812 ?_
                                          refine g_sld cx hX dL_law_813 (hin 1 (Nat.le_of_ble_eq_true rfl)).1 (hin 1 (Nat.le_of_ble_eq_true rfl)).2 ?_
                                          refine g_aloadT cx dL_law_814 rfl ?_
                                          refine g_iload_n cx dL_law_815 rfl ?_
                                          refine g_iconst cx dL_law_816 ic_2 ?_
                                          refine g_iadd cx dL_law_817 ?_
                                          refine g_sld cx hX dL_law_818 (hin 2 (Nat.le_of_ble_eq_true rfl)).1 (hin 2 (Nat.le_of_ble_eq_true rfl)).2 ?_
                                          have h := hst.2.2.2.2.2.2.2.2.2.2.2.2.2.2.2.2.2.2.1 c21
                                          unfold ok_records at h
                                          refine g_cL cx hX [.int (a 1), .int (a 2)] [] (e_X9_records hP h) mt_X9_records ml_L_92 rfl rfl rfl dL_law_819 rfl rfl (Nat.le_of_ble_eq_true rfl) (Nat.le_of_ble_eq_true rfl) (Nat.le_of_ble_eq_true rfl) (Nat.le_of_ble_eq_true rfl) (Nat.le_of_ble_eq_true rfl) (fun r I2 P2 hP h => ?_)
                                          refine g_aload_n cx dL_law_822 rfl ?_
                                          refine g_aloadT cx dL_law_823 rfl ?_
                                          refine g_iload_n cx dL_law_824 rfl ?_
                                          refine g_iconst cx dL_law_825 ic_1 ?_
                                          refine g_iadd cx dL_law_826 ?_
                                          refine g_sld cx hX dL_law_827 (hin 1 (Nat.le_of_ble_eq_true rfl)).1 (hin 1 (Nat.le_of_ble_eq_true rfl)).2 ?_
                                          refine g_aloadT cx dL_law_828 rfl ?_
                                          refine g_iload_n cx dL_law_829 rfl ?_
                                          refine g_iconst cx dL_law_830 ic_2 ?_
                                          refine g_iadd cx dL_law_831 ?_
                                          refine g_sld cx hX dL_law_832 (hin 2 (Nat.le_of_ble_eq_true rfl)).1 (hin 2 (Nat.le_of_ble_eq_true rfl)).2 ?_
                                          refine g_cL cx hX [.int (a 1), .int (a 2)] [.int r] (e_X10_records hP h) mt_X10_records ml_L_95 rfl rfl rfl dL_law_833 rfl rfl (Nat.le_of_ble_eq_true rfl) (Nat.le_of_ble_eq_true rfl) (Nat.le_of_ble_eq_true rfl) (Nat.le_of_ble_eq_true rfl) (Nat.le_of_ble_eq_true rfl) (fun r2 I3 P3 hP h => ?_)
                                          refine g_icmp_eq cx (tgt := 877) dL_law_836 rfl (fun _ => ?_) (fun q => absurd h.1 q)
                                          exact hnext I3 P3 hP h.2
                                        · skip
                                          by_cases c22 : ((a 0) &&& 31) = 19
                                          · skip
                                            refine g_tabIn cx (tgt := 841) (off := 808) dL_law_33 (by rw [c22]; decide) (by rw [c22]; decide) (by rw [c22]; rfl) rfl ?_
                                            refine g_aload_n cx dL_law_841 rfl ?_
                                            have h := hst.2.2.2.2.2.2.2.2.2.2.2.2.2.2.2.2.2.2.2.1 c22
                                            unfold ok_differ at h
                                            refine g_cL cx hX [] [] (e_X9_differ hP h) mt_X9_differ ml_L_96 rfl rfl rfl dL_law_842 rfl rfl (Nat.le_of_ble_eq_true rfl) (Nat.le_of_ble_eq_true rfl) (Nat.le_of_ble_eq_true rfl) (Nat.le_of_ble_eq_true rfl) (Nat.le_of_ble_eq_true rfl) (fun r I2 P2 hP h => ?_)
                                            refine g_aload_n cx dL_law_845 rfl ?_
                                            refine g_cL cx hX [] [.int r] (e_X10_differ hP h) mt_X10_differ ml_L_99 rfl rfl rfl dL_law_846 rfl rfl (Nat.le_of_ble_eq_true rfl) (Nat.le_of_ble_eq_true rfl) (Nat.le_of_ble_eq_true rfl) (Nat.le_of_ble_eq_true rfl) (Nat.le_of_ble_eq_true rfl) (fun r2 I3 P3 hP h => ?_)
                                            refine g_icmp_eq cx (tgt := 877) dL_law_849 rfl (fun _ => ?_) (fun q => absurd h.1 q)
                                            exact hnext I3 P3 hP h.2
                                          · skip
                                            by_cases c23 : ((a 0) &&& 31) = 20
                                            · skip
                                              refine g_tabIn cx (tgt := 854) (off := 821) dL_law_33 (by rw [c23]; decide) (by rw [c23]; decide) (by rw [c23]; rfl) rfl ?_
                                              refine g_aload_n cx dL_law_854 rfl ?_
                                              refine g_aloadT cx dL_law_855 rfl ?_
                                              refine g_iload_n cx dL_law_856 rfl ?_
                                              refine g_iconst cx dL_law_857 ic_1 ?_
                                              refine g_iadd cx dL_law_858 ?_
                                              refine g_sld cx hX dL_law_859 (hin 1 (Nat.le_of_ble_eq_true rfl)).1 (hin 1 (Nat.le_of_ble_eq_true rfl)).2 ?_
                                              have h := hst.2.2.2.2.2.2.2.2.2.2.2.2.2.2.2.2.2.2.2.2.1 c23
                                              unfold ok_count at h
                                              refine g_cL cx hX [.int (a 1)] [] (e_X9_count hP h) mt_X9_count ml_L_100 rfl rfl rfl dL_law_860 rfl rfl (Nat.le_of_ble_eq_true rfl) (Nat.le_of_ble_eq_true rfl) (Nat.le_of_ble_eq_true rfl) (Nat.le_of_ble_eq_true rfl) (Nat.le_of_ble_eq_true rfl) (fun r I2 P2 hP h => ?_)
                                              refine g_aload_n cx dL_law_863 rfl ?_
                                              refine g_aloadT cx dL_law_864 rfl ?_
                                              refine g_iload_n cx dL_law_865 rfl ?_
                                              refine g_iconst cx dL_law_866 ic_1 ?_
                                              refine g_iadd cx dL_law_867 ?_
                                              refine g_sld cx hX dL_law_868 (hin 1 (Nat.le_of_ble_eq_true rfl)).1 (hin 1 (Nat.le_of_ble_eq_true rfl)).2 ?_
                                              refine g_cL cx hX [.int (a 1)] [.int r] (e_X10_count hP h) mt_X10_count ml_L_103 rfl rfl rfl dL_law_869 rfl rfl (Nat.le_of_ble_eq_true rfl) (Nat.le_of_ble_eq_true rfl) (Nat.le_of_ble_eq_true rfl) (Nat.le_of_ble_eq_true rfl) (Nat.le_of_ble_eq_true rfl) (fun r2 I3 P3 hP h => ?_)
                                              refine g_icmp_eq cx (tgt := 877) dL_law_872 rfl (fun _ => ?_) (fun q => absurd h.1 q)
                                              exact hnext I3 P3 hP h.2
                                            · skip
                                              refine g_tabOut cx (tgt := 877) dL_law_33 (by have h0 : (((a 0) &&& 31)).toInt ≠ 0 := i32ne c1; have h1 : (((a 0) &&& 31)).toInt ≠ 1 := i32ne c2; have h2 : (((a 0) &&& 31)).toInt ≠ 2 := i32ne c3; have h3 : (((a 0) &&& 31)).toInt ≠ 3 := i32ne c4; have h4 : (((a 0) &&& 31)).toInt ≠ 4 := i32ne c5; have h5 : (((a 0) &&& 31)).toInt ≠ 5 := i32ne c6; have h6 : (((a 0) &&& 31)).toInt ≠ 6 := i32ne c8; have h7 : (((a 0) &&& 31)).toInt ≠ 7 := i32ne c10; have h8 : (((a 0) &&& 31)).toInt ≠ 8 := i32ne c11; have h9 : (((a 0) &&& 31)).toInt ≠ 9 := i32ne c12; have h10 : (((a 0) &&& 31)).toInt ≠ 10 := i32ne c13; have h11 : (((a 0) &&& 31)).toInt ≠ 11 := i32ne c14; have h12 : (((a 0) &&& 31)).toInt ≠ 12 := i32ne c15; have h13 : (((a 0) &&& 31)).toInt ≠ 13 := i32ne c16; have h14 : (((a 0) &&& 31)).toInt ≠ 14 := i32ne c17; have h15 : (((a 0) &&& 31)).toInt ≠ 15 := i32ne c18; have h16 : (((a 0) &&& 31)).toInt ≠ 16 := i32ne c19; have h17 : (((a 0) &&& 31)).toInt ≠ 17 := i32ne c20; have h18 : (((a 0) &&& 31)).toInt ≠ 18 := i32ne c21; have h19 : (((a 0) &&& 31)).toInt ≠ 19 := i32ne c22; have h20 : (((a 0) &&& 31)).toInt ≠ 20 := i32ne c23; omega) rfl ?_
                                              exact hnext I P hP (hst.2.2.2.2.2.2.2.2.2.2.2.2.2.2.2.2.2.2.2.2.2 c1 c2 c3 c4 c5 c6 c8 c10 c11 c12 c13 c14 c15 c16 c17 c18 c19 c20 c21 c22 c23)
