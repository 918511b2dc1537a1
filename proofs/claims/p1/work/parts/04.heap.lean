theorem zin_of {C : String} {T : u_T} {N : Nat} (ps : List Nat) (h : (u_ws C T N = ps.filterMap (fun i => tables_1[i]?)) ∧ (u_ws C T N).all goodWord = true) : ∀ w ∈ u_ws C T N, w ∈ wsG := by
  intro w hw
  have h1 := List.all_eq_true.mp h.2 w hw
  rw [h.1] at hw
  obtain ⟨i, -, hi⟩ := List.mem_filterMap.mp hw
  exact wsG_t hi h1
def zTy (t : Nat) : Nat → FieldType := match t with
  | 0 => tyX0
  | 1 => tyX1
  | 2 => tyX2
  | 3 => tyX3
  | 4 => tyX4
  | 5 => tyX5
  | 6 => tyX6
  | 7 => tyX7
  | 8 => tyX8
  | 9 => tyX9
  | _ => tyX10
def zv0 (κ : zX) (v : Value) : Value := zv κ.2.2.2.2.2.2.2.2.2.2.2.2.2.1 κ.2.2.2.2.2.2.2.2.2.2.2.2.2.2.1 v
def zv1 (b : Nat) (κ : zX) (v : Value) : Value := zv b κ.2.2.2.2.2.2.2.2.2.2.2.2.2.2.1 v
theorem zobjI : Cond.instanceMethod Lib.objectInit ∈ wsG := wsG_t (i := 21) (by decide +kernel) rfl
theorem zobjC : Cond.code Lib.objectInit ⟨#[0xb1]⟩ 1 none ∈ wsG := wsG_t (i := 22) (by decide +kernel) rfl
theorem zarr_int : Cond.arrayClass (newarray.typeOf .int) ∈ wsG := wsG_t (i := 36) (by decide +kernel) rfl
theorem zarr_boolean : Cond.arrayClass (newarray.typeOf .boolean) ∈ wsG := wsG_t (i := 62) (by decide +kernel) rfl
theorem zcatsum {b : Nat} {tA : Nat → Nat} : ∀ {st : List Value}, (∀ v ∈ st, zlive v = true) → ((st.map (zv b tA)).map fun v => v.category).sum = st.length
  | [], _ => rfl
  | v :: vs, h => by
    have h1 := zcatsum (b := b) (tA := tA) (st := vs) (fun w hw => h w (List.mem_cons_of_mem _ hw))
    simp only [List.map_cons, List.sum_cons, List.length_cons, h1, zv_cat (h v List.mem_cons_self)]
    omega
def zRoom (κ : zX) (mc ms : Nat) : Prop := κ.2.2.2.1.cells = mc ∧ κ.2.2.2.1.slots = ms
theorem zin_0 : ∀ w ∈ u_ws RX0 TX0 6, w ∈ wsG := zin_of [367, 369, 371, 373, 375, 377] (by decide +kernel)
theorem zin_1 : ∀ w ∈ u_ws RX1 TX1 6, w ∈ wsG := zin_of [49, 51, 53, 55, 57, 59] (by decide +kernel)
theorem zin_2 : ∀ w ∈ u_ws RX2 TX2 17, w ∈ wsG := zin_of [397, 399, 401, 403, 405, 407, 409, 411, 413, 415, 417, 419, 421, 423, 425, 427, 429] (by decide +kernel)
theorem zin_3 : ∀ w ∈ u_ws RX3 TX3 11, w ∈ wsG := zin_of [234, 236, 238, 240, 242, 244, 246, 248, 250, 252, 254] (by decide +kernel)
theorem zin_4 : ∀ w ∈ u_ws RX4 TX4 6, w ∈ wsG := zin_of [331, 333, 335, 337, 339, 341] (by decide +kernel)
theorem zin_5 : ∀ w ∈ u_ws RX5 TX5 2, w ∈ wsG := zin_of [31, 33] (by decide +kernel)
theorem zin_6 : ∀ w ∈ u_ws RX6 TX6 13, w ∈ wsG := zin_of [287, 289, 291, 293, 295, 297, 299, 301, 303, 305, 307, 309, 311] (by decide +kernel)
theorem zin_7 : ∀ w ∈ u_ws RX7 TX7 17, w ∈ wsG := zin_of [86, 88, 90, 92, 94, 96, 98, 100, 102, 104, 106, 108, 110, 112, 114, 116, 118] (by decide +kernel)
theorem zin_8 : ∀ w ∈ u_ws RX8 TX8 11, w ∈ wsG := zin_of [165, 167, 169, 171, 173, 175, 177, 179, 181, 183, 185] (by decide +kernel)
theorem zin_9 : ∀ w ∈ u_ws RX9 TX9 12, w ∈ wsG := zin_of [444, 446, 448, 450, 452, 454, 456, 458, 460, 462, 464, 466] (by decide +kernel)
theorem zin_10 : ∀ w ∈ u_ws RX10 TX10 87, w ∈ wsG := zin_of [1258, 1260, 1262, 1264, 1266, 1268, 1270, 1272, 1274, 1276, 1278, 1280, 1282, 1284, 1286, 1288, 1290, 1292, 1294, 1296, 1298, 1300, 1302, 1304, 1306, 1308, 1310, 1312, 1314, 1316, 1318, 1320, 1322, 1324, 1326, 1328, 1330, 1332, 1334, 1336, 1338, 1340, 1342, 1344, 1346, 1348, 1350, 1352, 1354, 1356, 1358, 1360, 1362, 1364, 1366, 1368, 1370, 1372, 1374, 1376, 1378, 1380, 1382, 1384, 1386, 1388, 1390, 1392, 1394, 1396, 1398, 1400, 1402, 1404, 1406, 1408, 1410, 1412, 1414, 1416, 1418, 1420, 1422, 1424, 1426, 1428, 1430] (by decide +kernel)
theorem zcls {t : Nat} {q : vw_C} (h : vwCl[t]? = some q) : (∀ w ∈ u_ws q.1 q.2.1 q.2.2, w ∈ wsG) ∧ (∀ k, k < q.2.2 → parseFieldDescriptor (q.2.1 k).2.2.1 = some (zTy t k)) ∧ (∀ a, a < q.2.2 → ∀ b, b < q.2.2 → a ≠ b → (q.2.1 a).2.1 ≠ (q.2.1 b).2.1) := by
  match t, h with
  | 0, h => cases h; exact ⟨zin_0, tyX0_ok, nmX0⟩
  | 1, h => cases h; exact ⟨zin_1, tyX1_ok, nmX1⟩
  | 2, h => cases h; exact ⟨zin_2, tyX2_ok, nmX2⟩
  | 3, h => cases h; exact ⟨zin_3, tyX3_ok, nmX3⟩
  | 4, h => cases h; exact ⟨zin_4, tyX4_ok, nmX4⟩
  | 5, h => cases h; exact ⟨zin_5, tyX5_ok, nmX5⟩
  | 6, h => cases h; exact ⟨zin_6, tyX6_ok, nmX6⟩
  | 7, h => cases h; exact ⟨zin_7, tyX7_ok, nmX7⟩
  | 8, h => cases h; exact ⟨zin_8, tyX8_ok, nmX8⟩
  | 9, h => cases h; exact ⟨zin_9, tyX9_ok, nmX9⟩
  | 10, h => cases h; exact ⟨zin_10, tyX10_ok, nmX10⟩
  | t + 11, h => simp [vwCl] at h
/-- field k of class t, by the pool index idx of class own -/
def zLk (own : String) (idx t k : Nat) : Prop := ∃ q : vw_C, vwCl[t]? = some q ∧ k < q.2.2 ∧ Cond.fieldLink own idx (q.2.1 k).1 (q.2.1 k).2.1 (q.2.1 k).2.2.1 ∈ wsG
theorem zfs {b t n k : Nat} {i : Nat → Int32} {r : Nat → Option Nat} (h : k < n) : ((List.range n).map (zF b t i r))[k]? = some (zF b t i r k) := by
  rw [List.getElem?_map, List.getElem?_range h]
  rfl
theorem zWo {dA : Nat → ClassId} {b : Nat} {sh : zSh} {I : zI} {P : zP} {o t n : Nat} (h : sh[o]? = some (t, n)) (ht : t < 11) : (zW dA b sh I P)[o]? = some (b + o, .inr (t, (List.range n).map (zF b t (I o) (P o)))) := by
  rw [zW_at h, zE, if_pos ht]
theorem zlt11 {t : Nat} {q : vw_C} (h : vwCl[t]? = some q) : t < 11 := (List.getElem?_eq_some_iff.mp h).1
theorem g_getI {κ : zX} {y : MethodName} {cc : ByteArray} {nL : Nat} {ret : Option FieldType} {fr lo : Nat} (cx : Cx y cc nL ret fr lo κ) {pc : Nat} {L st : List Value} {sh : zSh} {I : zI} {P : zP} {ce sl : Nat} {idx o t k n : Nat} {x : Int32} (hlk : zLk y.cls idx t k) (hsh : sh[o]? = some (t, n)) (hkn : k < n) (hrf : zRf t k = false) (hd : decode cc pc = .ok (.getfield idx, 3)) (hv : I o k = x) (kk : Gx κ (pc + 3) L (.int x :: st) sh I P ce sl) : Gx κ pc L (.ref o :: st) sh I P ce sl := by
  obtain ⟨p, l, e, R, s, m, args, below, meth, c, Q, D, dA, b, tA, nq⟩ := κ
  obtain ⟨hx, hb, hr, hml, rfl, hown, hts, hK, hnm, hlk0, hfr, hlo, hbs⟩ := cx
  intro H locs ls hP hz hS hl
  obtain ⟨q, hc, hk, hw⟩ := hlk
  refine va_get (C := q.1) (T := q.2.1) (N := q.2.2) hx hb hts (zcls hc).1 hown hK.1 hP o (zWo hsh (zlt11 hc)) hc k hk (hts _ hw) (fun _ h9 => h9) (zfs hkn) hd ?_
  rw [zF, if_neg (by rw [hrf]; decide), hv]
  exact kk H locs ls hP hz hS hl
theorem g_getR {κ : zX} {y : MethodName} {cc : ByteArray} {nL : Nat} {ret : Option FieldType} {fr lo : Nat} (cx : Cx y cc nL ret fr lo κ) {pc : Nat} {L st : List Value} {sh : zSh} {I : zI} {P : zP} {ce sl : Nat} {idx o t k n v : Nat} (hlk : zLk y.cls idx t k) (hsh : sh[o]? = some (t, n)) (hkn : k < n) (hrf : zRf t k = true) (hd : decode cc pc = .ok (.getfield idx, 3)) (hv : P o k = some v) (kk : Gx κ (pc + 3) L (.ref v :: st) sh I P ce sl) : Gx κ pc L (.ref o :: st) sh I P ce sl := by
  obtain ⟨p, l, e, R, s, m, args, below, meth, c, Q, D, dA, b, tA, nq⟩ := κ
  obtain ⟨hx, hb, hr, hml, rfl, hown, hts, hK, hnm, hlk0, hfr, hlo, hbs⟩ := cx
  intro H locs ls hP hz hS hl
  obtain ⟨q, hc, hk, hw⟩ := hlk
  refine va_get (C := q.1) (T := q.2.1) (N := q.2.2) hx hb hts (zcls hc).1 hown hK.1 hP o (zWo hsh (zlt11 hc)) hc k hk (hts _ hw) (fun _ h9 => h9) (zfs hkn) hd ?_
  rw [zF, if_pos hrf, hv]
  exact kk H locs ls hP hz hS hl
theorem zput0 {κ : zX} {y : MethodName} {cc : ByteArray} {nL : Nat} {ret : Option FieldType} {fr lo : Nat} (cx : Cx y cc nL ret fr lo κ) {pc : Nat} {L st : List Value} {sh : zSh} {I : zI} {P : zP} {ce sl : Nat} {idx o t k n : Nat} {v : Value} {I' : zI} {P' : zP} (hlk : zLk y.cls idx t k) (hsh : sh[o]? = some (t, n)) (hkn : k < n) (hn : narrow (zTy t k) (zv0 κ v) = zv0 κ v) (hfit : fits (zTy t k) (zv0 κ v) = true) (hfin : ∀ q : vw_C, vwCl[t]? = some q → (q.2.1 k).2.2.2 = false ∨ ((q.2.1 k).2.2.2 = true ∧ y.name = "<init>" ∧ (q.2.1 k).1 = y.cls)) (hI : ∀ a, a ≠ o → I' a = I a) (hP' : ∀ a, a ≠ o → P' a = P a) (hF : ∀ b j, zF b t (I' o) (P' o) j = if j = k then zv1 b κ v else zF b t (I o) (P o) j) (hd : decode cc pc = .ok (.putfield idx, 3)) (kk : Gx κ (pc + 3) L st sh I' P' ce sl) : Gx κ pc L (v :: .ref o :: st) sh I P ce sl := by
  obtain ⟨p, l, e, R, s, m, args, below, meth, c, Q, D, dA, b, tA, nq⟩ := κ
  obtain ⟨hx, hb, hr, hml, rfl, hown, hts, hK, hnm, hlk0, hfr, hlo, hbs⟩ := cx
  intro H locs ls hP hz hS hl
  obtain ⟨q, hc, hk, hw⟩ := hlk
  have hat := zWo (dA := dA) (b := b) (I := I) (P := P) hsh (zlt11 hc)
  have hap := va_apart (own := y.cls) hts (zcls hc).1 (zTy t) (zcls hc).2.1 (zcls hc).2.2 hK.1 hc
  obtain ⟨r, h1, cell, q1, q2, q3, q4⟩ := hP o _ hat
  cases h1.symm.trans hc
  obtain ⟨hS0, hfc, kC, hkC, hkind⟩ := hK.1.1 t _ hc
  obtain ⟨cf, kf, fi, f, hi, hsl⟩ := hS0 k hk
  have hst := (u_facts hfc hkC (u_lays hts (zcls hc).1 hk) hi).1
  have hnew : ∀ (H' : Heap) (cell' : Cell), H'[b + o]? = some cell' → cell'.cls = cell.cls → cell'.vm = cell.vm → (∀ j, j < q.2.2 → cell'.slots[D.2 t j]? = some (updV (vp_V ((List.range n).map (zF b t (I o) (P o)))) k (zv b tA v) j)) → H'.size = H.size → (∀ a : Nat, a ≠ b + o → H'[a]? = H[a]?) → va_P D vwCl (zW dA b sh I' P') H' := by
    intro H' cell' e1 e2 e3 e4 e5 e6
    rw [← zW_set (I := I) (P := P) hsh hI hP']
    refine hP.set zW_D hat ?_ e6
    rw [zE, if_pos (zlt11 hc)]
    refine ⟨_, hc, cell', e1, e2.trans q2, e3.trans q3, fun j hj => ?_⟩
    rw [e4 j hj]
    congr 1
    by_cases hjn : j < n
    · show _ = vp_V _ j
      rw [updV, vp_V, vp_V, List.getD_eq_getElem?_getD, List.getD_eq_getElem?_getD, zfs hjn, zfs hjn, hF]
      rfl
    · rw [updV, if_neg (by omega), vp_V, vp_V, List.getD_eq_getElem?_getD, List.getD_eq_getElem?_getD, List.getElem?_eq_none (by simp; omega), List.getElem?_eq_none (by simp; omega)]
  rcases hfin q hc with hfn | ⟨hfn, hini, hdecl⟩
  · have hlay := hts _ ((zcls hc).1 _ (u_in_lay hk))
    unfold u_lay at hlay
    rw [if_neg (by rw [hfn]; decide)] at hlay
    have h6 := u_store hfc hkC hkind hlay hi ((zcls hc).2.1 k hk) hn hfit
    refine W.putK hx hb (f := f) ⟨hown, hts _ hw, ⟨_, _, _, hi⟩, hst⟩ (by rw [q2]; exact h6) q1 q3 (by rw [hsl]; exact k2_hasslot (q4 k hk)) rfl rfl hd fun H' e1 e2 e3 => ?_
    rw [hsl] at e1 ⊢
    exact kk H' _ ls (hnew H' _ e1 rfl rfl (t_set q4 hap hk (zv b tA v)) e2 e3) (e2.trans hz) (hS.put e2 e3 (Nat.le_add_right b o)) hl
  · have hlay := hts _ ((zcls hc).1 _ (u_in_lay hk))
    unfold u_lay at hlay
    rw [if_pos hfn] at hlay
    have hcf : m.cls = cf := by
      obtain ⟨_, _, c', _, _, _, -, -, hf', -, -, -, hown2, -⟩ := Cond.laysFinal_spec hlay
      have e1 : c' = cf := by have := hi.symm.trans hf'; simp at this; exact this.1.symm
      rw [hdecl] at hown2
      rw [← e1]; exact Option.some.inj (hown.symm.trans hown2)
    have h6 := u_fits hfc hkC hkind (Or.inr hlay) hi ((zcls hc).2.1 k hk) hn hfit
    refine W.putFinK hx hb hown (hts _ hw) hi hst hcf (hnm.trans hini) (by rw [q2]; exact h6) q1 q3 (by rw [hsl]; exact k2_hasslot (q4 k hk)) rfl rfl hd fun H' e1 e2 e3 => ?_
    rw [hsl] at e1 ⊢
    exact kk H' _ ls (hnew H' _ e1 rfl rfl (t_set q4 hap hk (zv b tA v)) e2 e3) (e2.trans hz) (hS.put e2 e3 (Nat.le_add_right b o)) hl
theorem g_putI {κ : zX} {y : MethodName} {cc : ByteArray} {nL : Nat} {ret : Option FieldType} {fr lo : Nat} (cx : Cx y cc nL ret fr lo κ) {pc : Nat} {L st : List Value} {sh : zSh} {I : zI} {P : zP} {ce sl : Nat} {idx o t k n : Nat} {x : Int32} (hlk : zLk y.cls idx t k) (hsh : sh[o]? = some (t, n)) (hkn : k < n) (hrf : zRf t k = false) (hn : narrow (zTy t k) (.int x) = .int x) (hfit : fits (zTy t k) (.int x) = true) (hfin : ∀ q : vw_C, vwCl[t]? = some q → (q.2.1 k).2.2.2 = false ∨ ((q.2.1 k).2.2.2 = true ∧ y.name = "<init>" ∧ (q.2.1 k).1 = y.cls)) (hd : decode cc pc = .ok (.putfield idx, 3)) (kk : Gx κ (pc + 3) L st sh (zu I o k x) P ce sl) : Gx κ pc L (.int x :: .ref o :: st) sh I P ce sl := by
  refine zput0 cx (v := .int x) hlk hsh hkn hn hfit hfin (fun a ha => ?_) (fun a ha => rfl) (fun b j => ?_) hd kk
  · funext c
    exact zu_ne (fun q => ha q.1)
  · by_cases hj : j = k
    · subst hj
      rw [if_pos rfl, zF, if_neg (by rw [hrf]; decide), zu_same]
      rfl
    · rw [if_neg hj, zF, zF, zu_ne (fun q => hj q.2)]
theorem g_putR {κ : zX} {y : MethodName} {cc : ByteArray} {nL : Nat} {ret : Option FieldType} {fr lo : Nat} (cx : Cx y cc nL ret fr lo κ) {pc : Nat} {L st : List Value} {sh : zSh} {I : zI} {P : zP} {ce sl : Nat} {idx o t k n v : Nat} (hlk : zLk y.cls idx t k) (hsh : sh[o]? = some (t, n)) (hkn : k < n) (hrf : zRf t k = true) (hn : ∀ a : Nat, narrow (zTy t k) (.ref a) = .ref a) (hfit : ∀ a : Nat, fits (zTy t k) (.ref a) = true) (hfin : ∀ q : vw_C, vwCl[t]? = some q → (q.2.1 k).2.2.2 = false ∨ ((q.2.1 k).2.2.2 = true ∧ y.name = "<init>" ∧ (q.2.1 k).1 = y.cls)) (hd : decode cc pc = .ok (.putfield idx, 3)) (kk : Gx κ (pc + 3) L st sh I (zu P o k (some v)) ce sl) : Gx κ pc L (.ref v :: .ref o :: st) sh I P ce sl := by
  refine zput0 cx (v := .ref v) hlk hsh hkn (hn _) (hfit _) hfin (fun a ha => rfl) (fun a ha => ?_) (fun b j => ?_) hd kk
  · funext c
    exact zu_ne (fun q => ha q.1)
  · by_cases hj : j = k
    · subst hj
      rw [if_pos rfl, zF, if_pos hrf, zu_same]
      rfl
    · rw [if_neg hj, zF, zF, zu_ne (fun q => hj q.2)]
theorem g_iald {κ : zX} {y : MethodName} {cc : ByteArray} {nL : Nat} {ret : Option FieldType} {fr lo : Nat} (cx : Cx y cc nL ret fr lo κ) {pc : Nat} {L st : List Value} {sh : zSh} {I : zI} {P : zP} {ce sl : Nat} {a n : Nat} {i x : Int32} (hd : decode cc pc = .ok (.iaload, 1)) (hsh : sh[a]? = some (11, n)) (hin : vp_in i n) (hv : I a i.toNatClampNeg = x) (kk : Gx κ (pc + 1) L (.int x :: st) sh I P ce sl) : Gx κ pc L (.int i :: .ref a :: st) sh I P ce sl := by
  obtain ⟨p, l, e, R, s, m, args, below, meth, c, Q, D, dA, b, tA, nq⟩ := κ
  obtain ⟨hx, hb, hr, hml, rfl, hown, hts, hK, hnm, hlk0, hfr, hlo, hbs⟩ := cx
  intro H locs ls hP hz hS hl
  subst hv
  exact va_iald hx hb hK.1 hP a 0 (zW_at hsh) rfl hin hd (kk H locs ls hP hz hS hl)
theorem g_bald {κ : zX} {y : MethodName} {cc : ByteArray} {nL : Nat} {ret : Option FieldType} {fr lo : Nat} (cx : Cx y cc nL ret fr lo κ) {pc : Nat} {L st : List Value} {sh : zSh} {I : zI} {P : zP} {ce sl : Nat} {a n : Nat} {i x : Int32} (hd : decode cc pc = .ok (.baload, 1)) (hsh : sh[a]? = some (12, n)) (hin : vp_in i n) (hv : I a i.toNatClampNeg = x) (kk : Gx κ (pc + 1) L (.int x :: st) sh I P ce sl) : Gx κ pc L (.int i :: .ref a :: st) sh I P ce sl := by
  obtain ⟨p, l, e, R, s, m, args, below, meth, c, Q, D, dA, b, tA, nq⟩ := κ
  obtain ⟨hx, hb, hr, hml, rfl, hown, hts, hK, hnm, hlk0, hfr, hlo, hbs⟩ := cx
  intro H locs ls hP hz hS hl
  subst hv
  exact va_zald hx hb hK.1 hP a 1 (zW_at hsh) rfl hin hd (kk H locs ls hP hz hS hl)
theorem g_iast {κ : zX} {y : MethodName} {cc : ByteArray} {nL : Nat} {ret : Option FieldType} {fr lo : Nat} (cx : Cx y cc nL ret fr lo κ) {pc : Nat} {L st : List Value} {sh : zSh} {I : zI} {P : zP} {ce sl : Nat} {a n : Nat} {i x : Int32} (hd : decode cc pc = .ok (.iastore, 1)) (hsh : sh[a]? = some (11, n)) (hin : vp_in i n) (kk : Gx κ (pc + 1) L st sh (zu I a i.toNatClampNeg x) P ce sl) : Gx κ pc L (.int x :: .int i :: .ref a :: st) sh I P ce sl := by
  obtain ⟨p, l, e, R, s, m, args, below, meth, c, Q, D, dA, b, tA, nq⟩ := κ
  obtain ⟨hx, hb, hr, hml, rfl, hown, hts, hK, hnm, hlk0, hfr, hlo, hbs⟩ := cx
  intro H locs ls hP hz hS hl
  have hat := zW_at (dA := dA) (b := b) (I := I) (P := P) hsh
  refine W.iast hx hb (hP a _ hat) ((hK.1.2 0 _ rfl).1 n (fun j => .int (I a j))) (fun q => by cases q) (by show ¬ (i < 0 ∨ (arrV _ _ _).slots.size ≤ _); rw [arrV_size]; exact hin) rfl rfl hd fun H1 e z oq => ?_
  have hP1 : va_P D vwCl (zW dA b sh (zu I a i.toNatClampNeg x) P) H1 := by
    rw [← zW_set (I := I) (P := P) hsh (fun c hc => by funext j; exact zu_ne (fun q => hc q.1)) (fun c hc => rfl)]
    refine hP.set zW_D hat ?_ oq
    show H1[b + a]? = some (vp_cell (dA 11) (n, .inl (zu I a i.toNatClampNeg x a)))
    rw [e, vp_cell_i, vp_cell_i, arrV_store]
    congr 2
    funext q
    by_cases hq : q = i.toNatClampNeg
    · subst hq
      simp [updV, zu, vp_nar]
      try rfl
    · simp [updV, zu, hq]
  exact kk H1 _ ls hP1 (z.trans hz) (hS.put z oq (Nat.le_add_right b a)) hl
theorem g_bast {κ : zX} {y : MethodName} {cc : ByteArray} {nL : Nat} {ret : Option FieldType} {fr lo : Nat} (cx : Cx y cc nL ret fr lo κ) {pc : Nat} {L st : List Value} {sh : zSh} {I : zI} {P : zP} {ce sl : Nat} {a n : Nat} {i x : Int32} (hd : decode cc pc = .ok (.bastore, 1)) (hsh : sh[a]? = some (12, n)) (hin : vp_in i n) (kk : Gx κ (pc + 1) L st sh (zu I a i.toNatClampNeg (vp_nar .boolean x)) P ce sl) : Gx κ pc L (.int x :: .int i :: .ref a :: st) sh I P ce sl := by
  obtain ⟨p, l, e, R, s, m, args, below, meth, c, Q, D, dA, b, tA, nq⟩ := κ
  obtain ⟨hx, hb, hr, hml, rfl, hown, hts, hK, hnm, hlk0, hfr, hlo, hbs⟩ := cx
  intro H locs ls hP hz hS hl
  have hat := zW_at (dA := dA) (b := b) (I := I) (P := P) hsh
  refine W.zast hx hb (hP a _ hat) ((hK.1.2 1 _ rfl).1 n (fun j => .int (I a j))) (fun q => by cases q) (by show ¬ (i < 0 ∨ (arrV _ _ _).slots.size ≤ _); rw [arrV_size]; exact hin) rfl rfl hd fun H1 e z oq => ?_
  have hP1 : va_P D vwCl (zW dA b sh (zu I a i.toNatClampNeg (vp_nar .boolean x)) P) H1 := by
    rw [← zW_set (I := I) (P := P) hsh (fun c hc => by funext j; exact zu_ne (fun q => hc q.1)) (fun c hc => rfl)]
    refine hP.set zW_D hat ?_ oq
    show H1[b + a]? = some (vp_cell (dA 12) (n, .inl (zu I a i.toNatClampNeg (vp_nar .boolean x) a)))
    rw [e, vp_cell_i, vp_cell_i, arrV_store]
    congr 2
    funext q
    by_cases hq : q = i.toNatClampNeg
    · subst hq
      simp [updV, zu, vp_nar]
      try rfl
    · simp [updV, zu, hq]
  exact kk H1 _ ls hP1 (z.trans hz) (hS.put z oq (Nat.le_add_right b a)) hl
theorem g_alen {κ : zX} {y : MethodName} {cc : ByteArray} {nL : Nat} {ret : Option FieldType} {fr lo : Nat} (cx : Cx y cc nL ret fr lo κ) {pc : Nat} {L st : List Value} {sh : zSh} {I : zI} {P : zP} {ce sl : Nat} {a t n : Nat} (hsh : sh[a]? = some (t, n)) (ht : 11 ≤ t) (ht2 : t < 16) (hd : decode cc pc = .ok (.arraylength, 1)) (kk : Gx κ (pc + 1) L (.int (Int32.ofNat n) :: st) sh I P ce sl) : Gx κ pc L (.ref a :: st) sh I P ce sl := by
  obtain ⟨p, l, e, R, s, m, args, below, meth, c, Q, D, dA, b, tA, nq⟩ := κ
  obtain ⟨hx, hb, hr, hml, rfl, hown, hts, hK, hnm, hlk0, hfr, hlo, hbs⟩ := cx
  intro H locs ls hP hz hS hl
  have h : ∃ (x : vp_A) (ty : FieldType), zE dA b t n (I a) (P a) = .inl (dA t, x) ∧ x.1 = n ∧ (zTys dA)[t - 11]? = some (dA t, ty) := by
    rcases (show t = 11 ∨ t = 12 ∨ t = 13 ∨ t = 14 ∨ t = 15 by omega) with rfl | rfl | rfl | rfl | rfl <;> exact ⟨_, _, rfl, rfl, rfl⟩
  obtain ⟨x, ty, h1, h2, h3⟩ := h
  exact va_alen hx hb hK.1 hP a (t - 11) ((zW_at hsh).trans (by rw [h1])) h3 (by rw [h2]) hd (kk H locs ls hP hz hS hl)
theorem zWq {dA : Nat → ClassId} {b : Nat} {sh : zSh} {I : zI} {P : zP} {a t n : Nat} (h : sh[a]? = some (t, n)) (ht : 13 ≤ t) : (zW dA b sh I P)[a]? = some (b + a, .inl (dA t, n, .inr (.inr (.inr (.inr (fun j => zr b (P a j))))))) := by
  rw [zW_at h, zE, if_neg (by omega), if_neg (by omega)]
def zCn (t : Nat) : String := if t = 13 then "ProbeLoom$Frame" else if t = 14 then "ProbeLoom$Method" else "ProbeLoom$Tale"
theorem zTysq {dA : Nat → ClassId} {t : Nat} (h1 : 13 ≤ t) (h2 : t < 16) : (zTys dA)[t - 11]? = some (dA t, .object (zCn t)) := by
  rcases (show t = 13 ∨ t = 14 ∨ t = 15 by omega) with rfl | rfl | rfl <;> rfl
theorem g_aald {κ : zX} {y : MethodName} {cc : ByteArray} {nL : Nat} {ret : Option FieldType} {fr lo : Nat} (cx : Cx y cc nL ret fr lo κ) {pc : Nat} {L st : List Value} {sh : zSh} {I : zI} {P : zP} {ce sl : Nat} {a t n v : Nat} {i : Int32} (hsh : sh[a]? = some (t, n)) (ht : 13 ≤ t) (ht2 : t < 16) (hin : vp_in i n) (hv : P a i.toNatClampNeg = some v) (hd : decode cc pc = .ok (.aaload, 1)) (kk : Gx κ (pc + 1) L (.ref v :: st) sh I P ce sl) : Gx κ pc L (.int i :: .ref a :: st) sh I P ce sl := by
  obtain ⟨p, l, e, R, s, m, args, below, meth, c, Q, D, dA, b, tA, nq⟩ := κ
  obtain ⟨hx, hb, hr, hml, rfl, hown, hts, hK, hnm, hlk0, hfr, hlo, hbs⟩ := cx
  intro H locs ls hP hz hS hl
  refine va_aldq hx hb hK.1 hP a (t - 11) (zWq hsh ht) (zTysq ht ht2) hin hd ?_
  rw [hv]
  exact kk H locs ls hP hz hS hl
theorem g_aast {κ : zX} {y : MethodName} {cc : ByteArray} {nL : Nat} {ret : Option FieldType} {fr lo : Nat} (cx : Cx y cc nL ret fr lo κ) {pc : Nat} {L st : List Value} {sh : zSh} {I : zI} {P : zP} {ce sl : Nat} {a t n v ci nv : Nat} {q : vw_C} {i : Int32} (hsh : sh[a]? = some (t, n)) (ht : 13 ≤ t) (ht2 : t < 16) (hin : vp_in i n) (hv : sh[v]? = some (ci, nv)) (hc : vwCl[ci]? = some q) (hq : q.1 = zCn t) (hd : decode cc pc = .ok (.aastore, 1)) (kk : Gx κ (pc + 1) L st sh I (zu P a i.toNatClampNeg (some v)) ce sl) : Gx κ pc L (.ref v :: .int i :: .ref a :: st) sh I P ce sl := by
  obtain ⟨p, l, e, R, s, m, args, below, meth, c, Q, D, dA, b, tA, nq⟩ := κ
  obtain ⟨hx, hb, hr, hml, rfl, hown, hts, hK, hnm, hlk0, hfr, hlo, hbs⟩ := cx
  intro H locs ls hP hz hS hl
  have hat := zWq (dA := dA) (b := b) (I := I) (P := P) hsh ht
  have hlt : i.toNatClampNeg < n := Nat.not_le.mp fun q => hin (Or.inr q)
  have h0 : ¬ i < 0 := fun q => hin (Or.inl q)
  obtain ⟨r', hr', cellV, g1, g2, g3, -⟩ := hP v _ (zWo hv (zlt11 hc))
  have hcls := (hK.1.1 ci q hc).2
  obtain ⟨kA, comp, k1, k2, k3, -⟩ := (hK.1.2 (t - 11) _ (zTysq ht ht2)).2
  rw [← hq] at k3
  have hcomp : comp = D.1 ci := Option.some.inj (k3.symm.trans hcls.1)
  subst hcomp
  obtain ⟨kC, hkC, -⟩ := hcls.2
  refine W.aast hx hb (hP a _ hat) (fun q h => by cases h) (fun h => by cases h) k1 k2 rfl hkC ⟨h0, by show _ < (arrV _ _ _).slots.size; rw [arrV_size]; exact hlt⟩ g1 (fun q h => by rw [g3] at h; cases h) (by rw [g2]; exact hkC) (by rw [g2]; exact va_assign hcls) rfl rfl hd fun H1 e z oq => ?_
  have hP1 : va_P D vwCl (zW dA b sh I (zu P a i.toNatClampNeg (some v))) H1 := by
    rw [← zW_set (I := I) (P := P) hsh (fun c hc => rfl) (fun c hc => by funext j; exact zu_ne (fun q => hc q.1))]
    refine hP.set zW_D hat ?_ oq
    rw [zE, if_neg (by omega), if_neg (by omega)]
    show H1[b + a]? = some (vp_cell _ _)
    rw [e]
    rw [vp_cell_q, vp_cell_q, arrV_store]
    congr 2
    funext q
    by_cases hq : q = i.toNatClampNeg
    · subst hq
      simp [updV, zu, va_rf, zr]
    · simp [updV, zu, hq]
  exact kk H1 _ ls hP1 (z.trans hz) (hS.put z oq (Nat.le_add_right b a)) hl
theorem zW_push {dA : Nat → ClassId} {b : Nat} {sh : zSh} {I : zI} {P : zP} {t n : Nat} : zW dA b (sh ++ [(t, n)]) I P = zW dA b sh I P ++ [(b + sh.length, zE dA b t n (I sh.length) (P sh.length))] := by
  unfold zW
  rw [List.length_append, List.length_singleton, List.range_succ, List.map_append]
  congr 1
  · apply List.map_congr_left
    intro k hk
    have hk := List.mem_range.mp hk
    simp [List.getD_eq_getElem?_getD, List.getElem?_append_left hk]
  · simp [List.getD_eq_getElem?_getD]
theorem zgrow {D : va_G} {dA : Nat → ClassId} {b : Nat} {sh : zSh} {I : zI} {P : zP} {t n : Nat} {H H1 : Heap} {s : State} {locs : List Loc} (hP : va_P D vwCl (zW dA b sh I P) H) (hz : H.size = b + sh.length) (hS : va_S (fun q => b ≤ q) s.heap H locs) (z1 : H1.size = H.size + 1) (o1 : ∀ q, q < H.size → H1[q]? = H[q]?) (hat : va_at D vwCl (b + sh.length, zE dA b t n (I sh.length) (P sh.length)) H1) : va_P D vwCl (zW dA b (sh ++ [(t, n)]) I P) H1 ∧ H1.size = b + (sh ++ [(t, n)]).length ∧ va_S (fun q => b ≤ q) s.heap H1 locs := by
  have hk : ∀ (k : Nat) (x : Nat × va_E), (zW dA b sh I P)[k]? = some x → H1[x.1]? = H[x.1]? := fun k x hx => o1 x.1 ((hP k x hx).lt)
  refine ⟨?_, by rw [z1, hz, List.length_append, List.length_singleton]; omega, Nat.le_trans hS.1 (by omega), fun x h1 h2 => (o1 x (Nat.lt_of_lt_of_le h1 hS.1)).trans (hS.2.1 x h1 h2), hS.2.2⟩
  rw [zW_push]
  refine (hP.kept hk).app (fun k x hx => ?_)
  have hz2 : k < 1 := (List.getElem?_eq_some_iff.mp hx).1
  rw [show k = 0 by omega] at hx
  cases hx
  exact hat
theorem g_new {κ : zX} {y : MethodName} {cc : ByteArray} {nL : Nat} {ret : Option FieldType} {fr lo : Nat} (cx : Cx y cc nL ret fr lo κ) {pc : Nat} {L st : List Value} {sh : zSh} {I : zI} {P : zP} {ce sl : Nat} {idx t : Nat} {q : vw_C} (hc : vwCl[t]? = some q) (hcl : Cond.classLink y.cls idx q.1 ∈ wsG) (hinst : Cond.instantiable q.1 q.2.2 ∈ wsG) (hini : Cond.initialized q.1 ∈ wsG) (hI : ∀ j, I sh.length j = 0) (hPn : ∀ j, P sh.length j = none) (hdf : ∀ j, j < q.2.2 → defaultValue (zTy t j) = if zRf t j = true then .null else .int 0) (hrc : ∀ mc ms, zRoom κ mc ms → ce + 1 ≤ mc ∧ sl + q.2.2 ≤ ms) (hd : decode cc pc = .ok (.new idx, 3)) (kk : Gx κ (pc + 3) L (.ref sh.length :: st) (sh ++ [(t, q.2.2)]) I P (ce + 1) (sl + q.2.2)) : Gx κ pc L st sh I P ce sl := by
  obtain ⟨p, l, e, R, s, m, args, below, meth, c, Q, D, dA, b, tA, nq⟩ := κ
  obtain ⟨hx, hb, hr, hml, rfl, hown, hts, hK, hnm, hlk0, hfr, hlo, hbs⟩ := cx
  intro H locs ls hP hz hS hl
  have hKn := hK.1.1 t _ hc
  have hroom := hrc R.cells R.slots ⟨rfl, rfl⟩
  refine W.newcK hx hb hown (hts _ hcl) (hts _ hinst) (hts _ hini) rfl hd hroom.1 hroom.2 hKn.2.1 rfl fun H1 kC hkC e1 z1 o1 => ?_
  have hat : va_at D vwCl (b + sh.length, zE dA b t q.2.2 (I sh.length) (P sh.length)) H1 := by
    rw [zE, if_pos (zlt11 hc)]
    refine ⟨_, hc, (u_born (zTy t) hts (zcls hc).1 hKn hkC (by rw [← hz]; exact e1) (zcls hc).2.1).to (fun j hj => ?_)⟩
    rw [hdf j hj, vp_V, List.getD_eq_getElem?_getD, zfs hj, zF, hI, hPn]
    rfl
  obtain ⟨g1, g2, g3⟩ := zgrow hP hz hS z1 o1 hat
  rw [show (Value.ref (Array.size H)) = zv b tA (.ref sh.length) by rw [hz]; rfl]
  exact kk H1 locs ls g1 g2 g3 hl
theorem g_newI {κ : zX} {y : MethodName} {cc : ByteArray} {nL : Nat} {ret : Option FieldType} {fr lo : Nat} (cx : Cx y cc nL ret fr lo κ) {pc : Nat} {L st : List Value} {sh : zSh} {I : zI} {P : zP} {ce sl : Nat} {x : Int32} {N : Nat} (hn : ¬ x < 0) (hN : x.toNatClampNeg = N) (hb2 : N ≤ 1000000) (hI : ∀ j, I sh.length j = 0) (hrc : ∀ mc ms, zRoom κ mc ms → ce + 1 ≤ mc ∧ sl + N ≤ ms) (hd : decode cc pc = .ok (.newarray .int, 2)) (kk : Gx κ (pc + 2) L (.ref sh.length :: st) (sh ++ [(11, N)]) I P (ce + 1) (sl + N)) : Gx κ pc L (.int x :: st) sh I P ce sl := by
  obtain ⟨p, l, e, R, s, m, args, below, meth, c, Q, D, dA, b, tA, nq⟩ := κ
  obtain ⟨hx, hb, hr, hml, rfl, hown, hts, hK, hnm, hlk0, hfr, hlo, hbs⟩ := cx
  intro H locs ls hP hz hS hl
  have hroom := hrc R.cells R.slots ⟨rfl, rfl⟩
  refine va_newaK hx hb (hts _ (zarr_int)) rfl hd rfl hn hN (by simp only [newarray.typeOf, componentBytes]; omega) hroom.1 hroom.2 rfl fun H1 cA e1 z1 o1 hAr hNm => ?_
  have hcA : cA = dA 11 := by
    have h2 := (hK.1.2 0 _ rfl).2
    exact Option.some.inj (hNm.symm.trans h2)
  have hat : va_at D vwCl (b + sh.length, zE dA b 11 N (I sh.length) (P sh.length)) H1 := by
    show H1[b + sh.length]? = some (vp_cell (dA 11) (N, .inl (I sh.length)))
    rw [← hz, e1, vp_cell_i, hcA, show I sh.length = fun _ => 0 from funext hI]
    rfl
  obtain ⟨g1, g2, g3⟩ := zgrow hP hz hS z1 o1 hat
  rw [show (Value.ref (Array.size H)) = zv b tA (.ref sh.length) by rw [hz]; rfl]
  exact kk H1 locs ls g1 g2 g3 hl
theorem g_newZ {κ : zX} {y : MethodName} {cc : ByteArray} {nL : Nat} {ret : Option FieldType} {fr lo : Nat} (cx : Cx y cc nL ret fr lo κ) {pc : Nat} {L st : List Value} {sh : zSh} {I : zI} {P : zP} {ce sl : Nat} {x : Int32} {N : Nat} (hn : ¬ x < 0) (hN : x.toNatClampNeg = N) (hb2 : N ≤ 1000000) (hI : ∀ j, I sh.length j = 0) (hrc : ∀ mc ms, zRoom κ mc ms → ce + 1 ≤ mc ∧ sl + N ≤ ms) (hd : decode cc pc = .ok (.newarray .boolean, 2)) (kk : Gx κ (pc + 2) L (.ref sh.length :: st) (sh ++ [(12, N)]) I P (ce + 1) (sl + N)) : Gx κ pc L (.int x :: st) sh I P ce sl := by
  obtain ⟨p, l, e, R, s, m, args, below, meth, c, Q, D, dA, b, tA, nq⟩ := κ
  obtain ⟨hx, hb, hr, hml, rfl, hown, hts, hK, hnm, hlk0, hfr, hlo, hbs⟩ := cx
  intro H locs ls hP hz hS hl
  have hroom := hrc R.cells R.slots ⟨rfl, rfl⟩
  refine va_newaK hx hb (hts _ (zarr_boolean)) rfl hd rfl hn hN (by simp only [newarray.typeOf, componentBytes]; omega) hroom.1 hroom.2 rfl fun H1 cA e1 z1 o1 hAr hNm => ?_
  have hcA : cA = dA 12 := by
    have h2 := (hK.1.2 1 _ rfl).2
    exact Option.some.inj (hNm.symm.trans h2)
  have hat : va_at D vwCl (b + sh.length, zE dA b 12 N (I sh.length) (P sh.length)) H1 := by
    show H1[b + sh.length]? = some (vp_cell (dA 12) (N, .inl (I sh.length)))
    rw [← hz, e1, vp_cell_i, hcA, show I sh.length = fun _ => 0 from funext hI]
    rfl
  obtain ⟨g1, g2, g3⟩ := zgrow hP hz hS z1 o1 hat
  rw [show (Value.ref (Array.size H)) = zv b tA (.ref sh.length) by rw [hz]; rfl]
  exact kk H1 locs ls g1 g2 g3 hl
theorem g_newR {κ : zX} {y : MethodName} {cc : ByteArray} {nL : Nat} {ret : Option FieldType} {fr lo : Nat} (cx : Cx y cc nL ret fr lo κ) {pc : Nat} {L st : List Value} {sh : zSh} {I : zI} {P : zP} {ce sl : Nat} {idx t : Nat} {x : Int32} {N : Nat} (ht : 13 ≤ t) (ht2 : t < 16) (hcl : Cond.classLink y.cls idx (zCn t) ∈ wsG) (hn : ¬ x < 0) (hN : x.toNatClampNeg = N) (hb2 : N ≤ 1000000) (hPn : ∀ j, P sh.length j = none) (hrc : ∀ mc ms, zRoom κ mc ms → ce + 1 ≤ mc ∧ sl + N ≤ ms) (hd : decode cc pc = .ok (.anewarray idx, 3)) (kk : Gx κ (pc + 3) L (.ref sh.length :: st) (sh ++ [(t, N)]) I P (ce + 1) (sl + N)) : Gx κ pc L (.int x :: st) sh I P ce sl := by
  obtain ⟨p, l, e, R, s, m, args, below, meth, c, Q, D, dA, b, tA, nq⟩ := κ
  obtain ⟨hx, hb, hr, hml, rfl, hown, hts, hK, hnm, hlk0, hfr, hlo, hbs⟩ := cx
  intro H locs ls hP hz hS hl
  have hroom := hrc R.cells R.slots ⟨rfl, rfl⟩
  subst hN
  have hover : va_AO (zCn t) s := hK.2.2.1 _ (by rcases (show t = 13 ∨ t = 14 ∨ t = 15 by omega) with rfl | rfl | rfl <;> decide)
  refine W.anew hx hb hown (hts _ hcl) (va_AO.use hover) rfl hd rfl hn (by omega) hroom.1 hroom.2 fun cA kA comp f1 f2 f3 f4 => ?_
  generalize hH1 : H.push ({ cls := cA, slots := Array.replicate x.toNatClampNeg .null, vm := .none } : Cell) = H1
  have z1 : H1.size = H.size + 1 := by rw [← hH1, Array.size_push]
  have e1 : H1[H.size]? = some (arrV cA x.toNatClampNeg (fun _ => .null)) := by rw [← hH1, Array.getElem?_push_size, ← arrV_new]
  have o1 : ∀ q : Nat, q < H.size → H1[q]? = H[q]? := fun q hq => by rw [← hH1, Array.getElem?_push, if_neg (Nat.ne_of_lt hq)]
  have hcA : cA = dA t := by
    obtain ⟨_, _, _, _, _, k4⟩ := (hK.1.2 (t - 11) _ (zTysq ht ht2)).2
    exact Option.some.inj (f1.symm.trans k4)
  have hat : va_at D vwCl (b + sh.length, zE dA b t x.toNatClampNeg (I sh.length) (P sh.length)) H1 := by
    rw [zE, if_neg (by omega), if_neg (by omega)]
    show H1[b + sh.length]? = some (vp_cell (dA t) (x.toNatClampNeg, .inr (.inr (.inr (.inr (fun j => zr b (P sh.length j)))))))
    rw [← hz, e1, vp_cell_q, hcA, show P sh.length = fun _ => none from funext hPn]
    rfl
  obtain ⟨g1, g2, g3⟩ := zgrow hP hz hS z1 o1 hat
  rw [show (Value.ref (Array.size H)) = zv b tA (.ref sh.length) by rw [hz]; rfl]
  exact kk H1 locs ls g1 g2 g3 hl
theorem g_objInit {κ : zX} {y : MethodName} {cc : ByteArray} {nL : Nat} {ret : Option FieldType} {fr lo : Nat} (cx : Cx y cc nL ret fr lo κ) {pc : Nat} {L st : List Value} {sh : zSh} {I : zI} {P : zP} {ce sl : Nat} {idx o : Nat} (hlink : Cond.methodLink y.cls idx Lib.objectInit ∈ wsG) (hst : st.length ≤ 6) (hlv : ∀ v ∈ st, zlive v = true) (hfr1 : 1 ≤ fr) (hlo1 : 20 ≤ lo) (hd : decode cc pc = .ok (.invokespecial idx, 3)) (kk : Gx κ (pc + 3) L st sh I P ce sl) : Gx κ pc L (.ref o :: st) sh I P ce sl := by
  obtain ⟨p, l, e, R, s, m, args, below, meth, c, Q, D, dA, b, tA, nq⟩ := κ
  obtain ⟨hx, hb, hr, hml, rfl, hown, hts, hK, hnm, hlk0, hfr, hlo, hbs⟩ := cx
  intro H locs ls hP hz hS hl
  refine W.objInit hx hb hown (hts _ hlink) (hts _ zobjI) (hts _ zobjC) rfl (by rw [hml]; exact hl.1) rfl hd (by omega) ?_ (kk H locs ls hP hz hS hl)
  have h1 : ((st.map (zv b tA)).map fun v => v.category).sum = st.length := zcatsum hlv
  show 2 * (F0 m pc ls _).monitorRoom + ((st.map (zv b tA)).map fun v => v.category).sum + 12 ≤ R.locals
  rw [h1]
  have h2 : (F0 m pc ls (List.map (zv b tA) (Value.ref o :: st))).monitorRoom = 0 := rfl
  omega
theorem g_gets {κ : zX} {y : MethodName} {cc : ByteArray} {nL : Nat} {ret : Option FieldType} {fr lo : Nat} (cx : Cx y cc nL ret fr lo κ) {pc : Nat} {L st : List Value} {sh : zSh} {I : zI} {P : zP} {ce sl : Nat} {idx i : Nat} {q : String × String × List Int32} (hi : zStat[i]? = some q) (hlink : Cond.fieldLink y.cls idx q.1 q.2.1 "[I" ∈ wsG) (hd : decode cc pc = .ok (.getstatic idx, 3)) (kk : Gx κ (pc + 3) L (.retAddr i :: st) sh I P ce sl) : Gx κ pc L st sh I P ce sl := by
  obtain ⟨p, l, e, R, s, m, args, below, meth, c, Q, D, dA, b, tA, nq⟩ := κ
  obtain ⟨hx, hb, hr, hml, rfl, hown, hts, hK, hnm, hlk0, hfr, hlo, hbs⟩ := cx
  intro H locs ls hP hz hS hl
  exact va_gets hx hb (hK.2.2.2 i q hi).1 hS hown (hts _ hlink) (fun _ h9 => h9) hd (kk H locs ls hP hz hS hl)
theorem g_tld {κ : zX} {y : MethodName} {cc : ByteArray} {nL : Nat} {ret : Option FieldType} {fr lo : Nat} (cx : Cx y cc nL ret fr lo κ) {pc : Nat} {L st : List Value} {sh : zSh} {I : zI} {P : zP} {ce sl : Nat} {i : Nat} {q : String × String × List Int32} {j : Int32} (hi : zStat[i]? = some q) (hin : vp_in j q.2.2.length) (hd : decode cc pc = .ok (.iaload, 1)) (kk : Gx κ (pc + 1) L (.int (q.2.2.getD j.toNatClampNeg 0) :: st) sh I P ce sl) : Gx κ pc L (.int j :: .retAddr i :: st) sh I P ce sl := by
  obtain ⟨p, l, e, R, s, m, args, below, meth, c, Q, D, dA, b, tA, nq⟩ := κ
  obtain ⟨hx, hb, hr, hml, rfl, hown, hts, hK, hnm, hlk0, hfr, hlo, hbs⟩ := cx
  intro H locs ls hP hz hS hl
  exact va_ti hx hb (hK.2.2.2 i q hi).2 hS hin rfl hd (kk H locs ls hP hz hS hl)
theorem g_tlen {κ : zX} {y : MethodName} {cc : ByteArray} {nL : Nat} {ret : Option FieldType} {fr lo : Nat} (cx : Cx y cc nL ret fr lo κ) {pc : Nat} {L st : List Value} {sh : zSh} {I : zI} {P : zP} {ce sl : Nat} {i : Nat} {q : String × String × List Int32} (hi : zStat[i]? = some q) (hd : decode cc pc = .ok (.arraylength, 1)) (kk : Gx κ (pc + 1) L (.int (Int32.ofNat q.2.2.length) :: st) sh I P ce sl) : Gx κ pc L (.retAddr i :: st) sh I P ce sl := by
  obtain ⟨p, l, e, R, s, m, args, below, meth, c, Q, D, dA, b, tA, nq⟩ := κ
  obtain ⟨hx, hb, hr, hml, rfl, hown, hts, hK, hnm, hlk0, hfr, hlo, hbs⟩ := cx
  intro H locs ls hP hz hS hl
  exact va_tlen hx hb (hK.2.2.2 i q hi).2 hS rfl hd (kk H locs ls hP hz hS hl)
