/-- what the tables say of a method, and of a link to it -/
def zMc (y : MethodName) (cc : ByteArray) (nL : Nat) (ret : Option FieldType) (n : Nat) : Prop := Cond.code y cc nL ret ∈ wsG ∧ Cond.initialized y.cls ∈ wsG ∧ (y.cls ≠ "java/lang/invoke/MethodHandle" ∧ y.cls ≠ "java/lang/invoke/VarHandle" ∧ (parseMethodDescriptor y.desc).map (fun d => d.parameters.length) = some n)
def zMv (y : MethodName) (cc : ByteArray) (nL : Nat) (ret : Option FieldType) (n : Nat) : Prop := zMc y cc nL ret n ∧ Cond.instanceMethod y ∈ wsG ∧ Cond.selects y.cls y y ∈ wsG
def zMs (y : MethodName) (cc : ByteArray) (nL : Nat) (ret : Option FieldType) (n : Nat) : Prop := zMc y cc nL ret n ∧ Cond.static y ∈ wsG
def zMi (y : MethodName) (cc : ByteArray) (nL : Nat) (n : Nat) : Prop := zMc y cc nL none n ∧ Cond.instanceMethod y ∈ wsG ∧ y.name = "<init>"
def zMl (own : String) (idx : Nat) (y : MethodName) : Prop := Cond.methodLink own idx y ∈ wsG ∨ ∃ host, (own, idx, y, host) ∈ zNest
theorem zblind {D : va_G} {dA : Nat → ClassId} {b : Nat} {tA : Nat → Nat} {As : List Value} {sh : zSh} {I : zI} {P : zP} : FrameBlind (zPc D dA b tA As sh I P) := by
  intro a U g mk h
  obtain ⟨h1, h2, h3, h4⟩ := h
  exact ⟨h1, zK_calling h2, h3, h4⟩
theorem zpre {D : va_G} {dA : Nat → ClassId} {b : Nat} {tA : Nat → Nat} {As : List Value} {sh : zSh} {I : zI} {P : zP} {s U : State} {H : Heap} {locs : List Loc} (hK : zK D dA b tA s) (hP : va_P D vwCl (zW dA b sh I P) H) (hz : H.size = b + sh.length) (hS : va_S (fun q => b ≤ q) s.heap H locs) (hU : U.heap = H) (hW : s.WarmedH U.vm) : zPc D dA b tA As sh I P (As.map (zv b tA)).toArray U :=
  ⟨rfl, zK_move hK hW (fun a h1 h2 => by rw [hU]; exact hS.2.1 a h1 h2), by rw [hU]; exact hP, by rw [hU]; exact hz⟩
section ZCALL
variable {p : Program} {l : Launch} {e : Env} {R : Room} {s : State} {m : MethodId} {args : Array Value} {below : List Frame} {meth : Method} {c : Code} {H : Heap} {locs : List Loc} {ce sl : Nat} {Q : State → Prop} {D : va_G} {dA : Nat → ClassId} {b : Nat} {tA : Nat → Nat}
theorem zback {pc mc ms : Nat} {ls : Array Slot} {st0 rest : List Value} {a : Array Value} {Qf : Option Value → zSh → zI → zP → Prop} (hr : va_Run p l e R s m args below meth c H locs ce sl mc ms (F0 m pc ls st0) rest (zQc D dA b tA Qf a) (fun q => b ≤ q)) (hS : va_S (fun q => b ≤ q) s.heap H locs)
    (kk : ∀ (r : Option Value) (sh : zSh) (I : zI) (P : zP) (H1 : Heap) (locs1 : List Loc), Qf r sh I P → va_P D vwCl (zW dA b sh I P) H1 → H1.size = b + sh.length → va_S (fun q => b ≤ q) s.heap H1 locs1 → W p l e R s m args below meth c H1 locs1 (ce + mc) (sl + ms) Q (F0 m (pc + 3) ls ((r.map (zv b tA)).toList ++ rest))) : W p l e R s m args below meth c H locs ce sl Q (F0 m pc ls st0) := by
  intro T hT X
  obtain ⟨v, st₀, t, T', L, h0, X', hL, e1, e2, ⟨⟨r, sh, I, P, hv, hq, hP, hz⟩, hF⟩, st⟩ := hr T hT X
  cases hv
  obtain ⟨hF1, hF2⟩ := hF
  rw [h0] at hF1 hF2
  obtain ⟨t2, a1, b1⟩ := kk r sh I P T'.heap (locs ++ L) hq (by rw [e1]; exact hP) (by rw [e1]; exact hz)
    ⟨Nat.le_trans hS.1 (by rw [e1]; exact hF1), fun q h1 h2 => by rw [e1, hF2 q (Nat.lt_of_lt_of_le h1 hS.1) h2]; exact hS.2.1 q h1 h2, fun q hq => by
      rcases List.mem_append.mp hq with h | h
      · exact hS.2.2 q h
      · exact hL q h⟩ T' rfl X'
  exact ⟨t2, st t2 a1, b1⟩
end ZCALL
theorem g_callV {κ : zX} {y : MethodName} {cc : ByteArray} {nL : Nat} {ret : Option FieldType} {fr lo : Nat} (cx : Cx y cc nL ret fr lo κ) {pc : Nat} {L st : List Value} {sh : zSh} {I : zI} {P : zP} {ce sl : Nat} {idx fr2 lo2 mc ms nL2 : Nat} {y2 : MethodName} {cc2 : ByteArray} {ret2 : Option FieldType} {Qf : Option Value → zSh → zI → zP → Prop} {o t n : Nat} {q : vw_C} (As rest : List Value) (hE : Ev y2 cc2 nL2 ret2 fr2 lo2 mc ms (.ref o :: As) sh I P Qf) (hM : zMv y2 cc2 nL2 ret2 As.length) (hl2 : zMl y.cls idx y2) (hstk : st = As.reverse ++ .ref o :: rest) (hsh : sh[o]? = some (t, n)) (hc : vwCl[t]? = some q) (hq : q.1 = y2.cls) (hlv : ∀ v ∈ rest, zlive v = true) (hst : rest.length ≤ 8) (hf1 : fr2 + 1 ≤ fr) (hf2 : 8 + (nL2 + 11) + lo2 ≤ lo) (hrc : ∀ mc9 ms9, zRoom κ mc9 ms9 → ce + mc ≤ mc9 ∧ sl + ms ≤ ms9) (hd : decode cc pc = .ok (.invokevirtual idx, 3)) (kk : ∀ (r : Option Value) (sh2 : zSh) (I2 : zI) (P2 : zP), Qf r sh2 I2 P2 → Gx κ (pc + 3) L (r.toList ++ rest) sh2 I2 P2 (ce + mc) (sl + ms)) : Gx κ pc L st sh I P ce sl := by
  obtain ⟨p, l, e, R, s, m, args, below, meth, c, Q, D, dA, b, tA, nq⟩ := κ
  obtain ⟨hx, hb, hr, hml, rfl, hown, hts, hK, hnm, hlk0, hfr, hlo, hbs⟩ := cx
  intro H locs ls hP hz hS hl
  have hroom := hrc R.cells R.slots ⟨rfl, rfl⟩
  have hcat : 2 * (F0 m pc ls (st.map (zv b tA))).monitorRoom + ((rest.map (zv b tA)).map fun v => v.category).sum ≤ 8 := by
    rw [zcatsum hlv]
    have h2 : (F0 m pc ls (List.map (zv b tA) st)).monitorRoom = 0 := rfl
    omega
  have hend : ∀ (r : Option Value) (sh2 : zSh) (I2 : zI) (P2 : zP) (H1 : Heap) (locs1 : List Loc), Qf r sh2 I2 P2 → va_P D vwCl (zW dA b sh2 I2 P2) H1 → H1.size = b + sh2.length → va_S (fun q => b ≤ q) s.heap H1 locs1 → W p l e R s m args below meth c H1 locs1 (ce + mc) (sl + ms) Q (F0 m (pc + 3) ls ((r.map (zv b tA)).toList ++ rest.map (zv b tA))) := by
    intro r sh2 I2 P2 H1 locs1 hq hP1 hz1 hS1
    have h3 := kk r sh2 I2 P2 hq H1 locs1 ls hP1 hz1 hS1 hl
    rw [List.map_append] at h3
    cases r <;> exact h3
  have hstack : (F0 m pc ls (st.map (zv b tA))).stack = (As.map (zv b tA)).reverse ++ .ref (b + o) :: rest.map (zv b tA) := by
    show st.map (zv b tA) = _
    rw [hstk, List.map_append, List.map_reverse]
    rfl
  have hrecv := va_recv hK.1 hP hc (zWo hsh (zlt11 hc))
  rw [hq] at hrecv
  obtain ⟨⟨hm1, hm2, hm3⟩, hm4, hm5⟩ := hM
  rcases hl2 with hl2 | ⟨host, hl2⟩
  · refine zback (va_runV (As := As.map (zv b tA)) (rest := rest.map (zv b tA)) ⟨hx, hb, hml, hown, hts⟩ (hE l D dA b tA) ⟨callB_of As.length hts (wsG_in hm1) rfl rfl rfl (hts _ hm2) (hts _ hl2) hm3 ⟨Nat.le_trans hf1 hfr, Nat.le_trans hf2 hlo⟩, hts _ hm4, hts _ hm5⟩ ⟨zblind, hrecv, fun U hU hW => zpre hK hP hz hS hU hW⟩ rfl (by simp) hl.1 hstack hcat hd hroom) hS hend
  · refine zback (va_runVN (As := As.map (zv b tA)) (rest := rest.map (zv b tA)) ⟨hx, hb, hml, hown, hts⟩ (hE l D dA b tA) ⟨va_cnB As.length hts (wsG_in hm1) rfl rfl rfl (hK.2.1 _ hl2) (hts _ hm2) hm3 ⟨Nat.le_trans hf1 hfr, Nat.le_trans hf2 hlo⟩, hts _ hm4, hts _ hm5⟩ ⟨zblind, hrecv, fun U hU hW => zpre hK hP hz hS hU hW⟩ rfl (by simp) hl.1 hstack hcat hd hroom) hS hend
theorem g_callS {κ : zX} {y : MethodName} {cc : ByteArray} {nL : Nat} {ret : Option FieldType} {fr lo : Nat} (cx : Cx y cc nL ret fr lo κ) {pc : Nat} {L st : List Value} {sh : zSh} {I : zI} {P : zP} {ce sl : Nat} {idx fr2 lo2 mc ms nL2 : Nat} {y2 : MethodName} {cc2 : ByteArray} {ret2 : Option FieldType} {Qf : Option Value → zSh → zI → zP → Prop} (As rest : List Value) (hE : Ev y2 cc2 nL2 ret2 fr2 lo2 mc ms As sh I P Qf) (hM : zMs y2 cc2 nL2 ret2 As.length) (hl2 : zMl y.cls idx y2) (hstk : st = As.reverse ++ rest) (hlv : ∀ v ∈ rest, zlive v = true) (hst : rest.length ≤ 8) (hf1 : fr2 + 1 ≤ fr) (hf2 : 8 + (nL2 + 11) + lo2 ≤ lo) (hrc : ∀ mc9 ms9, zRoom κ mc9 ms9 → ce + mc ≤ mc9 ∧ sl + ms ≤ ms9) (hd : decode cc pc = .ok (.invokestatic idx, 3)) (kk : ∀ (r : Option Value) (sh2 : zSh) (I2 : zI) (P2 : zP), Qf r sh2 I2 P2 → Gx κ (pc + 3) L (r.toList ++ rest) sh2 I2 P2 (ce + mc) (sl + ms)) : Gx κ pc L st sh I P ce sl := by
  obtain ⟨p, l, e, R, s, m, args, below, meth, c, Q, D, dA, b, tA, nq⟩ := κ
  obtain ⟨hx, hb, hr, hml, rfl, hown, hts, hK, hnm, hlk0, hfr, hlo, hbs⟩ := cx
  intro H locs ls hP hz hS hl
  have hroom := hrc R.cells R.slots ⟨rfl, rfl⟩
  have hcat : 2 * (F0 m pc ls (st.map (zv b tA))).monitorRoom + ((rest.map (zv b tA)).map fun v => v.category).sum ≤ 8 := by
    rw [zcatsum hlv]
    have h2 : (F0 m pc ls (List.map (zv b tA) st)).monitorRoom = 0 := rfl
    omega
  have hend : ∀ (r : Option Value) (sh2 : zSh) (I2 : zI) (P2 : zP) (H1 : Heap) (locs1 : List Loc), Qf r sh2 I2 P2 → va_P D vwCl (zW dA b sh2 I2 P2) H1 → H1.size = b + sh2.length → va_S (fun q => b ≤ q) s.heap H1 locs1 → W p l e R s m args below meth c H1 locs1 (ce + mc) (sl + ms) Q (F0 m (pc + 3) ls ((r.map (zv b tA)).toList ++ rest.map (zv b tA))) := by
    intro r sh2 I2 P2 H1 locs1 hq hP1 hz1 hS1
    have h3 := kk r sh2 I2 P2 hq H1 locs1 ls hP1 hz1 hS1 hl
    rw [List.map_append] at h3
    cases r <;> exact h3
  have hstack : (F0 m pc ls (st.map (zv b tA))).stack = (As.map (zv b tA)).reverse ++ rest.map (zv b tA) := by
    show st.map (zv b tA) = _
    rw [hstk, List.map_append, List.map_reverse]
  obtain ⟨⟨hm1, hm2, hm3⟩, hm4⟩ := hM
  rcases hl2 with hl2 | ⟨host, hl2⟩
  · refine zback (va_runS (As := As.map (zv b tA)) (rest := rest.map (zv b tA)) ⟨hx, hb, hml, hown, hts⟩ (hE l D dA b tA) ⟨callB_of As.length hts (wsG_in hm1) rfl rfl rfl (hts _ hm2) (hts _ hl2) hm3 ⟨Nat.le_trans hf1 hfr, Nat.le_trans hf2 hlo⟩, hts _ hm4⟩ ⟨zblind, fun U hU hW => zpre hK hP hz hS hU hW⟩ rfl (by simp) hl.1 hstack hcat hd hroom) hS hend
  · refine zback (va_runSN (As := As.map (zv b tA)) (rest := rest.map (zv b tA)) ⟨hx, hb, hml, hown, hts⟩ (hE l D dA b tA) ⟨va_cnB As.length hts (wsG_in hm1) rfl rfl rfl (hK.2.1 _ hl2) (hts _ hm2) hm3 ⟨Nat.le_trans hf1 hfr, Nat.le_trans hf2 hlo⟩, hts _ hm4, trivial⟩ ⟨zblind, fun U hU hW => zpre hK hP hz hS hU hW⟩ rfl (by simp) hl.1 hstack hcat hd hroom) hS hend
theorem g_callI {κ : zX} {y : MethodName} {cc : ByteArray} {nL : Nat} {ret : Option FieldType} {fr lo : Nat} (cx : Cx y cc nL ret fr lo κ) {pc : Nat} {L st : List Value} {sh : zSh} {I : zI} {P : zP} {ce sl : Nat} {idx fr2 lo2 mc ms nL2 : Nat} {y2 : MethodName} {cc2 : ByteArray} {Qf : Option Value → zSh → zI → zP → Prop} {o : Nat} (As rest : List Value) (hE : Ev y2 cc2 nL2 none fr2 lo2 mc ms (.ref o :: As) sh I P Qf) (hM : zMi y2 cc2 nL2 As.length) (hl2 : zMl y.cls idx y2) (hstk : st = As.reverse ++ .ref o :: rest) (hlv : ∀ v ∈ rest, zlive v = true) (hst : rest.length ≤ 8) (hf1 : fr2 + 1 ≤ fr) (hf2 : 8 + (nL2 + 11) + lo2 ≤ lo) (hrc : ∀ mc9 ms9, zRoom κ mc9 ms9 → ce + mc ≤ mc9 ∧ sl + ms ≤ ms9) (hd : decode cc pc = .ok (.invokespecial idx, 3)) (kk : ∀ (r : Option Value) (sh2 : zSh) (I2 : zI) (P2 : zP), Qf r sh2 I2 P2 → Gx κ (pc + 3) L (r.toList ++ rest) sh2 I2 P2 (ce + mc) (sl + ms)) : Gx κ pc L st sh I P ce sl := by
  obtain ⟨p, l, e, R, s, m, args, below, meth, c, Q, D, dA, b, tA, nq⟩ := κ
  obtain ⟨hx, hb, hr, hml, rfl, hown, hts, hK, hnm, hlk0, hfr, hlo, hbs⟩ := cx
  intro H locs ls hP hz hS hl
  have hroom := hrc R.cells R.slots ⟨rfl, rfl⟩
  have hcat : 2 * (F0 m pc ls (st.map (zv b tA))).monitorRoom + ((rest.map (zv b tA)).map fun v => v.category).sum ≤ 8 := by
    rw [zcatsum hlv]
    have h2 : (F0 m pc ls (List.map (zv b tA) st)).monitorRoom = 0 := rfl
    omega
  have hend : ∀ (r : Option Value) (sh2 : zSh) (I2 : zI) (P2 : zP) (H1 : Heap) (locs1 : List Loc), Qf r sh2 I2 P2 → va_P D vwCl (zW dA b sh2 I2 P2) H1 → H1.size = b + sh2.length → va_S (fun q => b ≤ q) s.heap H1 locs1 → W p l e R s m args below meth c H1 locs1 (ce + mc) (sl + ms) Q (F0 m (pc + 3) ls ((r.map (zv b tA)).toList ++ rest.map (zv b tA))) := by
    intro r sh2 I2 P2 H1 locs1 hq hP1 hz1 hS1
    have h3 := kk r sh2 I2 P2 hq H1 locs1 ls hP1 hz1 hS1 hl
    rw [List.map_append] at h3
    cases r <;> exact h3
  have hstack : (F0 m pc ls (st.map (zv b tA))).stack = (As.map (zv b tA)).reverse ++ .ref (b + o) :: rest.map (zv b tA) := by
    show st.map (zv b tA) = _
    rw [hstk, List.map_append, List.map_reverse]
    rfl
  obtain ⟨⟨hm1, hm2, hm3⟩, hm4, hm5⟩ := hM
  rcases hl2 with hl2 | ⟨host, hl2⟩
  · refine zback (va_runI (As := As.map (zv b tA)) (rest := rest.map (zv b tA)) ⟨hx, hb, hml, hown, hts⟩ (hE l D dA b tA) ⟨callB_of As.length hts (wsG_in hm1) rfl rfl rfl (hts _ hm2) (hts _ hl2) hm3 ⟨Nat.le_trans hf1 hfr, Nat.le_trans hf2 hlo⟩, hm5, hts _ hm4⟩ ⟨zblind, fun U hU hW => zpre hK hP hz hS hU hW⟩ rfl (by simp) hl.1 hstack hcat hd hroom) hS hend
  · refine zback (va_runIN (As := As.map (zv b tA)) (rest := rest.map (zv b tA)) ⟨hx, hb, hml, hown, hts⟩ (hE l D dA b tA) ⟨va_cnB As.length hts (wsG_in hm1) rfl rfl rfl (hK.2.1 _ hl2) (hts _ hm2) hm3 ⟨Nat.le_trans hf1 hfr, Nat.le_trans hf2 hlo⟩, hm5, hts _ hm4⟩ ⟨zblind, fun U hU hW => zpre hK hP hz hS hU hW⟩ rfl (by simp) hl.1 hstack hcat hd hroom) hS hend
