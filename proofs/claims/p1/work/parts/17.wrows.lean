def PSL : List (Nat × Nat × Nat) := [(0, 0, 1), (0, 4, 2), (4, 0, 5), (4, 1, 6), (0, 5, 4), (7, 0, 8), (7, 1, 9), (7, 2, 10), (7, 3, 11), (7, 4, 12), (7, 5, 13), (7, 6, 14), (7, 7, 15), (7, 8, 16), (7, 9, 17), (7, 10, 18), (0, 6, 7), (20, 1, 21), (20, 2, 22), (20, 3, 23), (20, 4, 24), (20, 5, 25), (26, 0, 27), (26, 1, 28), (26, 2, 29), (26, 3, 30), (26, 4, 31), (20, 6, 26), (19, 0, 20), (32, 1, 33), (32, 2, 34), (32, 3, 35), (32, 4, 36), (32, 5, 37), (38, 0, 39), (38, 1, 40), (38, 2, 41), (38, 3, 42), (38, 4, 43), (32, 6, 38), (19, 1, 32), (44, 1, 45), (44, 2, 46), (44, 3, 47), (44, 4, 48), (44, 5, 49), (50, 0, 51), (50, 1, 52), (50, 2, 53), (50, 3, 54), (50, 4, 55), (44, 6, 50), (19, 2, 44), (56, 1, 57), (56, 2, 58), (56, 3, 59), (56, 4, 60), (56, 5, 61), (62, 0, 63), (62, 1, 64), (62, 2, 65), (62, 3, 66), (62, 4, 67), (56, 6, 62), (19, 3, 56), (68, 1, 69), (68, 2, 70), (68, 3, 71), (68, 4, 72), (68, 5, 73), (74, 0, 75), (74, 1, 76), (74, 2, 77), (74, 3, 78), (74, 4, 79), (68, 6, 74), (19, 4, 68), (80, 1, 81), (80, 2, 82), (80, 3, 83), (80, 4, 84), (80, 5, 85), (86, 0, 87), (86, 1, 88), (86, 2, 89), (86, 3, 90), (86, 4, 91), (80, 6, 86), (19, 5, 80), (93, 0, 94), (93, 1, 95), (93, 2, 96), (93, 3, 97), (92, 0, 93), (98, 0, 99), (98, 1, 100), (98, 2, 101), (98, 3, 102), (92, 1, 98), (103, 0, 104), (103, 1, 105), (103, 2, 106), (103, 3, 107), (92, 2, 103), (108, 0, 109), (108, 1, 110), (108, 2, 111), (108, 3, 112), (108, 4, 113), (0, 1, 19), (0, 2, 92), (0, 3, 108), (114, 2, 115), (114, 3, 116), (114, 4, 117), (114, 5, 118), (114, 0, 19), (114, 1, 108), (119, 0, 120), (119, 1, 121), (115, 0, 119), (122, 0, 123), (122, 1, 124), (115, 1, 122), (125, 0, 126), (125, 1, 127), (115, 2, 125), (128, 0, 129), (128, 1, 130), (115, 3, 128), (131, 0, 132), (131, 1, 133), (115, 4, 131), (134, 0, 135), (134, 1, 136), (115, 5, 134), (137, 0, 138), (137, 1, 139), (115, 6, 137), (140, 0, 141), (140, 1, 142), (115, 7, 140), (143, 0, 144), (143, 1, 145), (115, 8, 143), (146, 0, 147), (146, 1, 148), (115, 9, 146), (149, 0, 150), (149, 1, 151), (115, 10, 149), (152, 0, 153), (152, 1, 154), (115, 11, 152), (0, 7, 114), (155, 0, 156), (155, 4, 157), (155, 5, 158), (155, 6, 159), (155, 7, 160), (155, 8, 161), (155, 9, 162), (155, 10, 163), (155, 11, 164), (155, 12, 165), (155, 13, 166), (155, 14, 167), (155, 15, 168), (155, 16, 169), (155, 18, 170), (155, 19, 171), (155, 20, 172), (155, 21, 173), (155, 22, 174), (155, 23, 175), (155, 24, 176), (155, 25, 177), (155, 26, 178), (155, 27, 179), (155, 28, 180), (155, 29, 181), (155, 30, 182), (155, 31, 183), (155, 32, 184), (155, 33, 185), (155, 34, 186), (155, 35, 187), (155, 36, 188), (155, 40, 189), (155, 41, 190), (155, 43, 191), (155, 44, 192), (155, 45, 193), (155, 46, 194), (155, 49, 195), (155, 56, 196), (155, 57, 197), (155, 58, 198), (155, 59, 199), (155, 60, 200), (155, 61, 201), (155, 62, 202), (155, 64, 203), (155, 69, 204), (155, 70, 205), (155, 71, 206), (155, 72, 207), (155, 74, 208), (155, 75, 209), (155, 76, 210), (155, 77, 211), (155, 78, 212), (155, 79, 213), (155, 80, 214), (155, 81, 215), (155, 82, 216), (155, 83, 217), (155, 84, 218), (155, 85, 219), (155, 86, 220)]
/-- the references that never change -/
def PSt (P : zP) : Prop := ∀ q ∈ PSL, P q.1 q.2.1 = some q.2.2
theorem pst {P : zP} (h : PSt P) (i : Nat) {q : Nat × Nat × Nat} (hq : PSL[i]? = some q) : P q.1 q.2.1 = some q.2.2 := h q (List.mem_of_getElem? hq)
theorem PSt_y : PSt PPy := by
  unfold PSt
  decide +kernel
theorem pst_put {P : zP} {o k t n : Nat} {v : Option Nat} (h : PSt P) (hsh : SHy[o]? = some (t, n)) (hd : (PSL.all fun q => !(((SHy.getD q.1 (0, 0)).1 == t) && (q.2.1 == k))) = true) : PSt (zu P o k v) := by
  intro q hq
  rw [zu_ne ?_]
  · exact h q hq
  · rintro ⟨h1, h2⟩
    have h3 := List.all_eq_true.mp hd q hq
    rw [h1, h2, List.getD_eq_getElem?_getD, hsh] at h3
    simp at h3
theorem zifp {c A B : Prop} [Decidable c] (hc : c) (h : if c then A else B) : A := by rwa [if_pos hc] at h
theorem zifn {c A B : Prop} [Decidable c] (hc : ¬ c) (h : if c then A else B) : B := by rwa [if_neg hc] at h
theorem Gx.unset {κ : zX} {pc : Nat} {L st : List Value} {sh : zSh} {I : zI} {P : zP} {ce sl : Nat} (i : Nat) (kk : Gx κ pc (L.set i (.float 0)) st sh I P ce sl) : Gx κ pc L st sh I P ce sl := by
  obtain ⟨p, l, e, R, s, m, args, below, meth, c, Q, D, dA, b, tA, nq⟩ := κ
  intro H locs ls hP hz hS hl
  refine kk H locs ls hP hz hS ⟨hl.1, hl.2.1, fun q hq => ?_⟩
  obtain ⟨v, h1, h2, h3⟩ := zl_mem.mp hq
  refine hl.2.2 q (zl_mem.mpr ⟨v, ?_, h2, h3⟩)
  by_cases hi : q.1 = i
  · exfalso
    rw [hi] at h1
    have hlt : i < L.length := by have := (List.getElem?_eq_some_iff.mp h1).1; rwa [List.length_set] at this
    rw [List.getElem?_set_self hlt] at h1
    cases h1
    cases h2
  · rwa [List.getElem?_set_ne (fun e => hi e.symm)] at h1
def zKi (K : Int32 → zI → zP → Prop) : Option Value → zSh → zI → zP → Prop := fun r sh I P => sh = SHy ∧ PSt P ∧ ∃ v, r = some (.int v) ∧ K v I P
def zKv (K : zI → zP → Prop) : Option Value → zSh → zI → zP → Prop := fun r sh I P => sh = SHy ∧ PSt P ∧ r = none ∧ K I P
def zKr (K : Nat → zI → zP → Prop) : Option Value → zSh → zI → zP → Prop := fun r sh I P => sh = SHy ∧ PSt P ∧ ∃ k, r = some (.ref k) ∧ K k I P
theorem g_wSi {κ : zX} {y : MethodName} {cc : ByteArray} {nL : Nat} {ret : Option FieldType} {fr lo : Nat} (cx : Cx y cc nL ret fr lo κ) {pc : Nat} {L st : List Value} {I : zI} {P : zP} {idx fr2 lo2 nL2 : Nat} {y2 : MethodName} {cc2 : ByteArray} {ret2 : Option FieldType} {K : Int32 → zI → zP → Prop} (As rest : List Value) (hE : Ev y2 cc2 nL2 ret2 fr2 lo2 0 0 As SHy I P (zKi K)) (hM : zMs y2 cc2 nL2 ret2 As.length) (hl2 : zMl y.cls idx y2) (hd : decode cc pc = .ok (.invokestatic idx, 3)) (hstk : st = As.reverse ++ rest) (hlv : rest.all zlive = true) (hst : rest.length ≤ 8) (hf1 : fr2 + 1 ≤ fr) (hf2 : 8 + (nL2 + 11) + lo2 ≤ lo) (kk : ∀ (v : Int32) (I2 : zI) (P2 : zP), PSt P2 → K v I2 P2 → Gx κ (pc + 3) L (.int v :: rest) SHy I2 P2 0 0) : Gx κ pc L st SHy I P 0 0 :=
  g_callS cx As rest hE hM hl2 hstk (zallL hlv) hst hf1 hf2 (fun _ _ _ => ⟨Nat.zero_le _, Nat.zero_le _⟩) hd (fun r sh2 I2 P2 hq => by
    obtain ⟨rfl, h1, v, rfl, h2⟩ := hq
    exact kk v I2 P2 h1 h2)
theorem g_wVi {κ : zX} {y : MethodName} {cc : ByteArray} {nL : Nat} {ret : Option FieldType} {fr lo : Nat} (cx : Cx y cc nL ret fr lo κ) {pc : Nat} {L st : List Value} {I : zI} {P : zP} {idx fr2 lo2 nL2 : Nat} {y2 : MethodName} {cc2 : ByteArray} {ret2 : Option FieldType} {K : Int32 → zI → zP → Prop} {o t n : Nat} {q : vw_C} (As rest : List Value) (hE : Ev y2 cc2 nL2 ret2 fr2 lo2 0 0 (.ref o :: As) SHy I P (zKi K)) (hM : zMv y2 cc2 nL2 ret2 As.length) (hl2 : zMl y.cls idx y2) (hsh : SHy[o]? = some (t, n)) (hc : vwCl[t]? = some q) (hq : q.1 = y2.cls) (hd : decode cc pc = .ok (.invokevirtual idx, 3)) (hstk : st = As.reverse ++ .ref o :: rest) (hlv : rest.all zlive = true) (hst : rest.length ≤ 8) (hf1 : fr2 + 1 ≤ fr) (hf2 : 8 + (nL2 + 11) + lo2 ≤ lo) (kk : ∀ (v : Int32) (I2 : zI) (P2 : zP), PSt P2 → K v I2 P2 → Gx κ (pc + 3) L (.int v :: rest) SHy I2 P2 0 0) : Gx κ pc L st SHy I P 0 0 :=
  g_callV cx As rest hE hM hl2 hstk hsh hc hq (zallL hlv) hst hf1 hf2 (fun _ _ _ => ⟨Nat.zero_le _, Nat.zero_le _⟩) hd (fun r sh2 I2 P2 hq => by
    obtain ⟨rfl, h1, v, rfl, h2⟩ := hq
    exact kk v I2 P2 h1 h2)
theorem g_wSv {κ : zX} {y : MethodName} {cc : ByteArray} {nL : Nat} {ret : Option FieldType} {fr lo : Nat} (cx : Cx y cc nL ret fr lo κ) {pc : Nat} {L st : List Value} {I : zI} {P : zP} {idx fr2 lo2 nL2 : Nat} {y2 : MethodName} {cc2 : ByteArray} {ret2 : Option FieldType} {K : zI → zP → Prop} (As rest : List Value) (hE : Ev y2 cc2 nL2 ret2 fr2 lo2 0 0 As SHy I P (zKv K)) (hM : zMs y2 cc2 nL2 ret2 As.length) (hl2 : zMl y.cls idx y2) (hd : decode cc pc = .ok (.invokestatic idx, 3)) (hstk : st = As.reverse ++ rest) (hlv : rest.all zlive = true) (hst : rest.length ≤ 8) (hf1 : fr2 + 1 ≤ fr) (hf2 : 8 + (nL2 + 11) + lo2 ≤ lo) (kk : ∀ (I2 : zI) (P2 : zP), PSt P2 → K I2 P2 → Gx κ (pc + 3) L rest SHy I2 P2 0 0) : Gx κ pc L st SHy I P 0 0 :=
  g_callS cx As rest hE hM hl2 hstk (zallL hlv) hst hf1 hf2 (fun _ _ _ => ⟨Nat.zero_le _, Nat.zero_le _⟩) hd (fun r sh2 I2 P2 hq => by
    obtain ⟨rfl, h1, rfl, h2⟩ := hq
    exact kk I2 P2 h1 h2)
theorem g_wVv {κ : zX} {y : MethodName} {cc : ByteArray} {nL : Nat} {ret : Option FieldType} {fr lo : Nat} (cx : Cx y cc nL ret fr lo κ) {pc : Nat} {L st : List Value} {I : zI} {P : zP} {idx fr2 lo2 nL2 : Nat} {y2 : MethodName} {cc2 : ByteArray} {ret2 : Option FieldType} {K : zI → zP → Prop} {o t n : Nat} {q : vw_C} (As rest : List Value) (hE : Ev y2 cc2 nL2 ret2 fr2 lo2 0 0 (.ref o :: As) SHy I P (zKv K)) (hM : zMv y2 cc2 nL2 ret2 As.length) (hl2 : zMl y.cls idx y2) (hsh : SHy[o]? = some (t, n)) (hc : vwCl[t]? = some q) (hq : q.1 = y2.cls) (hd : decode cc pc = .ok (.invokevirtual idx, 3)) (hstk : st = As.reverse ++ .ref o :: rest) (hlv : rest.all zlive = true) (hst : rest.length ≤ 8) (hf1 : fr2 + 1 ≤ fr) (hf2 : 8 + (nL2 + 11) + lo2 ≤ lo) (kk : ∀ (I2 : zI) (P2 : zP), PSt P2 → K I2 P2 → Gx κ (pc + 3) L rest SHy I2 P2 0 0) : Gx κ pc L st SHy I P 0 0 :=
  g_callV cx As rest hE hM hl2 hstk hsh hc hq (zallL hlv) hst hf1 hf2 (fun _ _ _ => ⟨Nat.zero_le _, Nat.zero_le _⟩) hd (fun r sh2 I2 P2 hq => by
    obtain ⟨rfl, h1, rfl, h2⟩ := hq
    exact kk I2 P2 h1 h2)
theorem g_wSr {κ : zX} {y : MethodName} {cc : ByteArray} {nL : Nat} {ret : Option FieldType} {fr lo : Nat} (cx : Cx y cc nL ret fr lo κ) {pc : Nat} {L st : List Value} {I : zI} {P : zP} {idx fr2 lo2 nL2 : Nat} {y2 : MethodName} {cc2 : ByteArray} {ret2 : Option FieldType} {K : Nat → zI → zP → Prop} (As rest : List Value) (hE : Ev y2 cc2 nL2 ret2 fr2 lo2 0 0 As SHy I P (zKr K)) (hM : zMs y2 cc2 nL2 ret2 As.length) (hl2 : zMl y.cls idx y2) (hd : decode cc pc = .ok (.invokestatic idx, 3)) (hstk : st = As.reverse ++ rest) (hlv : rest.all zlive = true) (hst : rest.length ≤ 8) (hf1 : fr2 + 1 ≤ fr) (hf2 : 8 + (nL2 + 11) + lo2 ≤ lo) (kk : ∀ (v : Nat) (I2 : zI) (P2 : zP), PSt P2 → K v I2 P2 → Gx κ (pc + 3) L (.ref v :: rest) SHy I2 P2 0 0) : Gx κ pc L st SHy I P 0 0 :=
  g_callS cx As rest hE hM hl2 hstk (zallL hlv) hst hf1 hf2 (fun _ _ _ => ⟨Nat.zero_le _, Nat.zero_le _⟩) hd (fun r sh2 I2 P2 hq => by
    obtain ⟨rfl, h1, v, rfl, h2⟩ := hq
    exact kk v I2 P2 h1 h2)
theorem g_wVr {κ : zX} {y : MethodName} {cc : ByteArray} {nL : Nat} {ret : Option FieldType} {fr lo : Nat} (cx : Cx y cc nL ret fr lo κ) {pc : Nat} {L st : List Value} {I : zI} {P : zP} {idx fr2 lo2 nL2 : Nat} {y2 : MethodName} {cc2 : ByteArray} {ret2 : Option FieldType} {K : Nat → zI → zP → Prop} {o t n : Nat} {q : vw_C} (As rest : List Value) (hE : Ev y2 cc2 nL2 ret2 fr2 lo2 0 0 (.ref o :: As) SHy I P (zKr K)) (hM : zMv y2 cc2 nL2 ret2 As.length) (hl2 : zMl y.cls idx y2) (hsh : SHy[o]? = some (t, n)) (hc : vwCl[t]? = some q) (hq : q.1 = y2.cls) (hd : decode cc pc = .ok (.invokevirtual idx, 3)) (hstk : st = As.reverse ++ .ref o :: rest) (hlv : rest.all zlive = true) (hst : rest.length ≤ 8) (hf1 : fr2 + 1 ≤ fr) (hf2 : 8 + (nL2 + 11) + lo2 ≤ lo) (kk : ∀ (v : Nat) (I2 : zI) (P2 : zP), PSt P2 → K v I2 P2 → Gx κ (pc + 3) L (.ref v :: rest) SHy I2 P2 0 0) : Gx κ pc L st SHy I P 0 0 :=
  g_callV cx As rest hE hM hl2 hstk hsh hc hq (zallL hlv) hst hf1 hf2 (fun _ _ _ => ⟨Nat.zero_le _, Nat.zero_le _⟩) hd (fun r sh2 I2 P2 hq => by
    obtain ⟨rfl, h1, v, rfl, h2⟩ := hq
    exact kk v I2 P2 h1 h2)
theorem g_wi {κ : zX} {y : MethodName} {cc : ByteArray} {nL : Nat} {ret : Option FieldType} {fr lo : Nat} (cx : Cx y cc nL ret fr lo κ) {pc : Nat} {L : List Value} {I : zI} {P : zP} {K : Int32 → zI → zP → Prop} {v : Int32} {ty : FieldType} (hE : zEnd (zKi K) 0 0 κ) (hd : decode cc pc = .ok (.ireturn, 1)) (hrt : ret = some ty) (hn : narrow ty (.int v) = .int v) (hP : PSt P) (h : K v I P) : Gx κ pc L [.int v] SHy I P 0 0 :=
  g_iret cx hE (Nat.le_refl _) (Nat.le_refl _) hrt hn hd ⟨rfl, hP, v, rfl, h⟩
theorem g_wv {κ : zX} {y : MethodName} {cc : ByteArray} {nL : Nat} {ret : Option FieldType} {fr lo : Nat} (cx : Cx y cc nL ret fr lo κ) {pc : Nat} {L : List Value} {I : zI} {P : zP} {K : zI → zP → Prop} (hE : zEnd (zKv K) 0 0 κ) (hd : decode cc pc = .ok (.return_, 1)) (hrt : ret = none) (hP : PSt P) (h : K I P) : Gx κ pc L [] SHy I P 0 0 :=
  g_vret cx hE (Nat.le_refl _) (Nat.le_refl _) hrt hd ⟨rfl, hP, rfl, h⟩
theorem g_wr {κ : zX} {y : MethodName} {cc : ByteArray} {nL : Nat} {ret : Option FieldType} {fr lo : Nat} (cx : Cx y cc nL ret fr lo κ) {pc : Nat} {L : List Value} {I : zI} {P : zP} {K : Nat → zI → zP → Prop} {k : Nat} {rt : FieldType} (hE : zEnd (zKr K) 0 0 κ) (hd : decode cc pc = .ok (.areturn, 1)) (hrt : ret = some rt) (hrt2 : (∃ n, rt = .object n) ∨ ∃ t, rt = .array t) (hP : PSt P) (h : K k I P) : Gx κ pc L [.ref k] SHy I P 0 0 :=
  g_aret cx hE (Nat.le_refl _) (Nat.le_refl _) hrt hrt2 hd ⟨rfl, hP, k, rfl, h⟩
def zbo (v : Int32) : Prop := v = 0 ∨ v = 1
theorem zbo_n {v : Int32} (h : zbo v) : narrow .boolean (.int v) = .int v := by rcases h with rfl | rfl <;> rfl
theorem zbo_f {v : Int32} (h : zbo v) : fits .boolean (.int v) = true := by rcases h with rfl | rfl <;> rfl
def zlen (a : Nat) : Nat := (SHy.getD a (0, 0)).2
