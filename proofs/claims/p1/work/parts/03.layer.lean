/-! THE LAYER: one base b; every cell of ours has an index k and lies at b + k; a world is a shape (kind, size) of each index, its ints I and its references P.
Kinds: 0 .. 10 objects of vwCl's classes, 11 int[], 12 boolean[], 13 Frame[], 14 Method[], 15 Tale[]. -/
def zv (b : Nat) (tA : Nat → Nat) (v : Value) : Value := match v with
  | .ref k => .ref (b + k)
  | .retAddr k => .ref (tA k)
  | w => w
def zr (b : Nat) (r : Option Nat) : Option Nat := r.map (fun k => b + k)
theorem zv_rf (b : Nat) (tA : Nat → Nat) (r : Option Nat) : zv b tA (va_rf r) = va_rf (zr b r) := by cases r <;> rfl
def zlive (v : Value) : Bool := match v with
  | .int _ => true
  | .null => true
  | .ref _ => true
  | .retAddr _ => true
  | _ => false
theorem zv_cat {b : Nat} {tA : Nat → Nat} {v : Value} (h : zlive v = true) : (zv b tA v).category = 1 := by
  cases v <;> first | rfl | cases h
def zl (b : Nat) (tA : Nat → Nat) (L : List Value) : List (Nat × Value) := (List.range L.length).filterMap (fun i => match L[i]? with
  | some v => if zlive v = true then some (i, zv b tA v) else none
  | none => none)
theorem zl_mem {b : Nat} {tA : Nat → Nat} {L : List Value} {q : Nat × Value} : q ∈ zl b tA L ↔ ∃ v, L[q.1]? = some v ∧ zlive v = true ∧ q.2 = zv b tA v := by
  unfold zl
  rw [List.mem_filterMap]
  constructor
  · rintro ⟨i, hi, h⟩
    split at h
    · rename_i v hv
      split at h
      · rename_i hl
        cases h
        exact ⟨v, hv, hl, rfl⟩
      · cases h
    · cases h
  · rintro ⟨v, hv, hl, he⟩
    refine ⟨q.1, List.mem_range.mpr (List.getElem?_eq_some_iff.mp hv).1, ?_⟩
    rw [hv]
    simp only [hl, if_true]
    exact congrArg some (Prod.ext rfl he.symm)
theorem zl_get {b : Nat} {tA : Nat → Nat} {L : List Value} {ls : Array Slot} {nL : Nat} (h : lv_has ls nL (zl b tA L)) {i : Nat} {v : Value} (hi : L[i]? = some v) (hv : zlive v = true) : ls[i]? = some (.val (zv b tA v)) := h.2.2 (i, zv b tA v) (zl_mem.mpr ⟨v, hi, hv, rfl⟩)
theorem zl_set {b : Nat} {tA : Nat → Nat} {L : List Value} {ls : Array Slot} {nL i : Nat} {w : Value} (h : lv_has ls nL ((i, zv b tA w) :: (zl b tA L).filter (fun q => !(q.1 == i) && !(q.1 + 1 == i && q.2.category == 2)))) : lv_has ls nL (zl b tA (L.set i w)) := by
  refine ⟨h.1, h.2.1, fun q hq => ?_⟩
  obtain ⟨v, h1, h2, h3⟩ := zl_mem.mp hq
  by_cases hqi : q.1 = i
  · have h4 : v = w := by
      rw [hqi, List.getElem?_set_self (by have := (List.getElem?_eq_some_iff.mp h1).1; rw [List.length_set] at this; omega)] at h1
      exact (Option.some.inj h1).symm
    refine h.2.2 q ?_
    rw [List.mem_cons]
    left
    exact Prod.ext hqi (by rw [h3, h4])
  · rw [List.getElem?_set_ne (fun e => hqi e.symm)] at h1
    refine h.2.2 q (List.mem_cons_of_mem _ (List.mem_filter.mpr ⟨zl_mem.mpr ⟨v, h1, h2, h3⟩, ?_⟩))
    rw [h3, zv_cat h2]
    simp [hqi]
abbrev zSh : Type := List (Nat × Nat)
abbrev zI : Type := Nat → Nat → Int32
abbrev zP : Type := Nat → Nat → Option Nat
def zF (b t : Nat) (i : Nat → Int32) (r : Nat → Option Nat) (j : Nat) : Value := if zRf t j = true then va_rf (zr b (r j)) else .int (i j)
def zE (dA : Nat → ClassId) (b t n : Nat) (i : Nat → Int32) (r : Nat → Option Nat) : va_E := if t < 11 then .inr (t, (List.range n).map (zF b t i r)) else if t < 13 then .inl (dA t, n, .inl i) else .inl (dA t, n, .inr (.inr (.inr (.inr (fun j => zr b (r j))))))
def zW (dA : Nat → ClassId) (b : Nat) (sh : zSh) (I : zI) (P : zP) : va_W := (List.range sh.length).map (fun k => (b + k, zE dA b (sh.getD k (0, 0)).1 (sh.getD k (0, 0)).2 (I k) (P k)))
theorem zW_at {dA : Nat → ClassId} {b : Nat} {sh : zSh} {I : zI} {P : zP} {k t n : Nat} (h : sh[k]? = some (t, n)) : (zW dA b sh I P)[k]? = some (b + k, zE dA b t n (I k) (P k)) := by
  have hk := (List.getElem?_eq_some_iff.mp h).1
  unfold zW
  rw [List.getElem?_map, List.getElem?_range hk]
  simp [List.getD_eq_getElem?_getD, h]
theorem zW_len {dA : Nat → ClassId} {b : Nat} {sh : zSh} {I : zI} {P : zP} : (zW dA b sh I P).length = sh.length := by simp [zW]
theorem zW_inv {dA : Nat → ClassId} {b : Nat} {sh : zSh} {I : zI} {P : zP} {k : Nat} {q : Nat × va_E} (h : (zW dA b sh I P)[k]? = some q) : k < sh.length ∧ q.1 = b + k := by
  have hk : k < sh.length := by have := (List.getElem?_eq_some_iff.mp h).1; rwa [zW_len] at this
  refine ⟨hk, ?_⟩
  rw [zW_at (t := (sh.getD k (0, 0)).1) (n := (sh.getD k (0, 0)).2) (by rw [List.getElem?_eq_getElem hk]; simp [List.getD_eq_getElem?_getD, hk])] at h
  rw [← Option.some.inj h]
theorem zW_D {dA : Nat → ClassId} {b : Nat} {sh : zSh} {I : zI} {P : zP} : va_D (fun q => b ≤ q) (zW dA b sh I P) := by
  refine ⟨fun i j p q h1 h2 h3 => ?_, fun k q h => ?_⟩
  · rw [(zW_inv h1).2, (zW_inv h2).2] at h3
    omega
  · show b ≤ q.1
    rw [(zW_inv h).2]
    omega
def zu {α : Type} (I : Nat → Nat → α) (k j : Nat) (x : α) : Nat → Nat → α := fun a c => if a = k ∧ c = j then x else I a c
theorem zu_same {α : Type} {I : Nat → Nat → α} {k j : Nat} {x : α} : zu I k j x k j = x := by simp [zu]
theorem zu_ne {α : Type} {I : Nat → Nat → α} {k j a c : Nat} {x : α} (h : ¬ (a = k ∧ c = j)) : zu I k j x a c = I a c := by simp [zu, h]
theorem zW_set {dA : Nat → ClassId} {b : Nat} {sh : zSh} {I I' : zI} {P P' : zP} {k t n : Nat} (h : sh[k]? = some (t, n)) (hI : ∀ a, a ≠ k → I' a = I a) (hP : ∀ a, a ≠ k → P' a = P a) : (zW dA b sh I P).set k (b + k, zE dA b t n (I' k) (P' k)) = zW dA b sh I' P' := by
  apply List.ext_getElem?
  intro a
  by_cases ha : a < sh.length
  · have e : sh[a]? = some ((sh.getD a (0, 0)).1, (sh.getD a (0, 0)).2) := by rw [List.getElem?_eq_getElem ha]; simp [List.getD_eq_getElem?_getD, ha]
    by_cases hk : a = k
    · subst hk
      rw [List.getElem?_set_self (by rw [zW_len]; exact ha), zW_at h]
    · rw [List.getElem?_set_ne (fun q => hk q.symm), zW_at e, zW_at e, hI a hk, hP a hk]
  · rw [List.getElem?_eq_none (by rw [List.length_set, zW_len]; omega), List.getElem?_eq_none (by rw [zW_len]; omega)]
def zTys (dA : Nat → ClassId) : List (ClassId × FieldType) := [(dA 11, .int), (dA 12, .boolean), (dA 13, .object "ProbeLoom$Frame"), (dA 14, .object "ProbeLoom$Method"), (dA 15, .object "ProbeLoom$Tale")]
/-- what stays true of the tables and of the constant rows -/
def zK (D : va_G) (dA : Nat → ClassId) (b : Nat) (tA : Nat → Nat) (U : State) : Prop := va_K D vwCl (zTys dA) U ∧ (∀ q ∈ zNest, va_Nw (.methodLinkNest q.1 q.2.1 q.2.2.1 q.2.2.2) U) ∧ (∀ C ∈ ["ProbeLoom$Frame", "ProbeLoom$Method", "ProbeLoom$Tale"], va_AO C U) ∧ ∀ (i : Nat) (q : String × String × List Int32), zStat[i]? = some q → va_Z q.1 q.2.1 "[I" (.ref (tA i)) (fun a => b ≤ a) U U.heap ∧ va_T .int (tA i) q.2.2.length (fun j => .int (q.2.2.getD j 0)) (fun a => b ≤ a) U U.heap
theorem zK_move {D : va_G} {dA : Nat → ClassId} {b : Nat} {tA : Nat → Nat} {s U : State} (h : zK D dA b tA s) (hW : s.WarmedH U.vm) (hq : ∀ a : Nat, a < s.heap.size → ¬ b ≤ a → U.heap[a]? = s.heap[a]?) : zK D dA b tA U :=
  ⟨va_K.moved hW.alike h.1, fun q hm => va_Nw.warmM hW (h.2.1 q hm), fun C hC => va_AO.moved hW.alike (h.2.2.1 C hC), fun i q hi => ⟨((h.2.2.2 i q hi).1.moved hW.alike).kept hq, ((h.2.2.2 i q hi).2.moved hW.alike).kept hq⟩⟩
theorem zK_calling {D : va_G} {dA : Nat → ClassId} {b : Nat} {tA : Nat → Nat} {U : State} {g : JFrame} {mk : MethodId} {a : Array Value} (h : zK D dA b tA U) : zK D dA b tA (U.calling g mk a) :=
  ⟨va_K.moved (u := U) (U := U.calling g mk a) (Vm.Alike.refl U.vm) h.1, fun q hm => va_Nw.same rfl (u := U) (U := U.calling g mk a) rfl (h.2.1 q hm), fun C hC => va_AO.moved (u := U) (U := U.calling g mk a) (Vm.Alike.refl U.vm) (h.2.2.1 C hC), fun i q hi => ⟨(h.2.2.2 i q hi).1.moved (u := U) (U := U.calling g mk a) (Vm.Alike.refl U.vm), (h.2.2.2 i q hi).2.moved (u := U) (U := U.calling g mk a) (Vm.Alike.refl U.vm)⟩⟩
def wsG : List Cond := lw_tbl.filter goodWord
theorem wsG_of {i : Nat} {w : Cond} (h : lw_tbl[i]? = some w) (g : goodWord w = true) : w ∈ wsG := List.mem_filter.mpr ⟨List.mem_of_getElem? h, g⟩
theorem wsG_t {i : Nat} {w : Cond} (h : tables_1[i]? = some w) (g : goodWord w = true) : w ∈ wsG := List.mem_filter.mpr ⟨List.mem_append_right _ (List.mem_of_getElem? h), g⟩
theorem wsG_p {i : Nat} {q : MethodName × Nat} (h : lw_privs[i]? = some q) : Cond.selects q.1.cls q.1 q.1 ∈ wsG := List.mem_filter.mpr ⟨List.mem_append_left _ (List.mem_map.mpr ⟨q, List.mem_of_getElem? h, rfl⟩), rfl⟩
theorem wsG_good {w : Cond} (h : w ∈ wsG) : (w.onTables && w.keeps) = true ∨ ∃ ty, w = .arrayClass ty := good_of_word (List.mem_filter.mp h).2
theorem wsG_in {y : MethodName} {cc : ByteArray} {nL : Nat} {ret : Option FieldType} (h : Cond.code y cc nL ret ∈ wsG) : GoodIn wsG (Cond.code y cc nL ret :: wsG) := by
  intro w hw
  rcases List.mem_cons.mp hw with h1 | h1
  · subst h1
    exact ⟨h, wsG_good h⟩
  · exact ⟨h1, wsG_good h1⟩
abbrev zX : Type := Program × Launch × Env × Room × State × MethodId × Array Value × List Frame × Method × Code × (State → Prop) × va_G × (Nat → ClassId) × Nat × (Nat → Nat) × Nat
/-- at pc, with these locals, this stack, this world: the machine comes to a state with Q -/
def Gx (κ : zX) (pc : Nat) (L st : List Value) (sh : zSh) (I : zI) (P : zP) (ce sl : Nat) : Prop := match κ with
  | (p, l, e, R, s, m, args, below, meth, c, Q, D, dA, b, tA, n) => ∀ (H : Heap) (locs : List Loc) (ls : Array Slot), va_P D vwCl (zW dA b sh I P) H → H.size = b + sh.length → va_S (fun q => b ≤ q) s.heap H locs → lv_has ls n (zl b tA L) → W p l e R s m args below meth c H locs ce sl Q (F0 m pc ls (st.map (zv b tA)))
/-- where a walk stands: the method, its code, its room -/
def Cx (y : MethodName) (cc : ByteArray) (nL : Nat) (ret : Option FieldType) (fr lo : Nat) (κ : zX) : Prop := match κ with
  | (p, l, e, R, s, m, args, below, meth, c, Q, D, dA, b, tA, n) => p.tables.exec = Jvm.exec ∧ c.code = cc ∧ meth.sig.returnType = ret ∧ c.maxLocals = nL ∧ n = nL ∧ s.vm.findClass y.cls = some m.cls ∧ (∀ w ∈ wsG, w.before args s = true) ∧ zK D dA b tA s ∧ meth.name = y.name ∧ meth.locks = false ∧ fr ≤ R.frames ∧ lo ≤ R.locals ∧ b ≤ s.heap.size
def zQc (D : va_G) (dA : Nat → ClassId) (b : Nat) (tA : Nat → Nat) (Qf : Option Value → zSh → zI → zP → Prop) : Array Value → State → Outcome → State → Prop := fun _ st oc t =>
  (∃ (r : Option Value) (sh : zSh) (I : zI) (P : zP), oc = .returned (r.map (zv b tA)) ∧ Qf r sh I P ∧ va_P D vwCl (zW dA b sh I P) t.heap ∧ t.heap.size = b + sh.length) ∧ va_F (fun q => b ≤ q) st t
def zPc (D : va_G) (dA : Nat → ClassId) (b : Nat) (tA : Nat → Nat) (As : List Value) (sh : zSh) (I : zI) (P : zP) : Array Value → State → Prop := fun v U =>
  v = (As.map (zv b tA)).toArray ∧ zK D dA b tA U ∧ va_P D vwCl (zW dA b sh I P) U.heap ∧ U.heap.size = b + sh.length
/-- the method y from these arguments and this world: it returns with Qf -/
def Ev (y : MethodName) (cc : ByteArray) (nL : Nat) (ret : Option FieldType) (fr lo mc ms : Nat) (As : List Value) (sh : zSh) (I : zI) (P : zP) (Qf : Option Value → zSh → zI → zP → Prop) : Prop :=
  ∀ (l : Launch) (D : va_G) (dA : Nat → ClassId) (b : Nat) (tA : Nat → Nat), Met l y (Cond.code y cc nL ret :: wsG) ({ frames := fr, cells := mc, slots := ms, locals := lo }) (zPc D dA b tA As sh I P) (zQc D dA b tA Qf) mc ms (fun q => b ≤ q)
theorem Ev.mono {y : MethodName} {cc : ByteArray} {nL : Nat} {ret : Option FieldType} {fr lo mc ms : Nat} {As : List Value} {sh : zSh} {I : zI} {P : zP} {Q Q' : Option Value → zSh → zI → zP → Prop} (h : Ev y cc nL ret fr lo mc ms As sh I P Q) (hQ : ∀ r sh I P, Q r sh I P → Q' r sh I P) : Ev y cc nL ret fr lo mc ms As sh I P Q' := by
  intro l D dA b tA
  refine MetFree.mono (h l D dA b tA) (fun _ _ q => q) (fun _ _ _ _ _ q => q) (fun a st o t _ q => ?_)
  obtain ⟨⟨⟨r, sh, I, P, h1, h2, h3⟩, h4⟩, h5⟩ := q
  exact ⟨⟨⟨r, sh, I, P, h1, hQ _ _ _ _ h2, h3⟩, h4⟩, h5⟩
/-- what a walk of y ends with -/
def zEnd (Qf : Option Value → zSh → zI → zP → Prop) (mc ms : Nat) (κ : zX) : Prop := match κ with
  | (p, l, e, R, s, m, args, below, meth, c, Q, D, dA, b, tA, n) => Q = MQ below (zQc D dA b tA Qf) args s mc ms (fun q => b ≤ q) ∧ R.cells = mc ∧ R.slots = ms
theorem zlsl (b : Nat) (tA : Nat → Nat) : ∀ (As : List Value), (∀ v ∈ As, zlive v = true) → lg_sl (As.map (zv b tA)) = As.map (fun v => Slot.val (zv b tA v))
  | [], _ => rfl
  | v :: vs, h => by
    have h1 := zlsl b tA vs (fun w hw => h w (List.mem_cons_of_mem _ hw))
    have h2 : (zv b tA v).category = 1 := zv_cat (h v List.mem_cons_self)
    show (if (zv b tA v).category = 2 then [Slot.val (zv b tA v), Slot.second] else [Slot.val (zv b tA v)]) ++ lg_sl (vs.map (zv b tA)) = _
    rw [if_neg (by rw [h2]; decide), h1]
    rfl
theorem zargs (b : Nat) (tA : Nat → Nat) : ∀ (As : List Value) (i : Nat), (∀ v ∈ As, zlive v = true) → ∀ (j : Nat) (v : Value), As[j]? = some v → (i + j, zv b tA v) ∈ lv_args i (As.map (zv b tA))
  | [], i, _, j, v, hj => by simp at hj
  | w :: ws, i, h, 0, v, hj => by
    simp at hj
    subst hj
    simp [lv_args]
  | w :: ws, i, h, j + 1, v, hj => by
    have h2 : (zv b tA w).category = 1 := zv_cat (h w List.mem_cons_self)
    have h1 := zargs b tA ws (i + 1) (fun w hw => h w (List.mem_cons_of_mem _ hw)) j v (by simpa using hj)
    simp only [List.map_cons, lv_args]
    rw [if_neg (by rw [h2]; decide)]
    rw [show i + (j + 1) = i + 1 + j by omega]
    exact List.mem_cons_of_mem _ h1
theorem Ev.intro {y : MethodName} {cc : ByteArray} {nL : Nat} {ret : Option FieldType} {fr lo mc ms : Nat} {As : List Value} {sh : zSh} {I : zI} {P : zP} {Qf : Option Value → zSh → zI → zP → Prop} (hy : plainName y.cls = true) (hA : ∀ v ∈ As, zlive v = true) (hn : As.length ≤ nL)
    (h : ∀ κ : zX, Cx y cc nL ret fr lo κ → zEnd Qf mc ms κ → Gx κ 0 (As ++ List.replicate (nL - As.length) (.float 0)) [] sh I P 0 0) : Ev y cc nL ret fr lo mc ms As sh I P Qf := by
  intro l D dA b tA
  refine Met.ofW (cc := cc) (maxL := nL) (ret := ret) hy rfl ?_
  intro p e s m args below meth c s₁ B hml hv
  obtain ⟨rfl, hK, hP, hz⟩ := hv
  have hts := atoms_spec (ws := Cond.code y cc nL ret :: wsG) B.pre
  have hown : s.vm.findClass y.cls = some m.cls := findClass_of_methodNamed B.named
  have hin : meth.name = y.name := (name_of_methodNamed B.named B.method).1
  have hbs : b ≤ s.heap.size := by omega
  have hl := lv_entry (As.map (zv b tA)) (n := nL) (by rw [zlsl b tA As hA, List.length_map]; exact hn)
  rw [lg_entry_eq]
  refine h (p, l, e, _, s, m, _, below, meth, c, _, D, dA, b, tA, nL) ⟨B.exec, B.bytes, B.returns, hml, rfl, hown, fun w hw => hts w (List.mem_cons_of_mem _ hw), hK, hin, B.notSynchronized, Nat.le_refl _, Nat.le_refl _, hbs⟩ ⟨rfl, rfl, rfl⟩ s.heap [] _ hP hz va_S.rf ?_
  refine ⟨hl.1, hl.2.1, fun q hq => ?_⟩
  obtain ⟨v, h1, h2, h3⟩ := zl_mem.mp hq
  by_cases hlt : q.1 < As.length
  · rw [List.getElem?_append_left hlt] at h1
    have h4 := zargs b tA As 0 hA q.1 v h1
    rw [Nat.zero_add] at h4
    have h5 : q = (q.1, zv b tA v) := Prod.ext rfl h3
    rw [h5]
    exact hl.2.2 _ h4
  · rw [List.getElem?_append_right (Nat.not_lt.mp hlt)] at h1
    have h6 := List.eq_of_mem_replicate (List.mem_of_getElem? h1)
    rw [h6] at h2
    cases h2

theorem g_iadd {κ : zX} {y : MethodName} {cc : ByteArray} {nL : Nat} {ret : Option FieldType} {fr lo : Nat} (cx : Cx y cc nL ret fr lo κ) {pc : Nat} {L st : List Value} {sh : zSh} {I : zI} {P : zP} {ce sl : Nat} {x z : Int32} (hd : decode cc pc = .ok (.iadd, 1))  (kk : Gx κ (pc + 1) L (.int (x + z) :: st) sh I P ce sl) : Gx κ pc L (.int z :: .int x :: st) sh I P ce sl := by
  obtain ⟨p, l, e, R, s, m, args, below, meth, c, Q, D, dA, b, tA, nq⟩ := κ
  obtain ⟨hx, hb, hr, hml, rfl, hown, hts, hK, hnm, hlk, hfr, hlo, hbs⟩ := cx
  intro H locs ls hP hz hS hl
  exact lv_iadd hx hb hd (kk H locs ls hP hz hS hl)
theorem g_isub {κ : zX} {y : MethodName} {cc : ByteArray} {nL : Nat} {ret : Option FieldType} {fr lo : Nat} (cx : Cx y cc nL ret fr lo κ) {pc : Nat} {L st : List Value} {sh : zSh} {I : zI} {P : zP} {ce sl : Nat} {x z : Int32} (hd : decode cc pc = .ok (.isub, 1))  (kk : Gx κ (pc + 1) L (.int (x - z) :: st) sh I P ce sl) : Gx κ pc L (.int z :: .int x :: st) sh I P ce sl := by
  obtain ⟨p, l, e, R, s, m, args, below, meth, c, Q, D, dA, b, tA, nq⟩ := κ
  obtain ⟨hx, hb, hr, hml, rfl, hown, hts, hK, hnm, hlk, hfr, hlo, hbs⟩ := cx
  intro H locs ls hP hz hS hl
  exact lv_isub hx hb hd (kk H locs ls hP hz hS hl)
theorem g_imul {κ : zX} {y : MethodName} {cc : ByteArray} {nL : Nat} {ret : Option FieldType} {fr lo : Nat} (cx : Cx y cc nL ret fr lo κ) {pc : Nat} {L st : List Value} {sh : zSh} {I : zI} {P : zP} {ce sl : Nat} {x z : Int32} (hd : decode cc pc = .ok (.imul, 1))  (kk : Gx κ (pc + 1) L (.int (x * z) :: st) sh I P ce sl) : Gx κ pc L (.int z :: .int x :: st) sh I P ce sl := by
  obtain ⟨p, l, e, R, s, m, args, below, meth, c, Q, D, dA, b, tA, nq⟩ := κ
  obtain ⟨hx, hb, hr, hml, rfl, hown, hts, hK, hnm, hlk, hfr, hlo, hbs⟩ := cx
  intro H locs ls hP hz hS hl
  exact lv_imul hx hb hd (kk H locs ls hP hz hS hl)
theorem g_iand {κ : zX} {y : MethodName} {cc : ByteArray} {nL : Nat} {ret : Option FieldType} {fr lo : Nat} (cx : Cx y cc nL ret fr lo κ) {pc : Nat} {L st : List Value} {sh : zSh} {I : zI} {P : zP} {ce sl : Nat} {x z : Int32} (hd : decode cc pc = .ok (.iand, 1))  (kk : Gx κ (pc + 1) L (.int (x &&& z) :: st) sh I P ce sl) : Gx κ pc L (.int z :: .int x :: st) sh I P ce sl := by
  obtain ⟨p, l, e, R, s, m, args, below, meth, c, Q, D, dA, b, tA, nq⟩ := κ
  obtain ⟨hx, hb, hr, hml, rfl, hown, hts, hK, hnm, hlk, hfr, hlo, hbs⟩ := cx
  intro H locs ls hP hz hS hl
  exact lv_iand hx hb hd (kk H locs ls hP hz hS hl)
theorem g_ior {κ : zX} {y : MethodName} {cc : ByteArray} {nL : Nat} {ret : Option FieldType} {fr lo : Nat} (cx : Cx y cc nL ret fr lo κ) {pc : Nat} {L st : List Value} {sh : zSh} {I : zI} {P : zP} {ce sl : Nat} {x z : Int32} (hd : decode cc pc = .ok (.ior, 1))  (kk : Gx κ (pc + 1) L (.int (x ||| z) :: st) sh I P ce sl) : Gx κ pc L (.int z :: .int x :: st) sh I P ce sl := by
  obtain ⟨p, l, e, R, s, m, args, below, meth, c, Q, D, dA, b, tA, nq⟩ := κ
  obtain ⟨hx, hb, hr, hml, rfl, hown, hts, hK, hnm, hlk, hfr, hlo, hbs⟩ := cx
  intro H locs ls hP hz hS hl
  exact lv_ior hx hb hd (kk H locs ls hP hz hS hl)
theorem g_ixor {κ : zX} {y : MethodName} {cc : ByteArray} {nL : Nat} {ret : Option FieldType} {fr lo : Nat} (cx : Cx y cc nL ret fr lo κ) {pc : Nat} {L st : List Value} {sh : zSh} {I : zI} {P : zP} {ce sl : Nat} {x z : Int32} (hd : decode cc pc = .ok (.ixor, 1))  (kk : Gx κ (pc + 1) L (.int (x ^^^ z) :: st) sh I P ce sl) : Gx κ pc L (.int z :: .int x :: st) sh I P ce sl := by
  obtain ⟨p, l, e, R, s, m, args, below, meth, c, Q, D, dA, b, tA, nq⟩ := κ
  obtain ⟨hx, hb, hr, hml, rfl, hown, hts, hK, hnm, hlk, hfr, hlo, hbs⟩ := cx
  intro H locs ls hP hz hS hl
  exact lv_ixor hx hb hd (kk H locs ls hP hz hS hl)
theorem g_ishl {κ : zX} {y : MethodName} {cc : ByteArray} {nL : Nat} {ret : Option FieldType} {fr lo : Nat} (cx : Cx y cc nL ret fr lo κ) {pc : Nat} {L st : List Value} {sh : zSh} {I : zI} {P : zP} {ce sl : Nat} {x z : Int32} (hd : decode cc pc = .ok (.ishl, 1))  (kk : Gx κ (pc + 1) L (.int (x <<< (z &&& 31)) :: st) sh I P ce sl) : Gx κ pc L (.int z :: .int x :: st) sh I P ce sl := by
  obtain ⟨p, l, e, R, s, m, args, below, meth, c, Q, D, dA, b, tA, nq⟩ := κ
  obtain ⟨hx, hb, hr, hml, rfl, hown, hts, hK, hnm, hlk, hfr, hlo, hbs⟩ := cx
  intro H locs ls hP hz hS hl
  exact lv_ishl hx hb hd (kk H locs ls hP hz hS hl)
theorem g_ishr {κ : zX} {y : MethodName} {cc : ByteArray} {nL : Nat} {ret : Option FieldType} {fr lo : Nat} (cx : Cx y cc nL ret fr lo κ) {pc : Nat} {L st : List Value} {sh : zSh} {I : zI} {P : zP} {ce sl : Nat} {x z : Int32} (hd : decode cc pc = .ok (.ishr, 1))  (kk : Gx κ (pc + 1) L (.int (x >>> (z &&& 31)) :: st) sh I P ce sl) : Gx κ pc L (.int z :: .int x :: st) sh I P ce sl := by
  obtain ⟨p, l, e, R, s, m, args, below, meth, c, Q, D, dA, b, tA, nq⟩ := κ
  obtain ⟨hx, hb, hr, hml, rfl, hown, hts, hK, hnm, hlk, hfr, hlo, hbs⟩ := cx
  intro H locs ls hP hz hS hl
  exact lv_ishr hx hb hd (kk H locs ls hP hz hS hl)
theorem g_iushr {κ : zX} {y : MethodName} {cc : ByteArray} {nL : Nat} {ret : Option FieldType} {fr lo : Nat} (cx : Cx y cc nL ret fr lo κ) {pc : Nat} {L st : List Value} {sh : zSh} {I : zI} {P : zP} {ce sl : Nat} {x z : Int32} (hd : decode cc pc = .ok (.iushr, 1))  (kk : Gx κ (pc + 1) L (.int ((x.toUInt32 >>> (z.toUInt32 &&& Int32.toUInt32 31)).toInt32) :: st) sh I P ce sl) : Gx κ pc L (.int z :: .int x :: st) sh I P ce sl := by
  obtain ⟨p, l, e, R, s, m, args, below, meth, c, Q, D, dA, b, tA, nq⟩ := κ
  obtain ⟨hx, hb, hr, hml, rfl, hown, hts, hK, hnm, hlk, hfr, hlo, hbs⟩ := cx
  intro H locs ls hP hz hS hl
  exact lv_iushr hx hb hd rfl (kk H locs ls hP hz hS hl)
theorem g_idiv {κ : zX} {y : MethodName} {cc : ByteArray} {nL : Nat} {ret : Option FieldType} {fr lo : Nat} (cx : Cx y cc nL ret fr lo κ) {pc : Nat} {L st : List Value} {sh : zSh} {I : zI} {P : zP} {ce sl : Nat} {x z : Int32} (hd : decode cc pc = .ok (.idiv, 1)) (hne : ¬ z = 0) (kk : Gx κ (pc + 1) L (.int (x / z) :: st) sh I P ce sl) : Gx κ pc L (.int z :: .int x :: st) sh I P ce sl := by
  obtain ⟨p, l, e, R, s, m, args, below, meth, c, Q, D, dA, b, tA, nq⟩ := κ
  obtain ⟨hx, hb, hr, hml, rfl, hown, hts, hK, hnm, hlk, hfr, hlo, hbs⟩ := cx
  intro H locs ls hP hz hS hl
  exact lv_idiv hx hb hd hne (kk H locs ls hP hz hS hl)
theorem g_irem {κ : zX} {y : MethodName} {cc : ByteArray} {nL : Nat} {ret : Option FieldType} {fr lo : Nat} (cx : Cx y cc nL ret fr lo κ) {pc : Nat} {L st : List Value} {sh : zSh} {I : zI} {P : zP} {ce sl : Nat} {x z : Int32} (hd : decode cc pc = .ok (.irem, 1)) (hne : ¬ z = 0) (kk : Gx κ (pc + 1) L (.int (x - x / z * z) :: st) sh I P ce sl) : Gx κ pc L (.int z :: .int x :: st) sh I P ce sl := by
  obtain ⟨p, l, e, R, s, m, args, below, meth, c, Q, D, dA, b, tA, nq⟩ := κ
  obtain ⟨hx, hb, hr, hml, rfl, hown, hts, hK, hnm, hlk, hfr, hlo, hbs⟩ := cx
  intro H locs ls hP hz hS hl
  exact lv_irem hx hb hd hne (kk H locs ls hP hz hS hl)
theorem g_ineg {κ : zX} {y : MethodName} {cc : ByteArray} {nL : Nat} {ret : Option FieldType} {fr lo : Nat} (cx : Cx y cc nL ret fr lo κ) {pc : Nat} {L st : List Value} {sh : zSh} {I : zI} {P : zP} {ce sl : Nat} {x : Int32} (hd : decode cc pc = .ok (.ineg, 1))  (kk : Gx κ (pc + 1) L (.int (-x) :: st) sh I P ce sl) : Gx κ pc L (.int x :: st) sh I P ce sl := by
  obtain ⟨p, l, e, R, s, m, args, below, meth, c, Q, D, dA, b, tA, nq⟩ := κ
  obtain ⟨hx, hb, hr, hml, rfl, hown, hts, hK, hnm, hlk, hfr, hlo, hbs⟩ := cx
  intro H locs ls hP hz hS hl
  exact lv_ineg hx hb hd (kk H locs ls hP hz hS hl)
theorem g_i2b {κ : zX} {y : MethodName} {cc : ByteArray} {nL : Nat} {ret : Option FieldType} {fr lo : Nat} (cx : Cx y cc nL ret fr lo κ) {pc : Nat} {L st : List Value} {sh : zSh} {I : zI} {P : zP} {ce sl : Nat} {x : Int32} (hd : decode cc pc = .ok (.i2b, 1))  (kk : Gx κ (pc + 1) L (.int (x.toInt8.toInt32) :: st) sh I P ce sl) : Gx κ pc L (.int x :: st) sh I P ce sl := by
  obtain ⟨p, l, e, R, s, m, args, below, meth, c, Q, D, dA, b, tA, nq⟩ := κ
  obtain ⟨hx, hb, hr, hml, rfl, hown, hts, hK, hnm, hlk, hfr, hlo, hbs⟩ := cx
  intro H locs ls hP hz hS hl
  exact lv_i2b hx hb hd rfl (kk H locs ls hP hz hS hl)
theorem g_i2s {κ : zX} {y : MethodName} {cc : ByteArray} {nL : Nat} {ret : Option FieldType} {fr lo : Nat} (cx : Cx y cc nL ret fr lo κ) {pc : Nat} {L st : List Value} {sh : zSh} {I : zI} {P : zP} {ce sl : Nat} {x : Int32} (hd : decode cc pc = .ok (.i2s, 1))  (kk : Gx κ (pc + 1) L (.int (x.toInt16.toInt32) :: st) sh I P ce sl) : Gx κ pc L (.int x :: st) sh I P ce sl := by
  obtain ⟨p, l, e, R, s, m, args, below, meth, c, Q, D, dA, b, tA, nq⟩ := κ
  obtain ⟨hx, hb, hr, hml, rfl, hown, hts, hK, hnm, hlk, hfr, hlo, hbs⟩ := cx
  intro H locs ls hP hz hS hl
  exact lv_i2s hx hb hd rfl (kk H locs ls hP hz hS hl)
theorem g_iconst {κ : zX} {y : MethodName} {cc : ByteArray} {nL : Nat} {ret : Option FieldType} {fr lo : Nat} (cx : Cx y cc nL ret fr lo κ) {pc : Nat} {L st : List Value} {sh : zSh} {I : zI} {P : zP} {ce sl : Nat} {k : Int} {v : Int32} (hd : decode cc pc = .ok (.iconst k, 1)) (hv : Int32.ofInt k = v) (kk : Gx κ (pc + 1) L (.int v :: st) sh I P ce sl) : Gx κ pc L st sh I P ce sl := by
  obtain ⟨p, l, e, R, s, m, args, below, meth, c, Q, D, dA, b, tA, nq⟩ := κ
  obtain ⟨hx, hb, hr, hml, rfl, hown, hts, hK, hnm, hlk, hfr, hlo, hbs⟩ := cx
  intro H locs ls hP hz hS hl
  exact lv_iconst hx hb hd hv (kk H locs ls hP hz hS hl)
theorem g_bipush {κ : zX} {y : MethodName} {cc : ByteArray} {nL : Nat} {ret : Option FieldType} {fr lo : Nat} (cx : Cx y cc nL ret fr lo κ) {pc : Nat} {L st : List Value} {sh : zSh} {I : zI} {P : zP} {ce sl : Nat} {k : Int} {v : Int32} (hd : decode cc pc = .ok (.bipush k, 2)) (hv : (Int8.ofInt k).toInt32 = v) (kk : Gx κ (pc + 2) L (.int v :: st) sh I P ce sl) : Gx κ pc L st sh I P ce sl := by
  obtain ⟨p, l, e, R, s, m, args, below, meth, c, Q, D, dA, b, tA, nq⟩ := κ
  obtain ⟨hx, hb, hr, hml, rfl, hown, hts, hK, hnm, hlk, hfr, hlo, hbs⟩ := cx
  intro H locs ls hP hz hS hl
  exact lv_bipush hx hb hd hv (kk H locs ls hP hz hS hl)
theorem g_sipush {κ : zX} {y : MethodName} {cc : ByteArray} {nL : Nat} {ret : Option FieldType} {fr lo : Nat} (cx : Cx y cc nL ret fr lo κ) {pc : Nat} {L st : List Value} {sh : zSh} {I : zI} {P : zP} {ce sl : Nat} {k : Int} {v : Int32} (hd : decode cc pc = .ok (.sipush k, 3)) (hv : (Int16.ofInt k).toInt32 = v) (kk : Gx κ (pc + 3) L (.int v :: st) sh I P ce sl) : Gx κ pc L st sh I P ce sl := by
  obtain ⟨p, l, e, R, s, m, args, below, meth, c, Q, D, dA, b, tA, nq⟩ := κ
  obtain ⟨hx, hb, hr, hml, rfl, hown, hts, hK, hnm, hlk, hfr, hlo, hbs⟩ := cx
  intro H locs ls hP hz hS hl
  exact lv_sipush hx hb hd hv (kk H locs ls hP hz hS hl)
theorem g_ldc {κ : zX} {y : MethodName} {cc : ByteArray} {nL : Nat} {ret : Option FieldType} {fr lo : Nat} (cx : Cx y cc nL ret fr lo κ) {pc : Nat} {L st : List Value} {sh : zSh} {I : zI} {P : zP} {ce sl : Nat} {k : Nat} {v : Int32} (hd : decode cc pc = .ok (.ldc k, 2)) (hc : Cond.constant y.cls k v ∈ wsG) (kk : Gx κ (pc + 2) L (.int v :: st) sh I P ce sl) : Gx κ pc L st sh I P ce sl := by
  obtain ⟨p, l, e, R, s, m, args, below, meth, c, Q, D, dA, b, tA, nq⟩ := κ
  obtain ⟨hx, hb, hr, hml, rfl, hown, hts, hK, hnm, hlk, hfr, hlo, hbs⟩ := cx
  intro H locs ls hP hz hS hl
  exact lv_ldc hx hb hown (hts _ hc) hd (kk H locs ls hP hz hS hl)
theorem g_iload_n {κ : zX} {y : MethodName} {cc : ByteArray} {nL : Nat} {ret : Option FieldType} {fr lo : Nat} (cx : Cx y cc nL ret fr lo κ) {pc : Nat} {L st : List Value} {sh : zSh} {I : zI} {P : zP} {ce sl : Nat} {k : Fin 4} {x : Int32} (hd : decode cc pc = .ok (.iload_n k, 1)) (hi : L[k.val]? = some (.int x)) (kk : Gx κ (pc + 1) L (.int x :: st) sh I P ce sl) : Gx κ pc L st sh I P ce sl := by
  obtain ⟨p, l, e, R, s, m, args, below, meth, c, Q, D, dA, b, tA, nq⟩ := κ
  obtain ⟨hx, hb, hr, hml, rfl, hown, hts, hK, hnm, hlk, hfr, hlo, hbs⟩ := cx
  intro H locs ls hP hz hS hl
  exact lv_iload_n hx hb hd rfl (zl_get hl hi rfl) (kk H locs ls hP hz hS hl)
theorem g_iload {κ : zX} {y : MethodName} {cc : ByteArray} {nL : Nat} {ret : Option FieldType} {fr lo : Nat} (cx : Cx y cc nL ret fr lo κ) {pc : Nat} {L st : List Value} {sh : zSh} {I : zI} {P : zP} {ce sl : Nat} {k : Nat} {x : Int32} (hd : decode cc pc = .ok (.iload k, 2)) (hi : L[k]? = some (.int x)) (kk : Gx κ (pc + 2) L (.int x :: st) sh I P ce sl) : Gx κ pc L st sh I P ce sl := by
  obtain ⟨p, l, e, R, s, m, args, below, meth, c, Q, D, dA, b, tA, nq⟩ := κ
  obtain ⟨hx, hb, hr, hml, rfl, hown, hts, hK, hnm, hlk, hfr, hlo, hbs⟩ := cx
  intro H locs ls hP hz hS hl
  exact lv_iload hx hb hd (zl_get hl hi rfl) (kk H locs ls hP hz hS hl)
theorem g_aload_n {κ : zX} {y : MethodName} {cc : ByteArray} {nL : Nat} {ret : Option FieldType} {fr lo : Nat} (cx : Cx y cc nL ret fr lo κ) {pc : Nat} {L st : List Value} {sh : zSh} {I : zI} {P : zP} {ce sl : Nat} {k : Fin 4} {x : Nat} (hd : decode cc pc = .ok (.aload_n k, 1)) (hi : L[k.val]? = some (.ref x)) (kk : Gx κ (pc + 1) L (.ref x :: st) sh I P ce sl) : Gx κ pc L st sh I P ce sl := by
  obtain ⟨p, l, e, R, s, m, args, below, meth, c, Q, D, dA, b, tA, nq⟩ := κ
  obtain ⟨hx, hb, hr, hml, rfl, hown, hts, hK, hnm, hlk, hfr, hlo, hbs⟩ := cx
  intro H locs ls hP hz hS hl
  exact lv_aload_n hx hb hd rfl (zl_get hl hi rfl) (kk H locs ls hP hz hS hl)
theorem g_aload {κ : zX} {y : MethodName} {cc : ByteArray} {nL : Nat} {ret : Option FieldType} {fr lo : Nat} (cx : Cx y cc nL ret fr lo κ) {pc : Nat} {L st : List Value} {sh : zSh} {I : zI} {P : zP} {ce sl : Nat} {k : Nat} {x : Nat} (hd : decode cc pc = .ok (.aload k, 2)) (hi : L[k]? = some (.ref x)) (kk : Gx κ (pc + 2) L (.ref x :: st) sh I P ce sl) : Gx κ pc L st sh I P ce sl := by
  obtain ⟨p, l, e, R, s, m, args, below, meth, c, Q, D, dA, b, tA, nq⟩ := κ
  obtain ⟨hx, hb, hr, hml, rfl, hown, hts, hK, hnm, hlk, hfr, hlo, hbs⟩ := cx
  intro H locs ls hP hz hS hl
  exact lv_aload hx hb hd (zl_get hl hi rfl) (kk H locs ls hP hz hS hl)
theorem g_dup {κ : zX} {y : MethodName} {cc : ByteArray} {nL : Nat} {ret : Option FieldType} {fr lo : Nat} (cx : Cx y cc nL ret fr lo κ) {pc : Nat} {L st : List Value} {sh : zSh} {I : zI} {P : zP} {ce sl : Nat} {v : Value} (hd : decode cc pc = .ok (.dup, 1)) (hv : zlive v = true) (kk : Gx κ (pc + 1) L (v :: v :: st) sh I P ce sl) : Gx κ pc L (v :: st) sh I P ce sl := by
  obtain ⟨p, l, e, R, s, m, args, below, meth, c, Q, D, dA, b, tA, nq⟩ := κ
  obtain ⟨hx, hb, hr, hml, rfl, hown, hts, hK, hnm, hlk, hfr, hlo, hbs⟩ := cx
  intro H locs ls hP hz hS hl
  exact lv_dup hx hb hd (zv_cat hv) (kk H locs ls hP hz hS hl)
theorem g_dup2 {κ : zX} {y : MethodName} {cc : ByteArray} {nL : Nat} {ret : Option FieldType} {fr lo : Nat} (cx : Cx y cc nL ret fr lo κ) {pc : Nat} {L st : List Value} {sh : zSh} {I : zI} {P : zP} {ce sl : Nat} {v w : Value} (hd : decode cc pc = .ok (.dup2, 1)) (hv : zlive v = true) (hw : zlive w = true) (kk : Gx κ (pc + 1) L (v :: w :: v :: w :: st) sh I P ce sl) : Gx κ pc L (v :: w :: st) sh I P ce sl := by
  obtain ⟨p, l, e, R, s, m, args, below, meth, c, Q, D, dA, b, tA, nq⟩ := κ
  obtain ⟨hx, hb, hr, hml, rfl, hown, hts, hK, hnm, hlk, hfr, hlo, hbs⟩ := cx
  intro H locs ls hP hz hS hl
  exact lv_dup2_11 hx hb hd (zv_cat hv) (zv_cat hw) (kk H locs ls hP hz hS hl)
theorem g_pop {κ : zX} {y : MethodName} {cc : ByteArray} {nL : Nat} {ret : Option FieldType} {fr lo : Nat} (cx : Cx y cc nL ret fr lo κ) {pc : Nat} {L st : List Value} {sh : zSh} {I : zI} {P : zP} {ce sl : Nat} {v : Value} (hd : decode cc pc = .ok (.pop, 1)) (hv : zlive v = true) (kk : Gx κ (pc + 1) L st sh I P ce sl) : Gx κ pc L (v :: st) sh I P ce sl := by
  obtain ⟨p, l, e, R, s, m, args, below, meth, c, Q, D, dA, b, tA, nq⟩ := κ
  obtain ⟨hx, hb, hr, hml, rfl, hown, hts, hK, hnm, hlk, hfr, hlo, hbs⟩ := cx
  intro H locs ls hP hz hS hl
  exact lv_pop hx hb hd (zv_cat hv) (kk H locs ls hP hz hS hl)
theorem g_istore_n {κ : zX} {y : MethodName} {cc : ByteArray} {nL : Nat} {ret : Option FieldType} {fr lo : Nat} (cx : Cx y cc nL ret fr lo κ) {pc : Nat} {L st : List Value} {sh : zSh} {I : zI} {P : zP} {ce sl : Nat} {k : Fin 4} {x : Int32} (hd : decode cc pc = .ok (.istore_n k, 1)) (hn : k.val < nL) (kk : Gx κ (pc + 1) (L.set k.val (.int x)) st sh I P ce sl) : Gx κ pc L (.int x :: st) sh I P ce sl := by
  obtain ⟨p, l, e, R, s, m, args, below, meth, c, Q, D, dA, b, tA, nq⟩ := κ
  obtain ⟨hx, hb, hr, hml, rfl, hown, hts, hK, hnm, hlk, hfr, hlo, hbs⟩ := cx
  intro H locs ls hP hz hS hl
  exact lv_istore_n hx hb hd rfl hl hn rfl (fun ls' hl' => kk H locs ls' hP hz hS (zl_set hl'))
theorem g_istore {κ : zX} {y : MethodName} {cc : ByteArray} {nL : Nat} {ret : Option FieldType} {fr lo : Nat} (cx : Cx y cc nL ret fr lo κ) {pc : Nat} {L st : List Value} {sh : zSh} {I : zI} {P : zP} {ce sl : Nat} {k : Nat} {x : Int32} (hd : decode cc pc = .ok (.istore k, 2)) (hn : k < nL) (kk : Gx κ (pc + 2) (L.set k (.int x)) st sh I P ce sl) : Gx κ pc L (.int x :: st) sh I P ce sl := by
  obtain ⟨p, l, e, R, s, m, args, below, meth, c, Q, D, dA, b, tA, nq⟩ := κ
  obtain ⟨hx, hb, hr, hml, rfl, hown, hts, hK, hnm, hlk, hfr, hlo, hbs⟩ := cx
  intro H locs ls hP hz hS hl
  exact lv_istore hx hb hd hl hn rfl (fun ls' hl' => kk H locs ls' hP hz hS (zl_set hl'))
theorem g_astore_n {κ : zX} {y : MethodName} {cc : ByteArray} {nL : Nat} {ret : Option FieldType} {fr lo : Nat} (cx : Cx y cc nL ret fr lo κ) {pc : Nat} {L st : List Value} {sh : zSh} {I : zI} {P : zP} {ce sl : Nat} {k : Fin 4} {x : Nat} (hd : decode cc pc = .ok (.astore_n k, 1)) (hn : k.val < nL) (kk : Gx κ (pc + 1) (L.set k.val (.ref x)) st sh I P ce sl) : Gx κ pc L (.ref x :: st) sh I P ce sl := by
  obtain ⟨p, l, e, R, s, m, args, below, meth, c, Q, D, dA, b, tA, nq⟩ := κ
  obtain ⟨hx, hb, hr, hml, rfl, hown, hts, hK, hnm, hlk, hfr, hlo, hbs⟩ := cx
  intro H locs ls hP hz hS hl
  exact lv_astore_n hx hb hd rfl hl hn rfl (fun ls' hl' => kk H locs ls' hP hz hS (zl_set hl'))
theorem g_astore {κ : zX} {y : MethodName} {cc : ByteArray} {nL : Nat} {ret : Option FieldType} {fr lo : Nat} (cx : Cx y cc nL ret fr lo κ) {pc : Nat} {L st : List Value} {sh : zSh} {I : zI} {P : zP} {ce sl : Nat} {k : Nat} {x : Nat} (hd : decode cc pc = .ok (.astore k, 2)) (hn : k < nL) (kk : Gx κ (pc + 2) (L.set k (.ref x)) st sh I P ce sl) : Gx κ pc L (.ref x :: st) sh I P ce sl := by
  obtain ⟨p, l, e, R, s, m, args, below, meth, c, Q, D, dA, b, tA, nq⟩ := κ
  obtain ⟨hx, hb, hr, hml, rfl, hown, hts, hK, hnm, hlk, hfr, hlo, hbs⟩ := cx
  intro H locs ls hP hz hS hl
  exact lv_astore hx hb hd hl hn rfl (fun ls' hl' => kk H locs ls' hP hz hS (zl_set hl'))
theorem g_iinc {κ : zX} {y : MethodName} {cc : ByteArray} {nL : Nat} {ret : Option FieldType} {fr lo : Nat} (cx : Cx y cc nL ret fr lo κ) {pc : Nat} {L st : List Value} {sh : zSh} {I : zI} {P : zP} {ce sl : Nat} {k : Nat} {d : Int} {x v : Int32} (hd : decode cc pc = .ok (.iinc k d, 3)) (hi : L[k]? = some (.int x)) (hv : x + Int32.ofInt d = v) (hn : k < nL) (kk : Gx κ (pc + 3) (L.set k (.int v)) st sh I P ce sl) : Gx κ pc L st sh I P ce sl := by
  obtain ⟨p, l, e, R, s, m, args, below, meth, c, Q, D, dA, b, tA, nq⟩ := κ
  obtain ⟨hx, hb, hr, hml, rfl, hown, hts, hK, hnm, hlk, hfr, hlo, hbs⟩ := cx
  intro H locs ls hP hz hS hl
  have hm : (k, Value.int x) ∈ zl b tA L := zl_mem.mpr ⟨.int x, hi, rfl, rfl⟩
  obtain ⟨j, hj⟩ := List.getElem?_of_mem hm
  exact lv_iinc hx hb hd hl hj hv hn rfl (fun ls' hl' => kk H locs ls' hP hz hS (zl_set hl'))
theorem g_icmp_eq {κ : zX} {y : MethodName} {cc : ByteArray} {nL : Nat} {ret : Option FieldType} {fr lo : Nat} (cx : Cx y cc nL ret fr lo κ) {pc : Nat} {L st : List Value} {sh : zSh} {I : zI} {P : zP} {ce sl : Nat} {x z : Int32} {off : Int} {tgt : Nat} (hd : decode cc pc = .ok (.if_icmp .eq off, 3)) (ht : (pc : Int) + off = (tgt : Int)) (kt : x = z → Gx κ tgt L st sh I P ce sl) (kf : ¬ x = z → Gx κ (pc + 3) L st sh I P ce sl) : Gx κ pc L (.int z :: .int x :: st) sh I P ce sl := by
  obtain ⟨p, l, e, R, s, m, args, below, meth, c, Q, D, dA, b, tA, nq⟩ := κ
  obtain ⟨hx, hb, hr, hml, rfl, hown, hts, hK, hnm, hlk, hfr, hlo, hbs⟩ := cx
  intro H locs ls hP hz hS hl
  exact lv_icmp_eq hx hb hd ht (fun q => kt q H locs ls hP hz hS hl) (fun q => kf q H locs ls hP hz hS hl)
theorem g_if_eq {κ : zX} {y : MethodName} {cc : ByteArray} {nL : Nat} {ret : Option FieldType} {fr lo : Nat} (cx : Cx y cc nL ret fr lo κ) {pc : Nat} {L st : List Value} {sh : zSh} {I : zI} {P : zP} {ce sl : Nat} {x : Int32} {off : Int} {tgt : Nat} (hd : decode cc pc = .ok (.ifCond .eq off, 3)) (ht : (pc : Int) + off = (tgt : Int)) (kt : x = 0 → Gx κ tgt L st sh I P ce sl) (kf : ¬ x = 0 → Gx κ (pc + 3) L st sh I P ce sl) : Gx κ pc L (.int x :: st) sh I P ce sl := by
  obtain ⟨p, l, e, R, s, m, args, below, meth, c, Q, D, dA, b, tA, nq⟩ := κ
  obtain ⟨hx, hb, hr, hml, rfl, hown, hts, hK, hnm, hlk, hfr, hlo, hbs⟩ := cx
  intro H locs ls hP hz hS hl
  exact lv_if_eq hx hb hd ht (fun q => kt q H locs ls hP hz hS hl) (fun q => kf q H locs ls hP hz hS hl)
theorem g_icmp_ne {κ : zX} {y : MethodName} {cc : ByteArray} {nL : Nat} {ret : Option FieldType} {fr lo : Nat} (cx : Cx y cc nL ret fr lo κ) {pc : Nat} {L st : List Value} {sh : zSh} {I : zI} {P : zP} {ce sl : Nat} {x z : Int32} {off : Int} {tgt : Nat} (hd : decode cc pc = .ok (.if_icmp .ne off, 3)) (ht : (pc : Int) + off = (tgt : Int)) (kt : ¬ x = z → Gx κ tgt L st sh I P ce sl) (kf : x = z → Gx κ (pc + 3) L st sh I P ce sl) : Gx κ pc L (.int z :: .int x :: st) sh I P ce sl := by
  obtain ⟨p, l, e, R, s, m, args, below, meth, c, Q, D, dA, b, tA, nq⟩ := κ
  obtain ⟨hx, hb, hr, hml, rfl, hown, hts, hK, hnm, hlk, hfr, hlo, hbs⟩ := cx
  intro H locs ls hP hz hS hl
  exact lv_icmp_ne hx hb hd ht (fun q => kt q H locs ls hP hz hS hl) (fun q => kf q H locs ls hP hz hS hl)
theorem g_if_ne {κ : zX} {y : MethodName} {cc : ByteArray} {nL : Nat} {ret : Option FieldType} {fr lo : Nat} (cx : Cx y cc nL ret fr lo κ) {pc : Nat} {L st : List Value} {sh : zSh} {I : zI} {P : zP} {ce sl : Nat} {x : Int32} {off : Int} {tgt : Nat} (hd : decode cc pc = .ok (.ifCond .ne off, 3)) (ht : (pc : Int) + off = (tgt : Int)) (kt : ¬ x = 0 → Gx κ tgt L st sh I P ce sl) (kf : x = 0 → Gx κ (pc + 3) L st sh I P ce sl) : Gx κ pc L (.int x :: st) sh I P ce sl := by
  obtain ⟨p, l, e, R, s, m, args, below, meth, c, Q, D, dA, b, tA, nq⟩ := κ
  obtain ⟨hx, hb, hr, hml, rfl, hown, hts, hK, hnm, hlk, hfr, hlo, hbs⟩ := cx
  intro H locs ls hP hz hS hl
  exact lv_if_ne hx hb hd ht (fun q => kt q H locs ls hP hz hS hl) (fun q => kf q H locs ls hP hz hS hl)
theorem g_icmp_lt {κ : zX} {y : MethodName} {cc : ByteArray} {nL : Nat} {ret : Option FieldType} {fr lo : Nat} (cx : Cx y cc nL ret fr lo κ) {pc : Nat} {L st : List Value} {sh : zSh} {I : zI} {P : zP} {ce sl : Nat} {x z : Int32} {off : Int} {tgt : Nat} (hd : decode cc pc = .ok (.if_icmp .lt off, 3)) (ht : (pc : Int) + off = (tgt : Int)) (kt : x < z → Gx κ tgt L st sh I P ce sl) (kf : ¬ x < z → Gx κ (pc + 3) L st sh I P ce sl) : Gx κ pc L (.int z :: .int x :: st) sh I P ce sl := by
  obtain ⟨p, l, e, R, s, m, args, below, meth, c, Q, D, dA, b, tA, nq⟩ := κ
  obtain ⟨hx, hb, hr, hml, rfl, hown, hts, hK, hnm, hlk, hfr, hlo, hbs⟩ := cx
  intro H locs ls hP hz hS hl
  exact lv_icmp_lt hx hb hd ht (fun q => kt q H locs ls hP hz hS hl) (fun q => kf q H locs ls hP hz hS hl)
theorem g_if_lt {κ : zX} {y : MethodName} {cc : ByteArray} {nL : Nat} {ret : Option FieldType} {fr lo : Nat} (cx : Cx y cc nL ret fr lo κ) {pc : Nat} {L st : List Value} {sh : zSh} {I : zI} {P : zP} {ce sl : Nat} {x : Int32} {off : Int} {tgt : Nat} (hd : decode cc pc = .ok (.ifCond .lt off, 3)) (ht : (pc : Int) + off = (tgt : Int)) (kt : x < 0 → Gx κ tgt L st sh I P ce sl) (kf : ¬ x < 0 → Gx κ (pc + 3) L st sh I P ce sl) : Gx κ pc L (.int x :: st) sh I P ce sl := by
  obtain ⟨p, l, e, R, s, m, args, below, meth, c, Q, D, dA, b, tA, nq⟩ := κ
  obtain ⟨hx, hb, hr, hml, rfl, hown, hts, hK, hnm, hlk, hfr, hlo, hbs⟩ := cx
  intro H locs ls hP hz hS hl
  exact lv_if_lt hx hb hd ht (fun q => kt q H locs ls hP hz hS hl) (fun q => kf q H locs ls hP hz hS hl)
theorem g_icmp_ge {κ : zX} {y : MethodName} {cc : ByteArray} {nL : Nat} {ret : Option FieldType} {fr lo : Nat} (cx : Cx y cc nL ret fr lo κ) {pc : Nat} {L st : List Value} {sh : zSh} {I : zI} {P : zP} {ce sl : Nat} {x z : Int32} {off : Int} {tgt : Nat} (hd : decode cc pc = .ok (.if_icmp .ge off, 3)) (ht : (pc : Int) + off = (tgt : Int)) (kt : z ≤ x → Gx κ tgt L st sh I P ce sl) (kf : ¬ z ≤ x → Gx κ (pc + 3) L st sh I P ce sl) : Gx κ pc L (.int z :: .int x :: st) sh I P ce sl := by
  obtain ⟨p, l, e, R, s, m, args, below, meth, c, Q, D, dA, b, tA, nq⟩ := κ
  obtain ⟨hx, hb, hr, hml, rfl, hown, hts, hK, hnm, hlk, hfr, hlo, hbs⟩ := cx
  intro H locs ls hP hz hS hl
  exact lv_icmp_ge hx hb hd ht (fun q => kt q H locs ls hP hz hS hl) (fun q => kf q H locs ls hP hz hS hl)
theorem g_if_ge {κ : zX} {y : MethodName} {cc : ByteArray} {nL : Nat} {ret : Option FieldType} {fr lo : Nat} (cx : Cx y cc nL ret fr lo κ) {pc : Nat} {L st : List Value} {sh : zSh} {I : zI} {P : zP} {ce sl : Nat} {x : Int32} {off : Int} {tgt : Nat} (hd : decode cc pc = .ok (.ifCond .ge off, 3)) (ht : (pc : Int) + off = (tgt : Int)) (kt : 0 ≤ x → Gx κ tgt L st sh I P ce sl) (kf : ¬ 0 ≤ x → Gx κ (pc + 3) L st sh I P ce sl) : Gx κ pc L (.int x :: st) sh I P ce sl := by
  obtain ⟨p, l, e, R, s, m, args, below, meth, c, Q, D, dA, b, tA, nq⟩ := κ
  obtain ⟨hx, hb, hr, hml, rfl, hown, hts, hK, hnm, hlk, hfr, hlo, hbs⟩ := cx
  intro H locs ls hP hz hS hl
  exact lv_if_ge hx hb hd ht (fun q => kt q H locs ls hP hz hS hl) (fun q => kf q H locs ls hP hz hS hl)
theorem g_icmp_gt {κ : zX} {y : MethodName} {cc : ByteArray} {nL : Nat} {ret : Option FieldType} {fr lo : Nat} (cx : Cx y cc nL ret fr lo κ) {pc : Nat} {L st : List Value} {sh : zSh} {I : zI} {P : zP} {ce sl : Nat} {x z : Int32} {off : Int} {tgt : Nat} (hd : decode cc pc = .ok (.if_icmp .gt off, 3)) (ht : (pc : Int) + off = (tgt : Int)) (kt : z < x → Gx κ tgt L st sh I P ce sl) (kf : ¬ z < x → Gx κ (pc + 3) L st sh I P ce sl) : Gx κ pc L (.int z :: .int x :: st) sh I P ce sl := by
  obtain ⟨p, l, e, R, s, m, args, below, meth, c, Q, D, dA, b, tA, nq⟩ := κ
  obtain ⟨hx, hb, hr, hml, rfl, hown, hts, hK, hnm, hlk, hfr, hlo, hbs⟩ := cx
  intro H locs ls hP hz hS hl
  exact lv_icmp_gt hx hb hd ht (fun q => kt q H locs ls hP hz hS hl) (fun q => kf q H locs ls hP hz hS hl)
theorem g_if_gt {κ : zX} {y : MethodName} {cc : ByteArray} {nL : Nat} {ret : Option FieldType} {fr lo : Nat} (cx : Cx y cc nL ret fr lo κ) {pc : Nat} {L st : List Value} {sh : zSh} {I : zI} {P : zP} {ce sl : Nat} {x : Int32} {off : Int} {tgt : Nat} (hd : decode cc pc = .ok (.ifCond .gt off, 3)) (ht : (pc : Int) + off = (tgt : Int)) (kt : 0 < x → Gx κ tgt L st sh I P ce sl) (kf : ¬ 0 < x → Gx κ (pc + 3) L st sh I P ce sl) : Gx κ pc L (.int x :: st) sh I P ce sl := by
  obtain ⟨p, l, e, R, s, m, args, below, meth, c, Q, D, dA, b, tA, nq⟩ := κ
  obtain ⟨hx, hb, hr, hml, rfl, hown, hts, hK, hnm, hlk, hfr, hlo, hbs⟩ := cx
  intro H locs ls hP hz hS hl
  exact lv_if_gt hx hb hd ht (fun q => kt q H locs ls hP hz hS hl) (fun q => kf q H locs ls hP hz hS hl)
theorem g_icmp_le {κ : zX} {y : MethodName} {cc : ByteArray} {nL : Nat} {ret : Option FieldType} {fr lo : Nat} (cx : Cx y cc nL ret fr lo κ) {pc : Nat} {L st : List Value} {sh : zSh} {I : zI} {P : zP} {ce sl : Nat} {x z : Int32} {off : Int} {tgt : Nat} (hd : decode cc pc = .ok (.if_icmp .le off, 3)) (ht : (pc : Int) + off = (tgt : Int)) (kt : x ≤ z → Gx κ tgt L st sh I P ce sl) (kf : ¬ x ≤ z → Gx κ (pc + 3) L st sh I P ce sl) : Gx κ pc L (.int z :: .int x :: st) sh I P ce sl := by
  obtain ⟨p, l, e, R, s, m, args, below, meth, c, Q, D, dA, b, tA, nq⟩ := κ
  obtain ⟨hx, hb, hr, hml, rfl, hown, hts, hK, hnm, hlk, hfr, hlo, hbs⟩ := cx
  intro H locs ls hP hz hS hl
  exact lv_icmp_le hx hb hd ht (fun q => kt q H locs ls hP hz hS hl) (fun q => kf q H locs ls hP hz hS hl)
theorem g_if_le {κ : zX} {y : MethodName} {cc : ByteArray} {nL : Nat} {ret : Option FieldType} {fr lo : Nat} (cx : Cx y cc nL ret fr lo κ) {pc : Nat} {L st : List Value} {sh : zSh} {I : zI} {P : zP} {ce sl : Nat} {x : Int32} {off : Int} {tgt : Nat} (hd : decode cc pc = .ok (.ifCond .le off, 3)) (ht : (pc : Int) + off = (tgt : Int)) (kt : x ≤ 0 → Gx κ tgt L st sh I P ce sl) (kf : ¬ x ≤ 0 → Gx κ (pc + 3) L st sh I P ce sl) : Gx κ pc L (.int x :: st) sh I P ce sl := by
  obtain ⟨p, l, e, R, s, m, args, below, meth, c, Q, D, dA, b, tA, nq⟩ := κ
  obtain ⟨hx, hb, hr, hml, rfl, hown, hts, hK, hnm, hlk, hfr, hlo, hbs⟩ := cx
  intro H locs ls hP hz hS hl
  exact lv_if_le hx hb hd ht (fun q => kt q H locs ls hP hz hS hl) (fun q => kf q H locs ls hP hz hS hl)
theorem g_goto {κ : zX} {y : MethodName} {cc : ByteArray} {nL : Nat} {ret : Option FieldType} {fr lo : Nat} (cx : Cx y cc nL ret fr lo κ) {pc : Nat} {L st : List Value} {sh : zSh} {I : zI} {P : zP} {ce sl : Nat} {off : Int} {tgt : Nat} (hd : decode cc pc = .ok (.goto off, 3)) (ht : (pc : Int) + off = (tgt : Int)) (kk : Gx κ tgt L st sh I P ce sl) : Gx κ pc L st sh I P ce sl := by
  obtain ⟨p, l, e, R, s, m, args, below, meth, c, Q, D, dA, b, tA, nq⟩ := κ
  obtain ⟨hx, hb, hr, hml, rfl, hown, hts, hK, hnm, hlk, hfr, hlo, hbs⟩ := cx
  intro H locs ls hP hz hS hl
  exact lv_goto hx hb hd ht (kk H locs ls hP hz hS hl)
theorem g_tabIn {κ : zX} {y : MethodName} {cc : ByteArray} {nL : Nat} {ret : Option FieldType} {fr lo : Nat} (cx : Cx y cc nL ret fr lo κ) {pc : Nat} {L st : List Value} {sh : zSh} {I : zI} {P : zP} {ce sl : Nat} {dflt lo9 hi9 : Int} {offs : Array Int} {len : Nat} {x : Int32} {off : Int} {tgt : Nat} (hd : decode cc pc = .ok (.tableswitch dflt lo9 hi9 offs, len)) (h1 : ¬ x.toInt < lo9) (h2 : ¬ hi9 < x.toInt) (ho : offs[(x.toInt - lo9).toNat]? = some off) (ht : (pc : Int) + off = (tgt : Int)) (kk : Gx κ tgt L st sh I P ce sl) : Gx κ pc L (.int x :: st) sh I P ce sl := by
  obtain ⟨p, l, e, R, s, m, args, below, meth, c, Q, D, dA, b, tA, nq⟩ := κ
  obtain ⟨hx, hb, hr, hml, rfl, hown, hts, hK, hnm, hlk, hfr, hlo, hbs⟩ := cx
  intro H locs ls hP hz hS hl
  exact lv_tableIn hx hb hd h1 h2 ho ht (kk H locs ls hP hz hS hl)
theorem g_tabOut {κ : zX} {y : MethodName} {cc : ByteArray} {nL : Nat} {ret : Option FieldType} {fr lo : Nat} (cx : Cx y cc nL ret fr lo κ) {pc : Nat} {L st : List Value} {sh : zSh} {I : zI} {P : zP} {ce sl : Nat} {dflt lo9 hi9 : Int} {offs : Array Int} {len : Nat} {x : Int32} {tgt : Nat} (hd : decode cc pc = .ok (.tableswitch dflt lo9 hi9 offs, len)) (h1 : x.toInt < lo9 ∨ hi9 < x.toInt) (ht : (pc : Int) + dflt = (tgt : Int)) (kk : Gx κ tgt L st sh I P ce sl) : Gx κ pc L (.int x :: st) sh I P ce sl := by
  obtain ⟨p, l, e, R, s, m, args, below, meth, c, Q, D, dA, b, tA, nq⟩ := κ
  obtain ⟨hx, hb, hr, hml, rfl, hown, hts, hK, hnm, hlk, hfr, hlo, hbs⟩ := cx
  intro H locs ls hP hz hS hl
  exact lv_tableOut hx hb hd h1 ht (kk H locs ls hP hz hS hl)
theorem g_lookup {κ : zX} {y : MethodName} {cc : ByteArray} {nL : Nat} {ret : Option FieldType} {fr lo : Nat} (cx : Cx y cc nL ret fr lo κ) {pc : Nat} {L st : List Value} {sh : zSh} {I : zI} {P : zP} {ce sl : Nat} {dflt : Int} {ps : Array (Int × Int)} {len : Nat} {x : Int32} {off : Int} {tgt : Nat} (hd : decode cc pc = .ok (.lookupswitch dflt ps, len)) (hp : (ps.toList.zip (ps.toList.drop 1)).all (fun (a, next) => a.1 < next.1) = true) (ho : Op.lookupswitch.offset ps.toList dflt x.toInt = off) (ht : (pc : Int) + off = (tgt : Int)) (kk : Gx κ tgt L st sh I P ce sl) : Gx κ pc L (.int x :: st) sh I P ce sl := by
  obtain ⟨p, l, e, R, s, m, args, below, meth, c, Q, D, dA, b, tA, nq⟩ := κ
  obtain ⟨hx, hb, hr, hml, rfl, hown, hts, hK, hnm, hlk, hfr, hlo, hbs⟩ := cx
  intro H locs ls hP hz hS hl
  exact lv_lookup hx hb hd hp ho ht (kk H locs ls hP hz hS hl)
theorem g_iret {κ : zX} {y : MethodName} {cc : ByteArray} {nL : Nat} {ret : Option FieldType} {fr lo : Nat} (cx : Cx y cc nL ret fr lo κ) {pc : Nat} {L : List Value} {sh : zSh} {I : zI} {P : zP} {ce sl : Nat} {Qf : Option Value → zSh → zI → zP → Prop} {mc ms : Nat} {v : Int32} {ty : FieldType} (hE : zEnd Qf mc ms κ) (hc : ce ≤ mc) (hs : sl ≤ ms) (hrt : ret = some ty) (hn : narrow ty (.int v) = .int v) (hd : decode cc pc = .ok (.ireturn, 1)) (hq : Qf (some (.int v)) sh I P) : Gx κ pc L [.int v] sh I P ce sl := by
  obtain ⟨p, l, e, R, s, m, args, below, meth, c, Q, D, dA, b, tA, nq⟩ := κ
  obtain ⟨hx, hb, hr, hml, rfl, hown, hts, hK, hnm, hlk, hfr, hlo, hbs⟩ := cx
  intro H locs ls hP hz hS hl
  obtain ⟨rfl, -, -⟩ := hE
  refine W.widen hc hs ?_
  exact W.zret hx hb (hr.trans hrt) hn (fun t ht hW => ⟨⟨some (.int v), sh, I, P, rfl, hq, by rw [ht]; exact hP, by rw [ht]; exact hz⟩, hS.F ht⟩) hS.2.2 hd
theorem g_vret {κ : zX} {y : MethodName} {cc : ByteArray} {nL : Nat} {ret : Option FieldType} {fr lo : Nat} (cx : Cx y cc nL ret fr lo κ) {pc : Nat} {L : List Value} {sh : zSh} {I : zI} {P : zP} {ce sl : Nat} {Qf : Option Value → zSh → zI → zP → Prop} {mc ms : Nat} (hE : zEnd Qf mc ms κ) (hc : ce ≤ mc) (hs : sl ≤ ms) (hrt : ret = none) (hd : decode cc pc = .ok (.return_, 1)) (hq : Qf none sh I P) : Gx κ pc L [] sh I P ce sl := by
  obtain ⟨p, l, e, R, s, m, args, below, meth, c, Q, D, dA, b, tA, nq⟩ := κ
  obtain ⟨hx, hb, hr, hml, rfl, hown, hts, hK, hnm, hlk, hfr, hlo, hbs⟩ := cx
  intro H locs ls hP hz hS hl
  obtain ⟨rfl, -, -⟩ := hE
  refine W.widen hc hs ?_
  exact W.vret hx hb (hr.trans hrt) (fun t ht hW => ⟨⟨none, sh, I, P, rfl, hq, by rw [ht]; exact hP, by rw [ht]; exact hz⟩, hS.F ht⟩) hS.2.2 hd
theorem g_aret {κ : zX} {y : MethodName} {cc : ByteArray} {nL : Nat} {ret : Option FieldType} {fr lo : Nat} (cx : Cx y cc nL ret fr lo κ) {pc : Nat} {L : List Value} {sh : zSh} {I : zI} {P : zP} {ce sl : Nat} {Qf : Option Value → zSh → zI → zP → Prop} {mc ms : Nat} {k : Nat} {rt : FieldType} (hE : zEnd Qf mc ms κ) (hc : ce ≤ mc) (hs : sl ≤ ms) (hrt : ret = some rt) (hrt2 : (∃ n, rt = .object n) ∨ ∃ t, rt = .array t) (hd : decode cc pc = .ok (.areturn, 1)) (hq : Qf (some (.ref k)) sh I P) : Gx κ pc L [.ref k] sh I P ce sl := by
  obtain ⟨p, l, e, R, s, m, args, below, meth, c, Q, D, dA, b, tA, nq⟩ := κ
  obtain ⟨hx, hb, hr, hml, rfl, hown, hts, hK, hnm, hlk, hfr, hlo, hbs⟩ := cx
  intro H locs ls hP hz hS hl
  obtain ⟨rfl, -, -⟩ := hE
  refine W.widen hc hs ?_
  exact W.aret hx hb (hr.trans hrt) hrt2 (Or.inr ⟨_, rfl⟩) (fun t ht hW => ⟨⟨some (.ref k), sh, I, P, rfl, hq, by rw [ht]; exact hP, by rw [ht]; exact hz⟩, hS.F ht⟩) hS.2.2 hd
