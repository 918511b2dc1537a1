def R_law : String := "ProbeLoomLaw"
def lw_P (b : Addr) (xs : List Int32) (args : Array Value) (s : State) : Prop := args = #[.ref b] ∧ s.IntsAt b xs ∧ xs.length ≤ 6 ∧ (Jvm.Cond.and given_1 narrow_1).before args s = true
def lw_Q (_ : Array Value) (s : State) (o : Outcome) (t : State) : Prop := o = .returned (some (.int 1)) ∧ Framed s o t [] 600000 7302250
def lw_Z (below : List Frame) (a : Array Value) (s : State) : State → Prop := fun t => ∃ o, t.status = .running ∧ Ended t below o ∧ lw_Q a s o t
/-- the law's own end, with 1 on the stack, nothing written that was there before, its room as the claim has it -/
theorem lw_ret {p : Program} {l : Launch} {e : Env} {s : State} {m : MethodId} {below : List Frame} {meth : Method} {c : Code} {b : Nat} (hx : p.tables.exec = Jvm.exec) (hb : c.code = code) (hr : meth.sig.returnType = ret) (hlocks : meth.locks = false) {pc : Nat} {H : Heap} {ls : Array Slot} (hdg : decode code pc = .ok (.ireturn, 1)) : W p l e room_1 s m #[Value.ref b] below meth c H [] 600000 7302250 (lw_Z below #[Value.ref b] s) (F0 m pc ls [.int 1]) := by
  intro T hT X
  obtain ⟨fs, hret, hrun, hended, hW, hframe⟩ := X.leave (v := some (.int 1)) (hlocks := hlocks) (fun h => by rw [hr] at h; cases h)
  have hmeth' : T.vm.method? m = some meth := X.method'
  refine ⟨T.setFrames fs, ?_, .returned (some (.int 1)), hrun, hended, rfl, ⟨_, rfl⟩, hW, hframe⟩
  jvm_step X.here [X.here.top, hx, hb, hdg, hmeth', hr, ret, narrow_b1]
  (try refine ⟨rfl, ?_⟩); (try refine ⟨rfl, ?_⟩)
  first | (intro acts; rw [hret _ acts rfl rfl rfl]) | rw [hret _ _ rfl rfl rfl]
  exact Steps.refl _
/-- what holds at the law's entry: the machine, the code, the tables' words (any of lw_tbl by 'hts w (by decide +kernel)'), the script of L ints xs at the cell b, what the Statement gives of the start (any of its parts by flat_of_before) -/
def lw_At (p : Program) (s : State) (m : MethodId) (meth : Method) (c : Code) (b L : Nat) (xs : Nat → Int32) : Prop :=
  p.tables.exec = Jvm.exec ∧ c.code = code ∧ meth.sig.returnType = ret ∧ c.maxLocals = 4 ∧ s.vm.findClass R_law = some m.cls ∧ (∀ w ∈ lw_tbl, w.before #[Value.ref b] s = true) ∧ va_X b L xs s s.heap ∧ b < s.heap.size ∧ meth.locks = false ∧ (Jvm.Cond.and given_1 narrow_1).before #[Value.ref b] s = true
theorem lt_t {i : Nat} {w : Cond} (h : tables_1[i]? = some w) : w ∈ lw_tbl := List.mem_append_right _ (List.mem_of_getElem? h)
theorem lt_G {w : Cond} (h : w ∈ wsG) : w ∈ lw_tbl := (List.mem_filter.mp h).1
theorem zstat_of {args : Array Value} {s : State} {C n : String} {xs : List Int32} (hts : ∀ w ∈ lw_tbl, w.before args s = true) (hs : ∀ c ∈ flatC (Jvm.Cond.and given_1 narrow_1), c.before args s = true) (h1 : Cond.arrayOf (.static C n "[I") .int ∈ flatC (Jvm.Cond.and given_1 narrow_1)) (h2 : Cond.eq (.length (.static C n "[I")) (.int 44) ∈ flatC (Jvm.Cond.and given_1 narrow_1)) (h3 : ∀ j, j < 44 → Cond.eq (.elem (.static C n "[I") (.int (Int32.ofNat j))) (.int (xs.getD j 0)) ∈ flatC (Jvm.Cond.and given_1 narrow_1)) (hl : Cond.laysStatic C n "[I" ∈ lw_tbl) (hini : Cond.initialized C ∈ lw_tbl) (hlen : xs.length = 44) :
    ∃ t : Nat, va_Z C n "[I" (.ref t) (fun a => s.heap.size ≤ a) s s.heap ∧ va_T .int t xs.length (fun j => .int (xs.getD j 0)) (fun a => s.heap.size ≤ a) s s.heap := by
  obtain ⟨t, ht, hT⟩ := va_Tof (N := 44) (f := fun j => .int (xs.getD j 0)) (A := fun a => s.heap.size ≤ a) (by decide) (hs _ h1) (va_eqt (hs _ h2)) (fun j hj => va_eqt (hs _ (h3 j hj))) (fun a ha => Nat.not_le.mpr ha)
  exact ⟨t, va_Zof (hts _ hl) (hts _ hini) ht (fun a ha => Nat.not_le.mpr ha), by rw [hlen]; exact hT⟩
theorem zst0 {args : Array Value} {s : State} (hts : ∀ w ∈ lw_tbl, w.before args s = true) (hs : ∀ c ∈ flatC (Jvm.Cond.and given_1 narrow_1), c.before args s = true) {q : String × String × List Int32} (hq : zStat[0]? = some q) : ∃ t : Nat, va_Z q.1 q.2.1 "[I" (.ref t) (fun a => s.heap.size ≤ a) s s.heap ∧ va_T .int t q.2.2.length (fun j => .int (q.2.2.getD j 0)) (fun a => s.heap.size ≤ a) s s.heap := by
  cases hq
  exact zstat_of hts hs (by decide +kernel) (by decide +kernel) (by decide +kernel) (lt_t (i := 518) (by decide +kernel)) (lt_t (i := 1) (by decide +kernel)) rfl
theorem zst1 {args : Array Value} {s : State} (hts : ∀ w ∈ lw_tbl, w.before args s = true) (hs : ∀ c ∈ flatC (Jvm.Cond.and given_1 narrow_1), c.before args s = true) {q : String × String × List Int32} (hq : zStat[1]? = some q) : ∃ t : Nat, va_Z q.1 q.2.1 "[I" (.ref t) (fun a => s.heap.size ≤ a) s s.heap ∧ va_T .int t q.2.2.length (fun j => .int (q.2.2.getD j 0)) (fun a => s.heap.size ≤ a) s s.heap := by
  cases hq
  exact zstat_of hts hs (by decide +kernel) (by decide +kernel) (by decide +kernel) (lt_t (i := 646) (by decide +kernel)) (lt_t (i := 3) (by decide +kernel)) rfl
theorem zst2 {args : Array Value} {s : State} (hts : ∀ w ∈ lw_tbl, w.before args s = true) (hs : ∀ c ∈ flatC (Jvm.Cond.and given_1 narrow_1), c.before args s = true) {q : String × String × List Int32} (hq : zStat[2]? = some q) : ∃ t : Nat, va_Z q.1 q.2.1 "[I" (.ref t) (fun a => s.heap.size ≤ a) s s.heap ∧ va_T .int t q.2.2.length (fun j => .int (q.2.2.getD j 0)) (fun a => s.heap.size ≤ a) s s.heap := by
  cases hq
  exact zstat_of hts hs (by decide +kernel) (by decide +kernel) (by decide +kernel) (lt_t (i := 648) (by decide +kernel)) (lt_t (i := 3) (by decide +kernel)) rfl
theorem znest_in : ∀ q ∈ zNest, Cond.methodLinkNest q.1 q.2.1 q.2.2.1 q.2.2.2 ∈ lw_tbl := by
  intro q hq
  have h : zNest.map (fun q => Cond.methodLinkNest q.1 q.2.1 q.2.2.1 q.2.2.2) = ([25, 39, 65, 130, 260, 316, 500, 514, 526, 529, 535, 561, 567, 580, 602, 604, 607, 649, 652, 653, 727, 735, 776, 781, 786, 829, 838, 839, 936, 954, 1006, 1039, 1040, 1045, 1050, 1051, 1109] : List Nat).filterMap (fun i => tables_1[i]?) := by decide +kernel
  have h1 := List.mem_map_of_mem (f := fun q : String × Nat × MethodName × String => Cond.methodLinkNest q.1 q.2.1 q.2.2.1 q.2.2.2) hq
  rw [h] at h1
  obtain ⟨i, -, hi⟩ := List.mem_filterMap.mp h1
  exact lt_t hi
theorem zao_in : ∀ C ∈ ["ProbeLoom$Frame", "ProbeLoom$Method", "ProbeLoom$Tale"], Cond.arrayOver (.object C) ∈ lw_tbl := by
  intro C hC
  simp only [List.mem_cons, List.not_mem_nil, or_false] at hC
  rcases hC with rfl | rfl | rfl
  · exact lt_t (i := 351) (by decide +kernel)
  · exact lt_t (i := 122) (by decide +kernel)
  · exact lt_t (i := 258) (by decide +kernel)
theorem zkn {args : Array Value} {s : State} (hts : ∀ w ∈ lw_tbl, w.before args s = true) (t : Nat) : ∃ ci : ClassId × (Nat → Nat), ∀ q : vw_C, vwCl[t]? = some q → u_Kn s q.1 q.2.1 q.2.2 ci.1 ci.2 := by
  by_cases ht : t < 11
  · have h : ∃ (q : vw_C) (n : Nat), vwCl[t]? = some q ∧ Cond.instantiable q.1 n ∈ wsG := by
      match t, ht with
      | 0, _ => exact ⟨_, _, rfl, ins_X0⟩
      | 1, _ => exact ⟨_, _, rfl, ins_X1⟩
      | 2, _ => exact ⟨_, _, rfl, ins_X2⟩
      | 3, _ => exact ⟨_, _, rfl, ins_X3⟩
      | 4, _ => exact ⟨_, _, rfl, ins_X4⟩
      | 5, _ => exact ⟨_, _, rfl, ins_X5⟩
      | 6, _ => exact ⟨_, _, rfl, ins_X6⟩
      | 7, _ => exact ⟨_, _, rfl, ins_X7⟩
      | 8, _ => exact ⟨_, _, rfl, ins_X8⟩
      | 9, _ => exact ⟨_, _, rfl, ins_X9⟩
      | 10, _ => exact ⟨_, _, rfl, ins_X10⟩
    obtain ⟨q, n, hq, hw⟩ := h
    obtain ⟨c, i, hc⟩ := u_known (C := q.1) (T := q.2.1) (N := q.2.2) hts (fun w hw => lt_G ((zcls hq).1 w hw)) (hts _ (lt_G hw))
    exact ⟨(c, i), fun q2 h2 => by cases hq.symm.trans h2; exact hc⟩
  · exact ⟨(0, fun _ => 0), fun q h => absurd (zlt11 h) ht⟩
theorem zarrA {args : Array Value} {s : State} {ty : FieldType} (h : (Cond.arrayClass ty).before args s = true) (hty : ty = .int ∨ ty = .boolean) : ∃ cA : ClassId, ArrOfT s cA ty ∧ va_RA s cA ty := by
  obtain ⟨cA, kA, comp, h1, h2, h3⟩ := Cond.arrayClass_spec h
  refine ⟨cA, fun n z => ⟨fun k h => (by cases h), kA, h2, comp, h3⟩, ?_⟩
  rcases hty with rfl | rfl <;> exact h1
theorem zarrO {args : Array Value} {s : State} {C : String} (h : (Cond.arrayOver (.object C)).before args s = true) : ∃ cA : ClassId, ArrOfT s cA (.object C) ∧ va_RA s cA (.object C) := by
  obtain ⟨comp, cA, kA, hcomp, -, hkA, hkind, hnm⟩ := Cond.arrayOver_spec h
  exact ⟨cA, fun n z => ⟨fun k h => (by cases h), kA, hkA, comp, hkind⟩, kA, comp, hkA, hkind, hcomp, hnm⟩
theorem zK_start {args : Array Value} {s : State} (hts : ∀ w ∈ lw_tbl, w.before args s = true) (hgv : (Jvm.Cond.and given_1 narrow_1).before args s = true) (b0 : Nat) : ∃ (D : va_G) (dA : Nat → ClassId) (tA : Nat → Nat), tA 3 = b0 ∧ zK D dA s.heap.size tA s := by
  have hs := flat_of_before _ hgv
  obtain ⟨f, hf⟩ := Classical.axiomOfChoice (zkn hts)
  obtain ⟨a1, h1⟩ := zarrA (hts _ (lt_G zarr_int)) (Or.inl rfl)
  obtain ⟨a2, h2⟩ := zarrA (hts _ (lt_G zarr_boolean)) (Or.inr rfl)
  obtain ⟨a3, h3⟩ := zarrO (hts _ (zao_in "ProbeLoom$Frame" (by decide)))
  obtain ⟨a4, h4⟩ := zarrO (hts _ (zao_in "ProbeLoom$Method" (by decide)))
  obtain ⟨a5, h5⟩ := zarrO (hts _ (zao_in "ProbeLoom$Tale" (by decide)))
  obtain ⟨t0, g0⟩ := zst0 hts hs rfl
  obtain ⟨t1, g1⟩ := zst1 hts hs rfl
  obtain ⟨t2, g2⟩ := zst2 hts hs rfl
  refine ⟨(fun t => (f t).1, fun t => (f t).2), fun k => if k = 11 then a1 else if k = 12 then a2 else if k = 13 then a3 else if k = 14 then a4 else a5, fun i => if i = 0 then t0 else if i = 1 then t1 else if i = 2 then t2 else b0, rfl, ⟨fun c q hq => hf c q hq, fun k q hq => ?_⟩, fun q hq => va_Nw.of rfl (hts _ (znest_in q hq)), fun C hC => va_AO.of (hts _ (zao_in C hC)), fun i q hi => ?_⟩
  · match k, hq with
    | 0, hq => cases hq; exact h1
    | 1, hq => cases hq; exact h2
    | 2, hq => cases hq; exact h3
    | 3, hq => cases hq; exact h4
    | 4, hq => cases hq; exact h5
    | k + 5, hq => simp [zTys] at hq
  · match i, hi with
    | 0, hi => cases hi; exact g0
    | 1, hi => cases hi; exact g1
    | 2, hi => cases hi; exact g2
    | i + 3, hi => simp [zStat] at hi
