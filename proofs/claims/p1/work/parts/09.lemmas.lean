theorem i32ne {x k : Int32} (h : ¬ x = k) : x.toInt ≠ k.toInt := fun e => h (Int32.toInt_inj.mp e)
/-- from k on nothing is there yet -/
def zfr (k : Nat) (I : zI) (P : zP) : Prop := ∀ a, k ≤ a → (∀ j, I a j = 0) ∧ (∀ j, P a j = none)
theorem zfr.up {k n : Nat} {I : zI} {P : zP} (h : zfr k I P) (hn : k ≤ n) : zfr n I P := fun a ha => h a (Nat.le_trans hn ha)
theorem zfr.i {k o j : Nat} {v : Int32} {I : zI} {P : zP} (ho : o < k) (h : zfr k I P) : zfr k (zu I o j v) P := fun a ha => ⟨fun c => by rw [zu_ne (by omega)]; exact (h a ha).1 c, (h a ha).2⟩
theorem zfr.p {k o j : Nat} {v : Option Nat} {I : zI} {P : zP} (ho : o < k) (h : zfr k I P) : zfr k I (zu P o j v) := fun a ha => ⟨(h a ha).1, fun c => by rw [zu_ne (by omega)]; exact (h a ha).2 c⟩
theorem zroom {κ : zX} {Qf : Option Value → zSh → zI → zP → Prop} {mc ms a b : Nat} (hE : zEnd Qf mc ms κ) (h1 : a ≤ mc) (h2 : b ≤ ms) : ∀ mc9 ms9, zRoom κ mc9 ms9 → a ≤ mc9 ∧ b ≤ ms9 := by
  obtain ⟨p, l, e, R, s, m, args, below, meth, c, Q, D, dA, b, tA, nq⟩ := κ
  obtain ⟨-, h3, h4⟩ := hE
  intro mc9 ms9 h
  obtain ⟨h5, h6⟩ := h
  have h5 : R.cells = mc9 := h5
  have h6 : R.slots = ms9 := h6
  omega
theorem zshl {sh : zSh} {o k : Nat} {q : Nat × Nat} (h : sh[o]? = some q) (hk : sh.length = k) : o < k := by
  have := (List.getElem?_eq_some_iff.mp h).1
  omega
theorem zsha {sh l : zSh} {o : Nat} {q : Nat × Nat} (h : sh[o]? = some q) : (sh ++ l)[o]? = some q := by
  rw [List.getElem?_append_left (List.getElem?_eq_some_iff.mp h).1]
  exact h
theorem zshn {sh : zSh} {k : Nat} {q : Nat × Nat} (hk : sh.length = k) : (sh ++ [q])[k]? = some q := by
  subst hk
  simp
theorem zshk {sh l : zSh} {k n : Nat} (hk : sh.length = k) (hl : l.length = n) : (sh ++ l).length = k + n := by
  rw [List.length_append, hk, hl]
theorem Gx.S {κ : zX} {pc : Nat} {L st : List Value} {sh : zSh} {I : zI} {P : zP} {ce sl : Nat} (st2 : List Value) (h : st = st2) (kk : Gx κ pc L st2 sh I P ce sl) : Gx κ pc L st sh I P ce sl := by rw [h]; exact kk
theorem Gx.C {κ : zX} {pc : Nat} {L st : List Value} {sh : zSh} {I : zI} {P : zP} {ce sl : Nat} (ce2 sl2 : Nat) (h : ce = ce2) (h2 : sl = sl2) (kk : Gx κ pc L st sh I P ce2 sl2) : Gx κ pc L st sh I P ce sl := by rw [h, h2]; exact kk
theorem Gx.H {κ : zX} {pc : Nat} {L st : List Value} {sh : zSh} {I : zI} {P : zP} {ce sl : Nat} (sh2 : zSh) (h : sh = sh2) (kk : Gx κ pc L st sh2 I P ce sl) : Gx κ pc L st sh I P ce sl := by rw [h]; exact kk
section ZNEW
variable {κ : zX} {y : MethodName} {cc : ByteArray} {nL : Nat} {ret : Option FieldType} {fr lo : Nat} {pc : Nat} {L st : List Value} {sh : zSh} {I : zI} {P : zP} {ce sl k : Nat} {Qf : Option Value → zSh → zI → zP → Prop} {mc ms : Nat}
theorem k_newI (cx : Cx y cc nL ret fr lo κ) (hE : zEnd Qf mc ms κ) (hk : sh.length = k) (hf : zfr k I P) {x : Int32} {N : Nat} (hd : decode cc pc = .ok (.newarray .int, 2)) (hn : ¬ x < 0) (hN : x.toNatClampNeg = N) (hb : N ≤ 1000000) (h1 : ce + 1 ≤ mc) (h2 : sl + N ≤ ms) (kk : (sh ++ [(11, N)]).length = k + 1 → zfr (k + 1) I P → Gx κ (pc + 2) L (.ref k :: st) (sh ++ [(11, N)]) I P (ce + 1) (sl + N)) : Gx κ pc L (.int x :: st) sh I P ce sl := by
  subst hk
  exact g_newI cx hn hN hb (hf sh.length (Nat.le_refl _)).1 (zroom hE h1 h2) hd (kk (by simp) (hf.up (Nat.le_succ _)))
theorem k_newZ (cx : Cx y cc nL ret fr lo κ) (hE : zEnd Qf mc ms κ) (hk : sh.length = k) (hf : zfr k I P) {x : Int32} {N : Nat} (hd : decode cc pc = .ok (.newarray .boolean, 2)) (hn : ¬ x < 0) (hN : x.toNatClampNeg = N) (hb : N ≤ 1000000) (h1 : ce + 1 ≤ mc) (h2 : sl + N ≤ ms) (kk : (sh ++ [(12, N)]).length = k + 1 → zfr (k + 1) I P → Gx κ (pc + 2) L (.ref k :: st) (sh ++ [(12, N)]) I P (ce + 1) (sl + N)) : Gx κ pc L (.int x :: st) sh I P ce sl := by
  subst hk
  exact g_newZ cx hn hN hb (hf sh.length (Nat.le_refl _)).1 (zroom hE h1 h2) hd (kk (by simp) (hf.up (Nat.le_succ _)))
theorem k_newR (cx : Cx y cc nL ret fr lo κ) (hE : zEnd Qf mc ms κ) (hk : sh.length = k) (hf : zfr k I P) {idx : Nat} (t : Nat) {x : Int32} {N : Nat} (hd : decode cc pc = .ok (.anewarray idx, 3)) (ht : 13 ≤ t) (ht2 : t < 16) (hcl : Cond.classLink y.cls idx (zCn t) ∈ wsG) (hn : ¬ x < 0) (hN : x.toNatClampNeg = N) (hb : N ≤ 1000000) (h1 : ce + 1 ≤ mc) (h2 : sl + N ≤ ms) (kk : (sh ++ [(t, N)]).length = k + 1 → zfr (k + 1) I P → Gx κ (pc + 3) L (.ref k :: st) (sh ++ [(t, N)]) I P (ce + 1) (sl + N)) : Gx κ pc L (.int x :: st) sh I P ce sl := by
  subst hk
  exact g_newR cx ht ht2 hcl hn hN hb (hf sh.length (Nat.le_refl _)).2 (zroom hE h1 h2) hd (kk (by simp) (hf.up (Nat.le_succ _)))
theorem k_new (cx : Cx y cc nL ret fr lo κ) (hE : zEnd Qf mc ms κ) (hk : sh.length = k) (hf : zfr k I P) {idx : Nat} (t : Nat) (q : vw_C) (hd : decode cc pc = .ok (.new idx, 3)) (hc : vwCl[t]? = some q) (hcl : Cond.classLink y.cls idx q.1 ∈ wsG) (hinst : Cond.instantiable q.1 q.2.2 ∈ wsG) (hini : Cond.initialized q.1 ∈ wsG) (hdf : ∀ j, j < q.2.2 → defaultValue (zTy t j) = if zRf t j = true then .null else .int 0) (h1 : ce + 1 ≤ mc) (h2 : sl + q.2.2 ≤ ms) (kk : (sh ++ [(t, q.2.2)]).length = k + 1 → zfr (k + 1) I P → Gx κ (pc + 3) L (.ref k :: st) (sh ++ [(t, q.2.2)]) I P (ce + 1) (sl + q.2.2)) : Gx κ pc L st sh I P ce sl := by
  subst hk
  exact g_new cx hc hcl hinst hini (hf sh.length (Nat.le_refl _)).1 (hf sh.length (Nat.le_refl _)).2 hdf (zroom hE h1 h2) hd (kk (by simp) (hf.up (Nat.le_succ _)))
end ZNEW
theorem df_0 : ∀ j, j < 6 → defaultValue (zTy 0 j) = if zRf 0 j = true then .null else .int 0 := by decide +kernel
theorem df_1 : ∀ j, j < 6 → defaultValue (zTy 1 j) = if zRf 1 j = true then .null else .int 0 := by decide +kernel
theorem df_2 : ∀ j, j < 17 → defaultValue (zTy 2 j) = if zRf 2 j = true then .null else .int 0 := by decide +kernel
theorem df_3 : ∀ j, j < 11 → defaultValue (zTy 3 j) = if zRf 3 j = true then .null else .int 0 := by decide +kernel
theorem df_4 : ∀ j, j < 6 → defaultValue (zTy 4 j) = if zRf 4 j = true then .null else .int 0 := by decide +kernel
theorem df_5 : ∀ j, j < 2 → defaultValue (zTy 5 j) = if zRf 5 j = true then .null else .int 0 := by decide +kernel
theorem df_6 : ∀ j, j < 13 → defaultValue (zTy 6 j) = if zRf 6 j = true then .null else .int 0 := by decide +kernel
theorem df_7 : ∀ j, j < 17 → defaultValue (zTy 7 j) = if zRf 7 j = true then .null else .int 0 := by decide +kernel
theorem df_8 : ∀ j, j < 11 → defaultValue (zTy 8 j) = if zRf 8 j = true then .null else .int 0 := by decide +kernel
theorem df_9 : ∀ j, j < 12 → defaultValue (zTy 9 j) = if zRf 9 j = true then .null else .int 0 := by decide +kernel
theorem df_10 : ∀ j, j < 87 → defaultValue (zTy 10 j) = if zRf 10 j = true then .null else .int 0 := by decide +kernel
theorem Gx.N {κ : zX} {pc : Nat} {L st : List Value} {sh : zSh} {I : zI} {P : zP} {ce sl : Nat} (pc2 : Nat) (h : pc = pc2) (kk : Gx κ pc2 L st sh I P ce sl) : Gx κ pc L st sh I P ce sl := by rw [h]; exact kk
