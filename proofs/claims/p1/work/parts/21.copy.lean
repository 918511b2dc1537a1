theorem cp_link : Cond.methodLink RX2 115 arraycopyName ∈ wsG := wsG_t (i := 1111) (by decide +kernel) rfl
theorem cp_stat : Cond.static arraycopyName ∈ wsG := wsG_t (i := 1112) (by decide +kernel) rfl
theorem cp_nat : Cond.native arraycopyName ∈ wsG := wsG_t (i := 1113) (by decide +kernel) rfl
theorem cp_ini : Cond.initialized "java/lang/System" ∈ wsG := wsG_t (i := 14) (by decide +kernel) rfl
def zcpy (I : zI) (a sp d dp n : Nat) : zI := fun c => if c = d then va_cpy (I a) (I d) sp dp n else I c
/-- System.arraycopy of ints -/
theorem g_copy {κ : zX} {y : MethodName} {cc : ByteArray} {nL : Nat} {ret : Option FieldType} {fr lo : Nat} (cx : Cx y cc nL ret fr lo κ) {pc : Nat} {L st : List Value} {sh : zSh} {I : zI} {P : zP} {ce sl idx a0 a n0 n1 : Nat} {sp dp n : Int32} (hl2 : Cond.methodLink y.cls idx arraycopyName ∈ wsG) (hd : decode cc pc = .ok (.invokestatic idx, 3)) (hsa : sh[a0]? = some (11, n0)) (hsd : sh[a]? = some (11, n1)) (h1 : ¬ sp < 0) (h2 : ¬ dp < 0) (h3 : ¬ n < 0) (h4 : sp.toNatClampNeg + n.toNatClampNeg ≤ n0) (h5 : dp.toNatClampNeg + n.toNatClampNeg ≤ n1) (hlv : st.all zlive = true) (hst : st.length ≤ 8) (hf1 : 1 ≤ fr) (hf2 : 8 + (nativeFrameWords "java/lang/System" "arraycopy" 5 + 11) ≤ lo) (kk : Gx κ (pc + 3) L st sh (zcpy I a0 sp.toNatClampNeg a dp.toNatClampNeg n.toNatClampNeg) P ce sl) : Gx κ pc L (.int n :: .int dp :: .ref a :: .int sp :: .ref a0 :: st) sh I P ce sl := by
  obtain ⟨p, l, e, R, s, m, args, below, meth, c, Q, D, dA, b, tA, nq⟩ := κ
  obtain ⟨hx, hb, hr, hml, rfl, hown, hts, hK, hnm, hlk0, hfr, hlo, hbs⟩ := cx
  intro H locs ls hP hz hS hl
  have ha0 := zW_at (dA := dA) (b := b) (I := I) (P := P) hsa
  have ha1 := zW_at (dA := dA) (b := b) (I := I) (P := P) hsd
  have nn : ∀ z : Int32, ¬ z < 0 → z.toInt = (z.toNatClampNeg : Int) := by
    intro z hz
    have hz0 : (0 : Int) ≤ z.toInt := by
      have := Int32.not_lt.mp hz
      simpa using Int32.le_iff_toInt_le.mp this
    show z.toInt = ((z.toInt.toNat : Nat) : Int)
    omega
  have hsum := zcatsum (b := b) (tA := tA) (zallL hlv)
  intro T hT X
  have hc0 : H[b + a0]? = some (vp_cell (dA 11) (n0, .inl (I a0))) := hP a0 _ ha0
  have hc1 : H[b + a]? = some (vp_cell (dA 11) (n1, .inl (I a))) := hP a _ ha1
  obtain ⟨-, k0, hk0, cm0, hkk0⟩ := (hK.1.2 0 _ rfl).1 n0 (fun j => .int (I a0 j))
  obtain ⟨-, k1, hk1, cm1, hkk1⟩ := (hK.1.2 0 _ rfl).1 n1 (fun j => .int (I a j))
  obtain ⟨vm', X', step⟩ := X.arraycopy hx hown (hts _ hl2) (hts _ cp_nat) (hts _ cp_stat) (hts _ cp_ini) (src := b + a0) (dst := b + a) (cs := vp_cell (dA 11) (n0, .inl (I a0))) (cd := vp_cell (dA 11) (n1, .inl (I a))) (srcPos := sp) (destPos := dp) (n := n) (by rw [hT]; exact hc0) (by rw [hT]; exact hc1)
    (fun _ h => by cases h) (fun _ h => by cases h) (fun h => by cases h) (fun h => by cases h) hk0 hk1 hkk0 hkk1 (by simp [refKind]) h1 h2 h3
    (by rw [nn sp h1, nn n h3]; show ¬ _ > ((arrV (dA 11) n0 (fun j => .int (I a0 j))).slots.size : Int); rw [arrV_size]; omega)
    (by rw [nn dp h2, nn n h3]; show ¬ _ > ((arrV (dA 11) n1 (fun j => .int (I a j))).slots.size : Int); rw [arrV_size]; omega)
    (fun vm₁ _ i hi => by
      have e : (vp_cell (dA 11) (n0, .inl (I a0))).slots.getD (sp.toNatClampNeg + i) .null = .int (I a0 (sp.toNatClampNeg + i)) := by
        show (arrV (dA 11) n0 (fun j => .int (I a0 j))).slots.getD _ _ = _
        rw [Array.getD_eq_getD_getElem?, arrV_read _ _ (by omega)]
        rfl
      refine ⟨?_, ?_⟩
      · rw [e]
        rfl
      · rw [e]
        exact trivial)
    (g := F0 m pc ls ((Value.int n :: .int dp :: .ref a :: .int sp :: .ref a0 :: st).map (zv b tA))) rfl (by rw [hml]; exact hl.1) (rest := st.map (zv b tA)) rfl (by rw [hb]; exact hd) (by omega) (by show 2 * 0 + _ + _ ≤ _; omega)
  have e1 : copied (vp_cell (dA 11) (n0, .inl (I a0))) (vp_cell (dA 11) (n1, .inl (I a))) sp dp n = vp_cell (dA 11) (n1, .inl (va_cpy (I a0) (I a) sp.toNatClampNeg dp.toNatClampNeg n.toNatClampNeg)) := va_copied (fun z => .int z) (dA 11) (dA 11) (I a0) (I a) h4
  rw [e1] at X' step
  have hl9 : b + a < H.size := (Array.getElem?_eq_some_iff.mp hc1).1
  generalize hce : vp_cell (dA 11) (n1, .inl (va_cpy (I a0) (I a) sp.toNatClampNeg dp.toNatClampNeg n.toNatClampNeg)) = ce9 at X' step
  have hheap : ((T.setVm vm').setCell (b + a) ce9).heap = H.setIfInBounds (b + a) ce9 := by rw [← hT]; rfl
  have oq : ∀ q : Nat, q ≠ b + a → (H.setIfInBounds (b + a) ce9)[q]? = H[q]? := fun q hq => by simp [Array.getElem?_setIfInBounds, Ne.symm hq]
  have hP1 : va_P D vwCl (zW dA b sh (zcpy I a0 sp.toNatClampNeg a dp.toNatClampNeg n.toNatClampNeg) P) (H.setIfInBounds (b + a) ce9) := by
    rw [← zW_set (I := I) (P := P) hsd (fun c hc => by simp [zcpy, hc]) (fun c hc => rfl)]
    refine hP.set zW_D ha1 ?_ oq
    show (H.setIfInBounds (b + a) ce9)[b + a]? = some (vp_cell (dA 11) (n1, .inl (zcpy I a0 sp.toNatClampNeg a dp.toNatClampNeg n.toNatClampNeg a)))
    rw [show zcpy I a0 sp.toNatClampNeg a dp.toNatClampNeg n.toNatClampNeg a = va_cpy (I a0) (I a) sp.toNatClampNeg dp.toNatClampNeg n.toNatClampNeg by simp [zcpy], hce]
    simp [Array.getElem?_setIfInBounds, hl9]
  obtain ⟨t, a1, b1⟩ := kk _ _ ls hP1 (by simp; exact hz) ⟨by simp; exact hS.1, fun q g1 g2 => by
      rw [oq q (fun e => g2 (by rw [e]; exact Nat.le_add_right b a))]
      exact hS.2.1 q g1 g2, fun q hq => by
      rcases List.mem_append.mp hq with h | h
      · exact hS.2.2 q h
      · obtain ⟨z, -, hz⟩ := List.mem_map.mp h
        rw [← hz]
        exact Nat.le_add_right b a⟩ hl _ hheap X'
  exact ⟨t, step t a1, b1⟩
