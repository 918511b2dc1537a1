/-! PURE 59: RUN: the loom's sums, memory, throws -/
def tL (k m : Nat) (x : Int32) (I J : zI) : Prop := J 114 10 = x ∧ J 114 11 = I 114 16 ∧ J 114 12 = nI m ∧ ∀ j, j = 4 ∨ j = 5 ∨ j = 9 ∨ j = 10 → J (93 + 5 * k) j = I (93 + 5 * k) j
theorem tL_s {k m : Nat} {x : Int32} {I H J : zI} (a : sL k I H) (b : tL k m x H J) : tL k m x I J := ⟨b.1, by rw [b.2.1]; exact a.1 16 (by omega), b.2.2.1, fun j q => by rw [b.2.2.2 j q]; exact a.2 j q⟩
theorem SL_aux {I0 I J : zI} {k lim : Nat} {wv n : nuN} {z : nuZ} {fs : List Frm} {P : zP} (h : SL I0 k lim wv fs n z I P) (g : ∀ c j, ¬ (c = 114 ∧ 10 ≤ j) → J c j = I c j) : SL I0 k lim wv fs n z J P := by
  obtain ⟨h1, h2, h3, h4, h5, h6⟩ := h
  have hk := h1.1
  exact ⟨ScL_c h1 (fun c j a => g c j (by unfold rcL at a; omega)), h2, by rw [g _ _ (by omega)]; exact h3, FsL_c h4 (fun c j a => g c j (by omega)) (fun _ _ => rfl), MmL_c h5 (fun c j a => g c j (by omega)), TaL_c h6 (fun c j a => g c j (by omega))⟩
theorem L_throw {I0 I : zI} {k lim m p : Nat} {wv n : nuN} {z : nuZ} {s : List Va} {l : Nat → Va} {fs : List Frm} {P : zP} {K : zI → zP → Prop} {x : Int32} (h : SL I0 k lim wv ((m, p, s, l) :: fs) n z I P) (hn : I0 (20 + 12 * m) 0 = nI m) (kk : ∀ J, SL I0 k lim wv ((m, p, s, l) :: fs) n z J P → tL k m x I J → K J P) : w_X2_throwAt (119 + 3 * fs.length) x I P K := by
  obtain ⟨e, hf, hm, hp⟩ := L_pl h
  have hk := h.1.1
  have h2 := h.2.2.2.1.1.2.1
  dsimp only at h2
  have y0 : I (20 + 12 * m) 0 = nI m := by rw [h.1.2.2.2.2.1 _ _ (by unfold rcL; omega)]; exact hn
  unfold w_X2_throwAt
  refine ⟨shF hf, _, h2, shM hm, ?_⟩
  rw [zu_nc (a := 20 + 12 * m) (by omega), zu_nc (a := 20 + 12 * m) (by omega), y0]
  refine kk _ (SL_aux h (fun c j a => ?_)) ⟨?_, ?_, zu_same, fun j q => ?_⟩
  · rw [zu_ne (by omega), zu_ne (by omega), zu_ne (by omega)]
  · rw [zu_nj (by omega), zu_nj (by omega), zu_same]
  · rw [zu_nj (by omega), zu_same]
  · rw [zu_nc (by omega), zu_nc (by omega), zu_nc (by omega)]
def ari (c : Nat) (i j : Int32) : Int32 := if c = 9 then i + j else if c = 10 then i - j else if c = 11 then i * j else if c = 12 then i / j else if c = 13 then i - i / j * j else if c = 14 then i &&& j else if c = 15 then i ||| j else if c = 16 then i ^^^ j else if c = 17 then i <<< ((j &&& 31) &&& 31) else i >>> ((j &&& 31) &&& 31)
theorem Lo_neg {I0 I : zI} {k lim m p : Nat} {wv n : nuN} {z : nuZ} {r : List Va} {l : Nat → Va} {fs : List Frm} {P : zP} {K : zI → zP → Prop} {j : Int32} (h : SL I0 k lim wv ((m, p, Sum.inl j :: r, l) :: fs) n z I P) (kk : ∀ J, SL I0 k lim wv ((m, p, Sum.inl (-j) :: r, l) :: fs) n z J P → sL k I J → K J P) : w_X2_doSum (119 + 3 * fs.length) (nI 19) I P K := by
  obtain ⟨e, hf, hm, hp⟩ := L_pl h
  have hk := h.1.1
  have hlen := h.2.2.2.1.1.2.2.2.2.2.2.1
  dsimp only at hlen
  rw [List.length_cons] at hlen
  unfold w_X2_doSum
  exact ⟨shF hf, L_pop h (fun J hJ g => zip (by decide) (L_push hJ (by omega) rfl (fun J2 hJ2 g2 => kk J2 hJ2 (sL_t (sL_f hk g) (sL_f hk g2)))))⟩
theorem Lo_sum {I0 I : zI} {k lim m p c : Nat} {wv n : nuN} {z : nuZ} {r : List Va} {l : Nat → Va} {fs : List Frm} {P : zP} {K : zI → zP → Prop} {i j : Int32} (h : SL I0 k lim wv ((m, p, Sum.inl j :: Sum.inl i :: r, l) :: fs) n z I P) (hn : I0 (20 + 12 * m) 0 = nI m) (hc : 9 ≤ c ∧ c ≤ 18) (kk : ¬ ((c = 12 ∨ c = 13) ∧ j = 0) → ∀ J, SL I0 k lim wv ((m, p, Sum.inl (ari c i j) :: r, l) :: fs) n z J P → sL k I J → K J P) (kt : (c = 12 ∨ c = 13) ∧ j = 0 → ∀ J, SL I0 k lim wv ((m, p, r, l) :: fs) n z J P → tL k m (nI 101) I J → K J P) : w_X2_doSum (119 + 3 * fs.length) (nI c) I P K := by
  obtain ⟨e, hf, hm, hp⟩ := L_pl h
  have hk := h.1.1
  have hlen := h.2.2.2.1.1.2.2.2.2.2.2.1
  dsimp only at hlen
  rw [List.length_cons, List.length_cons] at hlen
  unfold w_X2_doSum
  refine ⟨shF hf, L_pop h (fun J hJ g => zin (by first | omega | decide | (simp (maxSteps := 400000) (disch := omega) only [q_lit, q_neg, nI_ltI, nI_leI, nI_eq, nI_add, pk_mul, pk_sub, nI_clamp, vp_q, zu_same, zu_nc, zu_nj, ng_lt, ng_le, ng_gt, ng_ge, ng_eq, ng_qe, ng_ee, ng_add, not_false_eq_true, not_true_eq_false, ne_eq]; done) | (simp (maxSteps := 400000) (disch := omega) only [q_lit, q_neg, nI_ltI, nI_leI, nI_eq, nI_add, pk_mul, pk_sub, nI_clamp, vp_q, zu_same, zu_nc, zu_nj, ng_lt, ng_le, ng_gt, ng_ge, ng_eq, ng_qe, ng_ee, ng_add, not_false_eq_true, not_true_eq_false, ne_eq]; omega)) (L_pop hJ (fun J2 hJ2 g2 => ?_)))⟩
  have s2 : sL k I J2 := sL_t (sL_f hk g) (sL_f hk g2)
  have psh : ∀ x : Int32, x = ari c i j → ¬ ((c = 12 ∨ c = 13) ∧ j = 0) → w_X0_push (119 + 3 * fs.length) x J2 P (fun I8 P8 => K I8 P8) := fun x hx no => L_push (v := Sum.inl x) hJ2 (by omega) rfl (fun J3 hJ3 g3 => kk no J3 (by rw [← hx]; exact hJ3) (sL_t s2 (sL_f hk g3)))
  show (if nI c = 12 then j_X2_doSum_50 K (119 + 3 * fs.length) (nI c) j i J2 P else if nI c = 13 then j_X2_doSum_50 K (119 + 3 * fs.length) (nI c) j i J2 P else w_X2_sum (nI c) i j J2 P (fun v7 I7 P7 => w_X0_push (119 + 3 * fs.length) v7 I7 P7 (fun I8 P8 => K I8 P8)))
  unfold j_X2_doSum_50 w_X2_sum
  rcases (by omega : c = 9 ∨ c = 10 ∨ c = 11 ∨ c = 12 ∨ c = 13 ∨ c = 14 ∨ c = 15 ∨ c = 16 ∨ c = 17 ∨ c = 18) with rfl | rfl | rfl | rfl | rfl | rfl | rfl | rfl | rfl | rfl
  · exact zin (by decide) (zin (by decide) (zip (by decide) (psh _ rfl (by omega))))
  · exact zin (by decide) (zin (by decide) (zin (by decide) (zip (by decide) (psh _ rfl (by omega)))))
  · exact zin (by decide) (zin (by decide) (zin (by decide) (zin (by decide) (zip (by decide) (psh _ rfl (by omega))))))
  · refine zip (by decide) ?_
    by_cases ej : j = 0
    · exact zip ej (L_throw hJ2 hn (fun J3 hJ3 t => kt ⟨Or.inl rfl, ej⟩ J3 hJ3 (tL_s s2 t)))
    · exact zin ej (zip (by decide) ⟨ej, shF hf, psh _ rfl (fun q => ej q.2)⟩)
  · refine zin (by decide) (zip (by decide) ?_)
    by_cases ej : j = 0
    · exact zip ej (L_throw hJ2 hn (fun J3 hJ3 t => kt ⟨Or.inr rfl, ej⟩ J3 hJ3 (tL_s s2 t)))
    · exact zin ej (zin (by decide) ⟨ej, shF hf, psh _ rfl (fun q => ej q.2)⟩)
  · exact zin (by decide) (zin (by decide) (zin (by decide) (zin (by decide) (zin (by decide) (zin (by decide) (zin (by decide) (zip (by decide) (psh _ rfl (by omega)))))))))
  · exact zin (by decide) (zin (by decide) (zin (by decide) (zin (by decide) (zin (by decide) (zin (by decide) (zin (by decide) (zin (by decide) (zip (by decide) (psh _ rfl (by omega))))))))))
  · exact zin (by decide) (zin (by decide) (zin (by decide) (zin (by decide) (zin (by decide) (zin (by decide) (zin (by decide) (zin (by decide) (zin (by decide) (zip (by decide) (psh _ rfl (by omega)))))))))))
  · exact zin (by decide) (zin (by decide) (zin (by decide) (zin (by decide) (zin (by decide) (zin (by decide) (zin (by decide) (zin (by decide) (zin (by decide) (zin (by decide) (zip (by decide) (psh _ rfl (by omega))))))))))))
  · exact zin (by decide) (zin (by decide) (zin (by decide) (zin (by decide) (zin (by decide) (zin (by decide) (zin (by decide) (zin (by decide) (zin (by decide) (zin (by decide) (zin (by decide) (zip (by decide) (psh _ rfl (by omega)))))))))))))
theorem SL_nz {I0 I J : zI} {k lim : Nat} {wv n n' : nuN} {z z' : nuZ} {fs : List Frm} {P : zP} (h : SL I0 k lim wv fs n z I P) (g : ∀ c j, ¬ (116 ≤ c ∧ c ≤ 118) → ¬ (93 + 5 * k ≤ c ∧ c ≤ 97 + 5 * k) → J c j = I c j) (hm : MmL n' z' J) (ht : TaL k n' z' J) : SL I0 k lim wv fs n' z' J P := by
  obtain ⟨h1, h2, h3, h4, h5, h6⟩ := h
  have hk := h1.1
  exact ⟨ScL_c h1 (fun c j a => g c j (by unfold rcL at a; omega) (by unfold rcL at a; omega)), h2, by rw [g _ _ (by omega) (by omega)]; exact h3, FsL_c h4 (fun c j a => g c j (by omega) (by omega)) (fun _ _ => rfl), hm, ht⟩
theorem TaL_z {k : Nat} {n : nuN} {z z' : nuZ} {I : zI} (h : TaL k n z I) (g : ∀ c j, 2 ≤ c → z' c j = z c j) : TaL k n z' I := by
  obtain ⟨h1, h2, h3, h4, h5, h6, h7, h8, h9, h10, h11⟩ := h
  exact ⟨h1, h2, h3, h4, h5, h6, h7, h8, h9, fun i hi => by rw [g _ _ (by omega)]; exact h10 i hi, fun i hi h => by rw [g _ _ (by omega), g _ _ (by omega)]; exact h11 i hi h⟩
theorem L_field {I0 I : zI} {k lim b : Nat} {wv n : nuN} {z : nuZ} {fs : List Frm} {P : zP} {x : Int32} (hb : b < 8) (h : SL I0 k lim wv fs n z I P) : SL I0 k lim wv fs n (zu z 0 b x) (zu I 116 b x) P := by
  have hk := h.1.1
  refine SL_nz h (fun c j a _ => zu_nc (by omega)) ?_ (TaL_z (TaL_c h.2.2.2.2.2 (fun c j a => zu_nc (by omega))) (fun c j a => zu_nc (by omega)))
  obtain ⟨m0, m1, m2, m3⟩ := h.2.2.2.2.1
  refine ⟨m0, fun f hf => ?_, fun r hr => ⟨(m2 r hr).1, by rw [zu_nc (by omega)]; exact (m2 r hr).2.1, fun i hi => ?_⟩, fun q hq => by rw [zu_nc (by omega)]; exact m3 q hq⟩
  · by_cases e : f = b
    · rw [e, zu_same, zu_same]
    · rw [zu_nj e, zu_nj e]; exact m1 f hf
  · rw [zu_nj (by omega), zu_nc (by omega)]; exact (m2 r hr).2.2 i hi
theorem L_item {I0 I : zI} {k lim r i : Nat} {wv n : nuN} {z : nuZ} {fs : List Frm} {P : zP} {x : Int32} (hr : r < n 2) (hi : i < n (10 + r)) (h : SL I0 k lim wv fs n z I P) : SL I0 k lim wv fs n (zu z 1 (50 * r + i) x) (zu I 116 (8 + 50 * r + i) x) P := by
  have hk := h.1.1
  refine SL_nz h (fun c j a _ => zu_nc (by omega)) ?_ (TaL_z (TaL_c h.2.2.2.2.2 (fun c j a => zu_nc (by omega))) (fun c j a => zu_nc (by omega)))
  obtain ⟨m0, m1, m2, m3⟩ := h.2.2.2.2.1
  have s1 := (m2 r hr).1
  refine ⟨m0, fun f hf => by rw [zu_nj (by omega), zu_nc (by omega)]; exact m1 f hf, fun r' hr' => ⟨(m2 r' hr').1, by rw [zu_nc (by omega)]; exact (m2 r' hr').2.1, fun i' hi' => ?_⟩, fun q hq => by rw [zu_nc (by omega)]; exact m3 q hq⟩
  have s2 := (m2 r' hr').1
  by_cases e : 50 * r' + i' = 50 * r + i
  · rw [e, show 8 + 50 * r' + i' = 8 + 50 * r + i by omega, zu_same, zu_same]
  · rw [zu_nj (by omega), zu_nj e]; exact (m2 r' hr').2.2 i' hi'
theorem Lo_get {I0 I : zI} {k lim m p : Nat} {wv n ln : nuN} {cb : Nat → Nat → Nat} {z : nuZ} {s : List Va} {l : Nat → Va} {fs : List Frm} {P : zP} {K : zI → zP → Prop} (h : SL I0 k lim wv ((m, p, s, l) :: fs) n z I P) (hc : CdL I0 wv cb ln m) (hp : p + 1 < ln m) (hb : cb m (p + 1) < 8) (hs : s.length < 10) (kk : ∀ J, SL I0 k lim wv ((m, p, Sum.inl (z 0 (cb m (p + 1))) :: s, l) :: fs) n z J P → sL k I J → K J P) : w_X2_doMemory (119 + 3 * fs.length) (nI 34) I P K := by
  obtain ⟨e, hf, hm, -⟩ := L_pl h
  have hk := h.1.1
  unfold w_X2_doMemory w_X2_fieldCell w_X2_cellInt
  refine zip (by decide) ⟨shF hf, L_oper h hc hp (zin (by first | omega | decide | (simp (maxSteps := 400000) (disch := omega) only [q_lit, q_neg, nI_ltI, nI_leI, nI_eq, nI_add, pk_mul, pk_sub, nI_clamp, vp_q, zu_same, zu_nc, zu_nj, ng_lt, ng_le, ng_gt, ng_ge, ng_eq, ng_qe, ng_ee, ng_add, not_false_eq_true, not_true_eq_false, ne_eq]; done) | (simp (maxSteps := 400000) (disch := omega) only [q_lit, q_neg, nI_ltI, nI_leI, nI_eq, nI_add, pk_mul, pk_sub, nI_clamp, vp_q, zu_same, zu_nc, zu_nj, ng_lt, ng_le, ng_gt, ng_ge, ng_eq, ng_qe, ng_ee, ng_add, not_false_eq_true, not_true_eq_false, ne_eq]; omega)) (zin (by first | omega | decide | (simp (maxSteps := 400000) (disch := omega) only [q_lit, q_neg, nI_ltI, nI_leI, nI_eq, nI_add, pk_mul, pk_sub, nI_clamp, vp_q, zu_same, zu_nc, zu_nj, ng_lt, ng_le, ng_gt, ng_ge, ng_eq, ng_qe, ng_ee, ng_add, not_false_eq_true, not_true_eq_false, ne_eq]; done) | (simp (maxSteps := 400000) (disch := omega) only [q_lit, q_neg, nI_ltI, nI_leI, nI_eq, nI_add, pk_mul, pk_sub, nI_clamp, vp_q, zu_same, zu_nc, zu_nj, ng_lt, ng_le, ng_gt, ng_ge, ng_eq, ng_qe, ng_ee, ng_add, not_false_eq_true, not_true_eq_false, ne_eq]; omega)) (zin (by first | omega | decide | (simp (maxSteps := 400000) (disch := omega) only [q_lit, q_neg, nI_ltI, nI_leI, nI_eq, nI_add, pk_mul, pk_sub, nI_clamp, vp_q, zu_same, zu_nc, zu_nj, ng_lt, ng_le, ng_gt, ng_ge, ng_eq, ng_qe, ng_ee, ng_add, not_false_eq_true, not_true_eq_false, ne_eq]; done) | (simp (maxSteps := 400000) (disch := omega) only [q_lit, q_neg, nI_ltI, nI_leI, nI_eq, nI_add, pk_mul, pk_sub, nI_clamp, vp_q, zu_same, zu_nc, zu_nj, ng_lt, ng_le, ng_gt, ng_ge, ng_eq, ng_qe, ng_ee, ng_add, not_false_eq_true, not_true_eq_false, ne_eq]; omega)) (zin (by first | omega | decide | (simp (maxSteps := 400000) (disch := omega) only [q_lit, q_neg, nI_ltI, nI_leI, nI_eq, nI_add, pk_mul, pk_sub, nI_clamp, vp_q, zu_same, zu_nc, zu_nj, ng_lt, ng_le, ng_gt, ng_ge, ng_eq, ng_qe, ng_ee, ng_add, not_false_eq_true, not_true_eq_false, ne_eq]; done) | (simp (maxSteps := 400000) (disch := omega) only [q_lit, q_neg, nI_ltI, nI_leI, nI_eq, nI_add, pk_mul, pk_sub, nI_clamp, vp_q, zu_same, zu_nc, zu_nj, ng_lt, ng_le, ng_gt, ng_ge, ng_eq, ng_qe, ng_ee, ng_add, not_false_eq_true, not_true_eq_false, ne_eq]; omega)) ⟨vp_in_nI (by omega) (by decide), ?_⟩))))⟩
  rw [nI_clamp (by omega), h.2.2.2.2.1.2.1 _ hb]
  exact L_push (v := Sum.inl (z 0 (cb m (p + 1)))) h hs rfl (fun J hJ g => kk J hJ (sL_f hk g))
theorem Lo_put {I0 I : zI} {k lim m p : Nat} {wv n ln : nuN} {cb : Nat → Nat → Nat} {z : nuZ} {s : List Va} {l : Nat → Va} {fs : List Frm} {P : zP} {K : zI → zP → Prop} {x : Int32} (h : SL I0 k lim wv ((m, p, Sum.inl x :: s, l) :: fs) n z I P) (hc : CdL I0 wv cb ln m) (hp : p + 1 < ln m) (hb : cb m (p + 1) < 8) (kk : ∀ J, SL I0 k lim wv ((m, p, s, l) :: fs) n (zu z 0 (cb m (p + 1)) x) J P → sL k I J → K J P) : w_X2_doMemory (119 + 3 * fs.length) (nI 35) I P K := by
  obtain ⟨e, hf, hm, -⟩ := L_pl h
  have hk := h.1.1
  unfold w_X2_doMemory w_X2_fieldCell w_X2_setCell
  refine zin (by decide) (zip (by decide) ⟨shF hf, L_oper h hc hp (zin (by first | omega | decide | (simp (maxSteps := 400000) (disch := omega) only [q_lit, q_neg, nI_ltI, nI_leI, nI_eq, nI_add, pk_mul, pk_sub, nI_clamp, vp_q, zu_same, zu_nc, zu_nj, ng_lt, ng_le, ng_gt, ng_ge, ng_eq, ng_qe, ng_ee, ng_add, not_false_eq_true, not_true_eq_false, ne_eq]; done) | (simp (maxSteps := 400000) (disch := omega) only [q_lit, q_neg, nI_ltI, nI_leI, nI_eq, nI_add, pk_mul, pk_sub, nI_clamp, vp_q, zu_same, zu_nc, zu_nj, ng_lt, ng_le, ng_gt, ng_ge, ng_eq, ng_qe, ng_ee, ng_add, not_false_eq_true, not_true_eq_false, ne_eq]; omega)) (zin (by first | omega | decide | (simp (maxSteps := 400000) (disch := omega) only [q_lit, q_neg, nI_ltI, nI_leI, nI_eq, nI_add, pk_mul, pk_sub, nI_clamp, vp_q, zu_same, zu_nc, zu_nj, ng_lt, ng_le, ng_gt, ng_ge, ng_eq, ng_qe, ng_ee, ng_add, not_false_eq_true, not_true_eq_false, ne_eq]; done) | (simp (maxSteps := 400000) (disch := omega) only [q_lit, q_neg, nI_ltI, nI_leI, nI_eq, nI_add, pk_mul, pk_sub, nI_clamp, vp_q, zu_same, zu_nc, zu_nj, ng_lt, ng_le, ng_gt, ng_ge, ng_eq, ng_qe, ng_ee, ng_add, not_false_eq_true, not_true_eq_false, ne_eq]; omega)) (L_pop h (fun J hJ g => zin (by first | omega | decide | (simp (maxSteps := 400000) (disch := omega) only [q_lit, q_neg, nI_ltI, nI_leI, nI_eq, nI_add, pk_mul, pk_sub, nI_clamp, vp_q, zu_same, zu_nc, zu_nj, ng_lt, ng_le, ng_gt, ng_ge, ng_eq, ng_qe, ng_ee, ng_add, not_false_eq_true, not_true_eq_false, ne_eq]; done) | (simp (maxSteps := 400000) (disch := omega) only [q_lit, q_neg, nI_ltI, nI_leI, nI_eq, nI_add, pk_mul, pk_sub, nI_clamp, vp_q, zu_same, zu_nc, zu_nj, ng_lt, ng_le, ng_gt, ng_ge, ng_eq, ng_qe, ng_ee, ng_add, not_false_eq_true, not_true_eq_false, ne_eq]; omega)) (zin (by first | omega | decide | (simp (maxSteps := 400000) (disch := omega) only [q_lit, q_neg, nI_ltI, nI_leI, nI_eq, nI_add, pk_mul, pk_sub, nI_clamp, vp_q, zu_same, zu_nc, zu_nj, ng_lt, ng_le, ng_gt, ng_ge, ng_eq, ng_qe, ng_ee, ng_add, not_false_eq_true, not_true_eq_false, ne_eq]; done) | (simp (maxSteps := 400000) (disch := omega) only [q_lit, q_neg, nI_ltI, nI_leI, nI_eq, nI_add, pk_mul, pk_sub, nI_clamp, vp_q, zu_same, zu_nc, zu_nj, ng_lt, ng_le, ng_gt, ng_ge, ng_eq, ng_qe, ng_ee, ng_add, not_false_eq_true, not_true_eq_false, ne_eq]; omega)) ⟨vp_in_nI (by omega) (by decide), ?_⟩)))))⟩)
  rw [nI_clamp (by omega)]
  exact kk _ (L_field hb hJ) (sL_t (sL_f hk g) ⟨fun j _ => zu_nc (by omega), fun j _ => zu_nc (by omega)⟩)
theorem L_rowc {I0 I : zI} {k lim r : Nat} {wv n : nuN} {z : nuZ} {fs : List Frm} {P : zP} {K : Int32 → zI → zP → Prop} {x : Int32} (h : SL I0 k lim wv fs n z I P) (hr : r < n 2) (k1 : ∀ i, x = nI i → i < n (10 + r) → K (nI (8 + 50 * r + i)) I P) (k0 : (∀ i, i < n (10 + r) → x ≠ nI i) → K (-1) I P) : w_X2_rowCell (nI r) x I P K := by
  obtain ⟨m0, m1, m2, m3⟩ := h.2.2.2.2.1
  have hk := h.1.1
  have h7 := h.2.2.2.2.2.2.2.2.2.2.1
  have s1 := m2 r hr
  unfold w_X2_rowCell
  rw [nI_clamp (by omega), s1.2.1]
  refine zin (by first | omega | decide | (simp (maxSteps := 400000) (disch := omega) only [q_lit, q_neg, nI_ltI, nI_leI, nI_eq, nI_add, pk_mul, pk_sub, nI_clamp, vp_q, zu_same, zu_nc, zu_nj, ng_lt, ng_le, ng_gt, ng_ge, ng_eq, ng_qe, ng_ee, ng_add, not_false_eq_true, not_true_eq_false, ne_eq]; done) | (simp (maxSteps := 400000) (disch := omega) only [q_lit, q_neg, nI_ltI, nI_leI, nI_eq, nI_add, pk_mul, pk_sub, nI_clamp, vp_q, zu_same, zu_nc, zu_nj, ng_lt, ng_le, ng_gt, ng_ge, ng_eq, ng_qe, ng_ee, ng_add, not_false_eq_true, not_true_eq_false, ne_eq]; omega)) ⟨_, h.1.2.2.2.1, shT hk, zin (by rw [h7]; first | omega | decide | (simp (maxSteps := 400000) (disch := omega) only [q_lit, q_neg, nI_ltI, nI_leI, nI_eq, nI_add, pk_mul, pk_sub, nI_clamp, vp_q, zu_same, zu_nc, zu_nj, ng_lt, ng_le, ng_gt, ng_ge, ng_eq, ng_qe, ng_ee, ng_add, not_false_eq_true, not_true_eq_false, ne_eq]; done) | (simp (maxSteps := 400000) (disch := omega) only [q_lit, q_neg, nI_ltI, nI_leI, nI_eq, nI_add, pk_mul, pk_sub, nI_clamp, vp_q, zu_same, zu_nc, zu_nj, ng_lt, ng_le, ng_gt, ng_ge, ng_eq, ng_qe, ng_ee, ng_add, not_false_eq_true, not_true_eq_false, ne_eq]; omega)) (zin (by first | omega | decide | (simp (maxSteps := 400000) (disch := omega) only [q_lit, q_neg, nI_ltI, nI_leI, nI_eq, nI_add, pk_mul, pk_sub, nI_clamp, vp_q, zu_same, zu_nc, zu_nj, ng_lt, ng_le, ng_gt, ng_ge, ng_eq, ng_qe, ng_ee, ng_add, not_false_eq_true, not_true_eq_false, ne_eq]; done) | (simp (maxSteps := 400000) (disch := omega) only [q_lit, q_neg, nI_ltI, nI_leI, nI_eq, nI_add, pk_mul, pk_sub, nI_clamp, vp_q, zu_same, zu_nc, zu_nj, ng_lt, ng_le, ng_gt, ng_ge, ng_eq, ng_qe, ng_ee, ng_add, not_false_eq_true, not_true_eq_false, ne_eq]; omega)) ?_)⟩
  rcases ix_cases x (n := n (10 + r)) (by omega) with ⟨j, hj, ej⟩ | hno
  · rw [ej]
    refine zin (by first | omega | decide | (simp (maxSteps := 400000) (disch := omega) only [q_lit, q_neg, nI_ltI, nI_leI, nI_eq, nI_add, pk_mul, pk_sub, nI_clamp, vp_q, zu_same, zu_nc, zu_nj, ng_lt, ng_le, ng_gt, ng_ge, ng_eq, ng_qe, ng_ee, ng_add, not_false_eq_true, not_true_eq_false, ne_eq]; done) | (simp (maxSteps := 400000) (disch := omega) only [q_lit, q_neg, nI_ltI, nI_leI, nI_eq, nI_add, pk_mul, pk_sub, nI_clamp, vp_q, zu_same, zu_nc, zu_nj, ng_lt, ng_le, ng_gt, ng_ge, ng_eq, ng_qe, ng_ee, ng_add, not_false_eq_true, not_true_eq_false, ne_eq]; omega)) ⟨vp_in_nI (by omega) (by decide), zip (by first | omega | decide | (simp (maxSteps := 400000) (disch := omega) only [q_lit, q_neg, nI_ltI, nI_leI, nI_eq, nI_add, pk_mul, pk_sub, nI_clamp, vp_q, zu_same, zu_nc, zu_nj, ng_lt, ng_le, ng_gt, ng_ge, ng_eq, ng_qe, ng_ee, ng_add, not_false_eq_true, not_true_eq_false, ne_eq]; done) | (simp (maxSteps := 400000) (disch := omega) only [q_lit, q_neg, nI_ltI, nI_leI, nI_eq, nI_add, pk_mul, pk_sub, nI_clamp, vp_q, zu_same, zu_nc, zu_nj, ng_lt, ng_le, ng_gt, ng_ge, ng_eq, ng_qe, ng_ee, ng_add, not_false_eq_true, not_true_eq_false, ne_eq]; omega)) ?_⟩
    have e1 : (8 : Int32) + nI r * 50 + nI j = nI (8 + 50 * r + j) := by rw [show (8 : Int32) = nI 8 from rfl, show (50 : Int32) = nI 50 from rfl, pk_mul, nI_add, nI_add]; congr 1; omega
    rw [e1]; exact k1 j ej hj
  · have kz : K (-1) I P := k0 (fun i hi e => by
      subst e
      rcases hno with q | q
      · rw [show (0 : Int32) = nI 0 from rfl, nI_ltI (by omega) (by omega)] at q; omega
      · rw [nI_leI (by omega) (by omega)] at q; omega)
    by_cases q : x < 0
    · exact zip q kz
    · refine zin q ⟨vp_in_nI (by omega) (by decide), zin (fun q2 => ?_) kz⟩
      have q3 := hno.resolve_left q
      rw [Int32.lt_iff_toInt_lt] at q2
      rw [Int32.le_iff_toInt_le] at q3
      omega
