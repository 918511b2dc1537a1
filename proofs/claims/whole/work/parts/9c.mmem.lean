/-! PURE 62: RUN: the reference's sums, memory, ROWS, MARKS, throws -/
theorem SM_aux {I0 I J : zI} {k lim : Nat} {n : nuN} {z : nuZ} {fs : List Frm} (h : SM I0 k lim fs n z I) (g : ∀ c j, ¬ (c = 155 ∧ (j = 52 ∨ (64 ≤ j ∧ j ≤ 68))) → ¬ (205 ≤ c ∧ c ≤ 207) → J c j = I c j) : SM I0 k lim fs n z J := by
  obtain ⟨h1, h2, h3, h4, h5, h6⟩ := h
  exact ⟨ScM_c h1 (fun c j a => g c j (by unfold rcM at a; omega) (by unfold rcM at a; omega)), h2, by rw [g _ _ (by omega) (by omega)]; exact h3, FsM_c h4 (fun f c j hf a => g c j (by unfold blkF at a; omega) (by unfold blkF at a; omega)), MmM_c h5 (fun c j a => g c j (by omega) (by omega)), TaM_c h6 (fun c j a => g c j (by omega) (by omega))⟩
theorem SM_nz {I0 I J : zI} {k lim : Nat} {n n' : nuN} {z z' : nuZ} {fs : List Frm} (h : SM I0 k lim fs n z I) (g : ∀ c j, ¬ (c = 155 ∧ (j = 53 ∨ j = 55 ∨ j = 63)) → ¬ (201 ≤ c ∧ c ≤ 204) → ¬ (208 ≤ c ∧ c ≤ 220) → J c j = I c j) (hm : MmM n' z' J) (ht : TaM I0 k n' z' J) : SM I0 k lim fs n' z' J := by
  obtain ⟨h1, h2, h3, h4, h5, h6⟩ := h
  exact ⟨ScM_c h1 (fun c j a => g c j (by unfold rcM at a; omega) (by unfold rcM at a; omega) (by unfold rcM at a; omega)), h2, by rw [g _ _ (by omega) (by omega) (by omega)]; exact h3, FsM_c h4 (fun f c j hf a => g c j (by unfold blkF at a; omega) (by unfold blkF at a; omega) (by unfold blkF at a; omega)), hm, ht⟩
theorem TaM_z {I0 I : zI} {k : Nat} {n : nuN} {z z' : nuZ} (h : TaM I0 k n z I) (g : ∀ c j, 2 ≤ c → z' c j = z c j) : TaM I0 k n z' I := by
  obtain ⟨h1, h2, h3, h4, h5, h6, h7, h8, h9, h10, h11⟩ := h
  exact ⟨h1, h2, h3, h4, h5, h6, h7, h8, fun i hi => by rw [g _ _ (by omega)]; exact h9 i hi, fun i hi h => by rw [g _ _ (by omega), g _ _ (by omega)]; exact h10 i hi h, h11⟩
theorem tM_z {I : zI} {x : Int32} : tM x I (zu I 155 65 x) := ⟨zu_same, fun j q => zu_nj (by omega), fun c j q => zu_nc (by omega)⟩
theorem tM_s {x : Int32} {I H J : zI} (a : sM I H) (b : tM x H J) : tM x I J := ⟨b.1, fun j q => by rw [b.2.1 j q]; exact a.1 j (by omega), fun c j q => by rw [b.2.2 c j q]; exact a.2 c j q⟩
theorem M_thr {I0 I : zI} {k lim : Nat} {n : nuN} {z : nuZ} {fs : List Frm} {x : Int32} (h : SM I0 k lim fs n z I) : SM I0 k lim fs n z (zu I 155 65 x) := SM_aux h (fun c j a b => zu_ne (by omega))
theorem Mo_neg {I0 I : zI} {k lim m p : Nat} {wv n ln : nuN} {cb : Nat → Nat → Nat} {z : nuZ} {r : List Va} {l : Nat → Va} {fs : List Frm} {P : zP} {K : zI → zP → Prop} {j : Int32} (h : SM I0 k lim ((m, p, Sum.inl j :: r, l) :: fs) n z I) (hc : CdM I0 k wv cb ln m) (hp : p < ln m) (kk : ∀ J, SM I0 k lim ((m, p, Sum.inl (-j) :: r, l) :: fs) n z J → sM I J → K J P) : w_X10_plain (nI m) (nI p) (nI 19) I P K := by
  obtain ⟨hf, hm, hp2, hlen⟩ := M_pl h
  rw [List.length_cons] at hlen
  refine M_pre h hc (by exact hp) (by decide) (by decide) ?_
  unfold j_X10_plain_47
  repeat (first | (refine zip (by decide) ?_) | (refine zin (by decide) ?_))
  exact M_take h (fun J hJ g => M_give (v := Sum.inl (-j)) hJ (by omega) rfl (fun J2 hJ2 g2 => kk J2 hJ2 (sM_t (sM_f g) (sM_f g2))))
theorem M_oth {I0 I : zI} {k lim m p c : Nat} {wv n ln : nuN} {cb : Nat → Nat → Nat} {z : nuZ} {s : List Va} {l : Nat → Va} {fs : List Frm} {P : zP} {K : zI → zP → Prop} (h : SM I0 k lim ((m, p, s, l) :: fs) n z I) (hc : CdM I0 k wv cb ln m) (hp : p < ln m) (ho : (9 ≤ c ∧ c ≤ 18) ∨ (36 ≤ c ∧ c ≤ 39) ∨ c = 41) (kk : w_X10_other (nI c) I P (fun J Q => K J Q)) : w_X10_plain (nI m) (nI p) (nI c) I P K := by
  rcases (by omega : c = 9 ∨ c = 10 ∨ c = 11 ∨ c = 12 ∨ c = 13 ∨ c = 14 ∨ c = 15 ∨ c = 16 ∨ c = 17 ∨ c = 18 ∨ c = 36 ∨ c = 37 ∨ c = 38 ∨ c = 39 ∨ c = 41) with rfl | rfl | rfl | rfl | rfl | rfl | rfl | rfl | rfl | rfl | rfl | rfl | rfl | rfl | rfl
  all_goals
    refine M_pre h hc (by exact hp) (by decide) (by decide) ?_
    unfold j_X10_plain_47
    repeat (first | (refine zip (by decide) ?_) | (refine zin (by decide) ?_))
    exact kk
theorem Mo_sum {I0 I : zI} {k lim m p c : Nat} {wv n ln : nuN} {cb : Nat → Nat → Nat} {z : nuZ} {r : List Va} {l : Nat → Va} {fs : List Frm} {P : zP} {K : zI → zP → Prop} {i j : Int32} (h : SM I0 k lim ((m, p, Sum.inl j :: Sum.inl i :: r, l) :: fs) n z I) (hc : CdM I0 k wv cb ln m) (hp : p < ln m) (ho : 9 ≤ c ∧ c ≤ 18) (kk : ¬ ((c = 12 ∨ c = 13) ∧ j = 0) → ∀ J, SM I0 k lim ((m, p, Sum.inl (ari c i j) :: r, l) :: fs) n z J → sM I J → K J P) (kt : (c = 12 ∨ c = 13) ∧ j = 0 → ∀ J, SM I0 k lim ((m, p, Sum.inl j :: Sum.inl i :: r, l) :: fs) n z J → tM (nI 101) I J → K J P) : w_X10_plain (nI m) (nI p) (nI c) I P K := by
  refine M_oth h hc hp (Or.inl ho) ?_
  unfold w_X10_other
  refine s_inT ⟨by first | omega | decide | (simp (maxSteps := 400000) (disch := omega) only [q_lit, q_neg, nI_ltI, nI_leI, nI_eq, nI_add, pk_mul, pk_sub, nI_clamp, vp_q, zu_same, zu_nc, zu_nj, ng_lt, ng_le, ng_gt, ng_ge, ng_eq, ng_qe, ng_ee, ng_add, not_false_eq_true, not_true_eq_false, ne_eq]; done) | (simp (maxSteps := 400000) (disch := omega) only [q_lit, q_neg, nI_ltI, nI_leI, nI_eq, nI_add, pk_mul, pk_sub, nI_clamp, vp_q, zu_same, zu_nc, zu_nj, ng_lt, ng_le, ng_gt, ng_ge, ng_eq, ng_qe, ng_ee, ng_add, not_false_eq_true, not_true_eq_false, ne_eq]; omega), by first | omega | decide | (simp (maxSteps := 400000) (disch := omega) only [q_lit, q_neg, nI_ltI, nI_leI, nI_eq, nI_add, pk_mul, pk_sub, nI_clamp, vp_q, zu_same, zu_nc, zu_nj, ng_lt, ng_le, ng_gt, ng_ge, ng_eq, ng_qe, ng_ee, ng_add, not_false_eq_true, not_true_eq_false, ne_eq]; done) | (simp (maxSteps := 400000) (disch := omega) only [q_lit, q_neg, nI_ltI, nI_leI, nI_eq, nI_add, pk_mul, pk_sub, nI_clamp, vp_q, zu_same, zu_nc, zu_nj, ng_lt, ng_le, ng_gt, ng_ge, ng_eq, ng_qe, ng_ee, ng_add, not_false_eq_true, not_true_eq_false, ne_eq]; omega)⟩ (zin (by decide) ?_)
  unfold w_X10_work
  refine M_top (i := 0) h rfl (M_top (i := 1) h rfl ?_)
  simp only [mv_i]
  have psh : ∀ x : Int32, x = ari c i j → ¬ ((c = 12 ∨ c = 13) ∧ j = 0) → ∀ J, SM I0 k lim ((m, p, Sum.inl i :: r, l) :: fs) n z J → sM I J → w_X10_setTop x J P (fun I3 P3 => K I3 P3) := fun x hx no J hJ g => M_setTop (w := Sum.inl x) hJ rfl (fun J3 hJ3 g3 => kk no J3 (by rw [← hx]; exact hJ3) (sM_t g (sM_f g3)))
  have go : ¬ ((c = 12 ∨ c = 13) ∧ j = 0) → j_X10_work_34 (fun I34 P34 => K I34 P34) (nI c) j i I P := fun no => by
    unfold j_X10_work_34
    refine M_take h (fun J hJ g => ?_)
    have sJ := sM_f g
    rcases (by omega : c = 9 ∨ c = 10 ∨ c = 11 ∨ c = 12 ∨ c = 13 ∨ c = 14 ∨ c = 15 ∨ c = 16 ∨ c = 17 ∨ c = 18) with rfl | rfl | rfl | rfl | rfl | rfl | rfl | rfl | rfl | rfl
    · exact zip (by decide) (psh _ rfl no J hJ sJ)
    · exact zin (by decide) (zip (by decide) (psh _ rfl no J hJ sJ))
    · exact zin (by decide) (zin (by decide) (zip (by decide) (psh _ rfl no J hJ sJ)))
    · exact zin (by decide) (zin (by decide) (zin (by decide) (zip (by decide) ⟨fun q => no ⟨Or.inl rfl, q⟩, psh _ rfl no J hJ sJ⟩)))
    · exact zin (by decide) (zin (by decide) (zin (by decide) (zin (by decide) (zip (by decide) ⟨fun q => no ⟨Or.inr rfl, q⟩, psh _ rfl no J hJ sJ⟩))))
    · exact zin (by decide) (zin (by decide) (zin (by decide) (zin (by decide) (zin (by decide) (zip (by decide) (psh _ rfl no J hJ sJ))))))
    · exact zin (by decide) (zin (by decide) (zin (by decide) (zin (by decide) (zin (by decide) (zin (by decide) (zip (by decide) (psh _ rfl no J hJ sJ)))))))
    · exact zin (by decide) (zin (by decide) (zin (by decide) (zin (by decide) (zin (by decide) (zin (by decide) (zin (by decide) (zip (by decide) (psh _ rfl no J hJ sJ))))))))
    · exact zin (by decide) (zin (by decide) (zin (by decide) (zin (by decide) (zin (by decide) (zin (by decide) (zin (by decide) (zin (by decide) (zip (by decide) (psh _ rfl no J hJ sJ)))))))))
    · exact zin (by decide) (zin (by decide) (zin (by decide) (zin (by decide) (zin (by decide) (zin (by decide) (zin (by decide) (zin (by decide) (zin (by decide) (psh _ rfl no J hJ sJ)))))))))
  by_cases q : c = 12 ∨ c = 13
  · refine s_inT ⟨by first | omega | decide | (simp (maxSteps := 400000) (disch := omega) only [q_lit, q_neg, nI_ltI, nI_leI, nI_eq, nI_add, pk_mul, pk_sub, nI_clamp, vp_q, zu_same, zu_nc, zu_nj, ng_lt, ng_le, ng_gt, ng_ge, ng_eq, ng_qe, ng_ee, ng_add, not_false_eq_true, not_true_eq_false, ne_eq]; done) | (simp (maxSteps := 400000) (disch := omega) only [q_lit, q_neg, nI_ltI, nI_leI, nI_eq, nI_add, pk_mul, pk_sub, nI_clamp, vp_q, zu_same, zu_nc, zu_nj, ng_lt, ng_le, ng_gt, ng_ge, ng_eq, ng_qe, ng_ee, ng_add, not_false_eq_true, not_true_eq_false, ne_eq]; omega), by first | omega | decide | (simp (maxSteps := 400000) (disch := omega) only [q_lit, q_neg, nI_ltI, nI_leI, nI_eq, nI_add, pk_mul, pk_sub, nI_clamp, vp_q, zu_same, zu_nc, zu_nj, ng_lt, ng_le, ng_gt, ng_ge, ng_eq, ng_qe, ng_ee, ng_add, not_false_eq_true, not_true_eq_false, ne_eq]; done) | (simp (maxSteps := 400000) (disch := omega) only [q_lit, q_neg, nI_ltI, nI_leI, nI_eq, nI_add, pk_mul, pk_sub, nI_clamp, vp_q, zu_same, zu_nc, zu_nj, ng_lt, ng_le, ng_gt, ng_ge, ng_eq, ng_qe, ng_ee, ng_add, not_false_eq_true, not_true_eq_false, ne_eq]; omega)⟩ (zin (by decide) ?_)
    by_cases ej : j = 0
    · exact zip ej (kt ⟨q, ej⟩ _ (M_thr h) tM_z)
    · exact zin ej (go (fun y => ej y.2))
  · refine s_inF (fun y => q ?_) (zip rfl (go (fun y => q y.1)))
    have z1 : nI 12 ≤ nI c := y.1
    have z2 : nI c ≤ nI 13 := y.2
    rw [nI_leI (by omega) (by omega)] at z1 z2
    omega
theorem Mo_get {I0 I : zI} {k lim m p : Nat} {wv n ln : nuN} {cb : Nat → Nat → Nat} {z : nuZ} {s : List Va} {l : Nat → Va} {fs : List Frm} {P : zP} {K : zI → zP → Prop} (h : SM I0 k lim ((m, p, s, l) :: fs) n z I) (hc : CdM I0 k wv cb ln m) (hp : p + 1 < ln m) (hb : cb m (p + 1) < 8) (hs : s.length < 10) (kk : ∀ J, SM I0 k lim ((m, p, Sum.inl (z 0 (cb m (p + 1))) :: s, l) :: fs) n z J → sM I J → K J P) : w_X10_plain (nI m) (nI p) (nI 34) I P K := by
  refine M_pre h hc (by exact hp) (by decide) (by decide) ?_
  unfold j_X10_plain_47
  repeat (first | (refine zip (by decide) ?_) | (refine zin (by decide) ?_))
  rw [nI_clamp (by show cb m (p + 1) < _; omega)]
  exact ⟨vp_in_nI (by exact hb) (by decide), M_give (v := Sum.inl (z 0 (cb m (p + 1)))) h hs (h.2.2.2.2.1.2.2.1 _ hb) (fun J hJ g => kk J hJ (sM_f g))⟩
theorem M_field {I0 I : zI} {k lim b : Nat} {n : nuN} {z : nuZ} {fs : List Frm} {x : Int32} (hb : b < 8) (h : SM I0 k lim fs n z I) : SM I0 k lim fs n (zu z 0 b x) (zu I 203 b x) := by
  refine SM_nz h (fun c j _ a _ => zu_nc (by omega)) ?_ (TaM_z (TaM_c h.2.2.2.2.2 (fun c j a => zu_nc (by omega))) (fun c j a => zu_nc (by omega)))
  obtain ⟨m0, m0', m1, m2, m3⟩ := h.2.2.2.2.1
  refine ⟨m0, by rw [zu_nc (by omega)]; exact m0', fun f hf => ?_, fun r hr => ⟨(m2 r hr).1, by rw [zu_nc (by omega)]; exact (m2 r hr).2.1, fun i hi => ?_⟩, fun q hq => by rw [zu_nc (by omega)]; exact m3 q hq⟩
  · by_cases e : f = b
    · rw [e, zu_same, zu_same]
    · rw [zu_nj e, zu_nj e]; exact m1 f hf
  · rw [zu_nc (by omega), zu_nc (by omega)]; exact (m2 r hr).2.2 i hi
theorem M_item {I0 I : zI} {k lim r i : Nat} {n : nuN} {z : nuZ} {fs : List Frm} {x : Int32} (hr : r < n 2) (hi : i < n (10 + r)) (h : SM I0 k lim fs n z I) : SM I0 k lim fs n (zu z 1 (50 * r + i) x) (zu I 202 (50 * (r + 1) + i) x) := by
  refine SM_nz h (fun c j _ a _ => zu_nc (by omega)) ?_ (TaM_z (TaM_c h.2.2.2.2.2 (fun c j a => zu_nc (by omega))) (fun c j a => zu_nc (by omega)))
  obtain ⟨m0, m0', m1, m2, m3⟩ := h.2.2.2.2.1
  have s1 := (m2 r hr).1
  refine ⟨m0, by rw [zu_nc (by omega)]; exact m0', fun f hf => by rw [zu_nc (by omega), zu_nc (by omega)]; exact m1 f hf, fun r' hr' => ⟨(m2 r' hr').1, by rw [zu_nc (by omega)]; exact (m2 r' hr').2.1, fun i' hi' => ?_⟩, fun q hq => by rw [zu_nc (by omega)]; exact m3 q hq⟩
  have s2 := (m2 r' hr').1
  by_cases e : 50 * r' + i' = 50 * r + i
  · rw [e, show 50 * (r' + 1) + i' = 50 * (r + 1) + i by omega, zu_same, zu_same]
  · rw [zu_nj (by omega), zu_nj e]; exact (m2 r' hr').2.2 i' hi'
theorem Mo_put {I0 I : zI} {k lim m p : Nat} {wv n ln : nuN} {cb : Nat → Nat → Nat} {z : nuZ} {s : List Va} {l : Nat → Va} {fs : List Frm} {P : zP} {K : zI → zP → Prop} {x : Int32} (h : SM I0 k lim ((m, p, Sum.inl x :: s, l) :: fs) n z I) (hc : CdM I0 k wv cb ln m) (hp : p + 1 < ln m) (hb : cb m (p + 1) < 8) (kk : ∀ J, SM I0 k lim ((m, p, s, l) :: fs) n (zu z 0 (cb m (p + 1)) x) J → sM I J → K J P) : w_X10_plain (nI m) (nI p) (nI 35) I P K := by
  refine M_pre h hc (by exact hp) (by decide) (by decide) ?_
  unfold j_X10_plain_47
  repeat (first | (refine zip (by decide) ?_) | (refine zin (by decide) ?_))
  rw [nI_clamp (by show cb m (p + 1) < _; omega)]
  exact M_take h (fun J hJ g => ⟨vp_in_nI (by exact hb) (by decide), kk _ (M_field hb hJ) (sM_t (sM_f g) ⟨fun j _ => zu_nc (by omega), fun c j _ => zu_nc (by omega)⟩)⟩)
theorem M_inr {x : Int32} {v : Nat} {J : zI} {P : zP} {K : Int32 → zI → zP → Prop} (hv : v ≤ 50) (k1 : ∀ i, x = nI i → i < v → K 1 J P) (k0 : (∀ i, i < v → x ≠ nI i) → K 0 J P) : w_X10_in x 0 (nI v - 1) J P K := by
  rcases ix_cases x (n := v) (by omega) with ⟨i, hi, e⟩ | hno
  · refine s_inT ⟨by rw [e]; first | omega | decide | (simp (maxSteps := 400000) (disch := omega) only [q_lit, q_neg, nI_ltI, nI_leI, nI_eq, nI_add, pk_mul, pk_sub, nI_clamp, vp_q, zu_same, zu_nc, zu_nj, ng_lt, ng_le, ng_gt, ng_ge, ng_eq, ng_qe, ng_ee, ng_add, not_false_eq_true, not_true_eq_false, ne_eq]; done) | (simp (maxSteps := 400000) (disch := omega) only [q_lit, q_neg, nI_ltI, nI_leI, nI_eq, nI_add, pk_mul, pk_sub, nI_clamp, vp_q, zu_same, zu_nc, zu_nj, ng_lt, ng_le, ng_gt, ng_ge, ng_eq, ng_qe, ng_ee, ng_add, not_false_eq_true, not_true_eq_false, ne_eq]; omega), ?_⟩ (k1 i e hi)
    rw [e, ← nq1, pk_sub (by omega)]; first | omega | decide | (simp (maxSteps := 400000) (disch := omega) only [q_lit, q_neg, nI_ltI, nI_leI, nI_eq, nI_add, pk_mul, pk_sub, nI_clamp, vp_q, zu_same, zu_nc, zu_nj, ng_lt, ng_le, ng_gt, ng_ge, ng_eq, ng_qe, ng_ee, ng_add, not_false_eq_true, not_true_eq_false, ne_eq]; done) | (simp (maxSteps := 400000) (disch := omega) only [q_lit, q_neg, nI_ltI, nI_leI, nI_eq, nI_add, pk_mul, pk_sub, nI_clamp, vp_q, zu_same, zu_nc, zu_nj, ng_lt, ng_le, ng_gt, ng_ge, ng_eq, ng_qe, ng_ee, ng_add, not_false_eq_true, not_true_eq_false, ne_eq]; omega)
  · refine s_inF (fun q => ?_) (k0 (fun i hi e => ?_))
    · have q1 := q.1
      have q2 := q.2
      rw [Int32.le_iff_toInt_le] at q1 q2
      have e0 : (0 : Int32).toInt = 0 := by decide
      have e1 := pk_sub_toInt (a := v) (b := 1) (by omega) (by omega)
      rw [show nI v - 1 = nI v - nI 1 from rfl, e1] at q2
      rcases hno with z | z
      · rw [Int32.lt_iff_toInt_lt] at z; omega
      · rw [Int32.le_iff_toInt_le, nI_toInt (by omega)] at z; omega
    · subst e
      rcases hno with q | q
      · rw [show (0 : Int32) = nI 0 from rfl, nI_ltI (by omega) (by omega)] at q; omega
      · rw [nI_leI (by omega) (by omega)] at q; omega
theorem e50 {r i : Nat} : (50 : Int32) * nI r + nI i = nI (50 * r + i) := by rw [show (50 : Int32) = nI 50 from rfl, pk_mul, nI_add]
theorem Mo_take {I0 I : zI} {k lim m p r : Nat} {wv n ln : nuN} {cb : Nat → Nat → Nat} {z : nuZ} {s : List Va} {l : Nat → Va} {fs : List Frm} {P : zP} {K : zI → zP → Prop} {x : Int32} (h : SM I0 k lim ((m, p, Sum.inl x :: Sum.inr r :: s, l) :: fs) n z I) (hc : CdM I0 k wv cb ln m) (hp : p < ln m) (hr : r < n 2) (kk : ∀ i, x = nI i → i < n (10 + r) → ∀ J, SM I0 k lim ((m, p, Sum.inl (z 1 (50 * r + i)) :: s, l) :: fs) n z J → sM I J → K J P) (kt : (∀ i, i < n (10 + r) → x ≠ nI i) → ∀ J, SM I0 k lim ((m, p, Sum.inl x :: Sum.inr r :: s, l) :: fs) n z J → tM (nI 102) I J → K J P) : w_X10_plain (nI m) (nI p) (nI 38) I P K := by
  obtain ⟨hf, hm, hp2, hlen⟩ := M_pl h
  rw [List.length_cons, List.length_cons] at hlen
  obtain ⟨m0, m0', m1, m2, m3⟩ := h.2.2.2.2.1
  have s1 := m2 r hr
  refine M_oth h hc hp (by omega) ?_
  unfold w_X10_other
  refine s_inF (by decide) (zip rfl (zin (by decide) (zin (by decide) (zip (by decide) (M_top (i := 0) h rfl (M_top (i := 1) h rfl ?_))))))
  simp only [mv_i, mv_r]
  rw [nI_clamp (by omega), s1.2.1]
  refine ⟨vp_in_nI (by omega) (by decide), M_inr s1.1 (fun i ei hi => zin (by decide) (M_take h (fun J hJ g => M_take hJ (fun J2 hJ2 g2 => ?_)))) (fun no => zip rfl (kt no _ (M_thr h) tM_z))⟩
  simp only [mv_i, mv_r]
  rw [ei, e50, nI_clamp (by omega)]
  exact ⟨vp_in_nI (by omega) (by decide), M_give (v := Sum.inl (z 1 (50 * r + i))) hJ2 (by omega) ((hJ2.2.2.2.2.1.2.2.2.1 r hr).2.2 i hi) (fun J3 hJ3 g3 => kk i ei hi J3 hJ3 (sM_t (sM_t (sM_f g) (sM_f g2)) (sM_f g3)))⟩
theorem Mo_lay {I0 I : zI} {k lim m p r : Nat} {wv n ln : nuN} {cb : Nat → Nat → Nat} {z : nuZ} {s : List Va} {l : Nat → Va} {fs : List Frm} {P : zP} {K : zI → zP → Prop} {x y : Int32} (h : SM I0 k lim ((m, p, Sum.inl y :: Sum.inl x :: Sum.inr r :: s, l) :: fs) n z I) (hc : CdM I0 k wv cb ln m) (hp : p < ln m) (hr : r < n 2) (kk : ∀ i, x = nI i → i < n (10 + r) → ∀ J, SM I0 k lim ((m, p, s, l) :: fs) n (zu z 1 (50 * r + i) y) J → sM I J → K J P) (kt : (∀ i, i < n (10 + r) → x ≠ nI i) → ∀ J, SM I0 k lim ((m, p, Sum.inl y :: Sum.inl x :: Sum.inr r :: s, l) :: fs) n z J → tM (nI 102) I J → K J P) : w_X10_plain (nI m) (nI p) (nI 39) I P K := by
  obtain ⟨hf, hm, hp2, hlen⟩ := M_pl h
  obtain ⟨m0, m0', m1, m2, m3⟩ := h.2.2.2.2.1
  have s1 := m2 r hr
  refine M_oth h hc hp (by omega) ?_
  unfold w_X10_other
  refine s_inF (by decide) (zip rfl (zin (by decide) (zin (by decide) (zin (by decide) (zip (by decide) (M_top (i := 1) h rfl (M_top (i := 2) h rfl ?_)))))))
  simp only [mv_i, mv_r]
  rw [nI_clamp (by omega), s1.2.1]
  refine ⟨vp_in_nI (by omega) (by decide), M_inr s1.1 (fun i ei hi => zin (by decide) (M_take h (fun J hJ g => M_take hJ (fun J2 hJ2 g2 => M_take hJ2 (fun J3 hJ3 g3 => ?_))))) (fun no => zip rfl (kt no _ (M_thr h) tM_z))⟩
  simp only [mv_i, mv_r]
  rw [ei, e50, nI_clamp (by omega)]
  exact ⟨vp_in_nI (by omega) (by decide), kk i ei hi _ (M_item hr hi hJ3) (sM_t (sM_t (sM_t (sM_f g) (sM_f g2)) (sM_f g3)) ⟨fun j _ => zu_nc (by omega), fun c j _ => zu_nc (by omega)⟩)⟩
theorem Mo_size {I0 I : zI} {k lim m p r : Nat} {wv n ln : nuN} {cb : Nat → Nat → Nat} {z : nuZ} {s : List Va} {l : Nat → Va} {fs : List Frm} {P : zP} {K : zI → zP → Prop} (h : SM I0 k lim ((m, p, Sum.inr r :: s, l) :: fs) n z I) (hc : CdM I0 k wv cb ln m) (hp : p < ln m) (hr : r < n 2) (kk : ∀ J, SM I0 k lim ((m, p, Sum.inl (nI (n (10 + r))) :: s, l) :: fs) n z J → sM I J → K J P) : w_X10_plain (nI m) (nI p) (nI 37) I P K := by
  obtain ⟨hf, hm, hp2, hlen⟩ := M_pl h
  rw [List.length_cons] at hlen
  refine M_oth h hc hp (by omega) ?_
  unfold w_X10_other
  refine s_inF (by decide) (zip rfl (zin (by decide) (zip (by decide) (M_take h (fun J hJ g => ?_)))))
  obtain ⟨m0, m0', m1, m2, m3⟩ := hJ.2.2.2.2.1
  simp only [mv_r]
  rw [nI_clamp (by omega), (m2 r hr).2.1]
  exact ⟨vp_in_nI (by omega) (by decide), M_give (v := Sum.inl (nI (n (10 + r)))) hJ (by omega) rfl (fun J2 hJ2 g2 => kk J2 hJ2 (sM_t (sM_f g) (sM_f g2)))⟩
theorem Mo_throw {I0 I : zI} {k lim m p : Nat} {wv n ln : nuN} {cb : Nat → Nat → Nat} {z : nuZ} {s : List Va} {l : Nat → Va} {fs : List Frm} {P : zP} {K : zI → zP → Prop} {x : Int32} (h : SM I0 k lim ((m, p, Sum.inl x :: s, l) :: fs) n z I) (hc : CdM I0 k wv cb ln m) (hp : p < ln m) (kt : ∀ J, SM I0 k lim ((m, p, Sum.inl x :: s, l) :: fs) n z J → tM (if 1 ≤ x ∧ x ≤ 99 then x else 100) I J → K J P) : w_X10_plain (nI m) (nI p) (nI 41) I P K := by
  refine M_oth h hc hp (by omega) ?_
  unfold w_X10_other
  refine s_inF (by decide) (zip rfl (zin (by decide) (zin (by decide) (zin (by decide) (zin (by decide) (zip (by decide) (M_top (i := 0) h rfl ?_)))))))
  simp only [mv_i]
  by_cases q : 1 ≤ x ∧ x ≤ 99
  · rw [if_pos q] at kt
    refine s_inT q (zin (by decide) (M_top (i := 0) h rfl ?_))
    exact kt _ (M_thr h) tM_z
  · rw [if_neg q] at kt
    exact s_inF q (zip rfl (kt _ (M_thr h) tM_z))
theorem Mo_mark {I0 I : zI} {k lim m p : Nat} {wv n ln : nuN} {cb : Nat → Nat → Nat} {z : nuZ} {s : List Va} {l : Nat → Va} {fs : List Frm} {P : zP} {K : zI → zP → Prop} {x : Int32} (h : SM I0 k lim ((m, p, Sum.inl x :: s, l) :: fs) n z I) (hc : CdM I0 k wv cb ln m) (hp : p < ln m) (kk : ∀ J, SM I0 k lim ((m, p, s, l) :: fs) (mkN n) (mkZ n z x) J → sM I J → K J P) : w_X10_plain (nI m) (nI p) (nI 43) I P K := by
  have hk := h.1.1
  have v : vp_in (nI k) 3 := vp_in_nI hk (by decide)
  refine M_pre h hc (by exact hp) (by decide) (by decide) ?_
  unfold j_X10_plain_47
  repeat (first | (refine zip (by decide) ?_) | (refine zin (by decide) ?_))
  refine M_take h (fun J hJ g => ?_)
  obtain ⟨t1, t2, t3, t4, t5, t6, t7, t8, t9, t10, t11⟩ := hJ.2.2.2.2.2
  have y50 := hJ.1.2.2.2.1
  have e60 : (60 : Int32) * nI k + nI (n 3) = nI (60 * k + n 3) := by rw [show (60 : Int32) = nI 60 from rfl, pk_mul, nI_add]
  unfold w_X10_marks
  simp (disch := omega) only [y50, nI_clamp, zu_nc, t7, e60, nI_1, mv_i]
  refine ⟨v, ?_⟩
  unfold mkN mkZ at kk
  by_cases e6 : n 3 < 60
  · rw [if_pos e6, if_pos e6] at kk
    refine zin (by first | omega | decide | (simp (maxSteps := 400000) (disch := omega) only [q_lit, q_neg, nI_ltI, nI_leI, nI_eq, nI_add, pk_mul, pk_sub, nI_clamp, vp_q, zu_same, zu_nc, zu_nj, ng_lt, ng_le, ng_gt, ng_ge, ng_eq, ng_qe, ng_ee, ng_add, not_false_eq_true, not_true_eq_false, ne_eq]; done) | (simp (maxSteps := 400000) (disch := omega) only [q_lit, q_neg, nI_ltI, nI_leI, nI_eq, nI_add, pk_mul, pk_sub, nI_clamp, vp_q, zu_same, zu_nc, zu_nj, ng_lt, ng_le, ng_gt, ng_ge, ng_eq, ng_qe, ng_ee, ng_add, not_false_eq_true, not_true_eq_false, ne_eq]; omega)) ⟨v, vp_in_nI (by omega) (by decide), v, v, kk _ (SM_nz hJ (fun c j a b d => by rw [zu_nc (by omega), zu_nc (by omega)]) ?_ ?_) (sM_t (sM_f g) ⟨fun j _ => by rw [zu_nc (by omega), zu_nc (by omega)], fun c j _ => by rw [zu_nc (by omega), zu_nc (by omega)]⟩)⟩
    · obtain ⟨m0, m0', m1, m2, m3⟩ := hJ.2.2.2.2.1
      refine ⟨by rw [up1_n (by omega)]; exact m0, by rw [up1_n (by omega), zu_nc (by omega), zu_nc (by omega)]; exact m0', fun f hf => by rw [zu_nc (by omega), zu_nc (by omega), zu_nc (by omega)]; exact m1 f hf, fun r hr => ?_, fun q hq => by rw [zu_nc (by omega), zu_nc (by omega), up1_n (by omega)]; exact m3 q hq⟩
      rw [up1_n (by omega)] at hr
      rw [up1_n (by omega), zu_nc (a := 201) (by omega), zu_nc (a := 201) (by omega)]
      exact ⟨(m2 r hr).1, (m2 r hr).2.1, fun i hi => by rw [zu_nc (by omega), zu_nc (by omega), zu_nc (by omega)]; exact (m2 r hr).2.2 i hi⟩
    · refine ⟨by rw [up1_s]; omega, by rw [up1_n (by omega)]; exact t2, by rw [up1_n (by omega)]; exact t3, by rw [up1_n (by omega)]; exact t4, by rw [up1_n (by omega), zu_nc (by omega), zu_nc (by omega)]; exact t5, by rw [up1_n (by omega), zu_nc (by omega), zu_nc (by omega)]; exact t6, by rw [up1_s, zu_same], by rw [up1_n (by omega), zu_nc (by omega), zu_nc (by omega)]; exact t8, fun i hi => ?_, fun i hi hi2 => ?_, fun c j q1 q2 q3 q4 q5 => ?_⟩
      · rw [up1_s] at hi
        rw [zu_nc (by omega)]
        by_cases e2 : i = n 3
        · rw [e2, zu_same, zu_same]
        · rw [zu_nj (by omega), zu_nj e2]; exact t9 i (by omega)
      · rw [up1_n (by omega)] at hi
        rw [zu_nc (by omega), zu_nc (by omega), zu_nc (by omega), zu_nc (by omega), zu_nc (by omega), zu_nc (by omega)]; exact t10 i hi hi2
      · rw [zu_ne (by omega), zu_ne (by omega)]; exact t11 c j q1 q2 q3 q4 q5
  · rw [if_neg e6, if_neg e6] at kk
    exact zip (by first | omega | decide | (simp (maxSteps := 400000) (disch := omega) only [q_lit, q_neg, nI_ltI, nI_leI, nI_eq, nI_add, pk_mul, pk_sub, nI_clamp, vp_q, zu_same, zu_nc, zu_nj, ng_lt, ng_le, ng_gt, ng_ge, ng_eq, ng_qe, ng_ee, ng_add, not_false_eq_true, not_true_eq_false, ne_eq]; done) | (simp (maxSteps := 400000) (disch := omega) only [q_lit, q_neg, nI_ltI, nI_leI, nI_eq, nI_add, pk_mul, pk_sub, nI_clamp, vp_q, zu_same, zu_nc, zu_nj, ng_lt, ng_le, ng_gt, ng_ge, ng_eq, ng_qe, ng_ee, ng_add, not_false_eq_true, not_true_eq_false, ne_eq]; omega)) (kk J hJ (sM_f g))
theorem Mo_row {I0 I : zI} {k lim m p : Nat} {wv n ln : nuN} {cb : Nat → Nat → Nat} {z : nuZ} {s : List Va} {l : Nat → Va} {fs : List Frm} {P : zP} {K : zI → zP → Prop} {x : Int32} (h : SM I0 k lim ((m, p, Sum.inl x :: s, l) :: fs) n z I) (hc : CdM I0 k wv cb ln m) (hp : p < ln m) (h65 : I 155 65 = 0) (kk : ∀ v, x = nI v → v ≤ 50 → n 2 < 30 → ∀ J, SM I0 k lim ((m, p, Sum.inr (n 2) :: s, l) :: fs) (rwN n v) (rwZ n z) J → sM I J → K J P) (k3 : (∀ v, v ≤ 50 → x ≠ nI v) → ∀ J, SM I0 k lim ((m, p, Sum.inl x :: s, l) :: fs) n z J → tM (nI 103) I J → K J P) (k4 : ∀ v, x = nI v → v ≤ 50 → n 2 = 30 → ∀ J, SM I0 k lim ((m, p, Sum.inl x :: s, l) :: fs) n z J → tM (nI 104) I J → K J P) : w_X10_plain (nI m) (nI p) (nI 36) I P K := by
  obtain ⟨m0, m0', m1, m2, m3⟩ := h.2.2.2.2.1
  obtain ⟨t1, t2, t3, t4, t5, t6, t7, t8, t9, t10, t11⟩ := h.2.2.2.2.2
  refine M_oth h hc hp (by omega) ?_
  unfold w_X10_other
  refine s_inF (by decide) (zip rfl (zip (by decide) ?_))
  unfold w_X10_newRow
  refine M_top (i := 0) h rfl ?_
  simp only [mv_i]
  rcases ix_cases x (n := 51) (by omega) with ⟨v, hv, ev⟩ | hno
  · refine s_inT ⟨by rw [ev]; first | omega | decide | (simp (maxSteps := 400000) (disch := omega) only [q_lit, q_neg, nI_ltI, nI_leI, nI_eq, nI_add, pk_mul, pk_sub, nI_clamp, vp_q, zu_same, zu_nc, zu_nj, ng_lt, ng_le, ng_gt, ng_ge, ng_eq, ng_qe, ng_ee, ng_add, not_false_eq_true, not_true_eq_false, ne_eq]; done) | (simp (maxSteps := 400000) (disch := omega) only [q_lit, q_neg, nI_ltI, nI_leI, nI_eq, nI_add, pk_mul, pk_sub, nI_clamp, vp_q, zu_same, zu_nc, zu_nj, ng_lt, ng_le, ng_gt, ng_ge, ng_eq, ng_qe, ng_ee, ng_add, not_false_eq_true, not_true_eq_false, ne_eq]; omega), by rw [ev]; first | omega | decide | (simp (maxSteps := 400000) (disch := omega) only [q_lit, q_neg, nI_ltI, nI_leI, nI_eq, nI_add, pk_mul, pk_sub, nI_clamp, vp_q, zu_same, zu_nc, zu_nj, ng_lt, ng_le, ng_gt, ng_ge, ng_eq, ng_qe, ng_ee, ng_add, not_false_eq_true, not_true_eq_false, ne_eq]; done) | (simp (maxSteps := 400000) (disch := omega) only [q_lit, q_neg, nI_ltI, nI_leI, nI_eq, nI_add, pk_mul, pk_sub, nI_clamp, vp_q, zu_same, zu_nc, zu_nj, ng_lt, ng_le, ng_gt, ng_ge, ng_eq, ng_qe, ng_ee, ng_add, not_false_eq_true, not_true_eq_false, ne_eq]; omega)⟩ (zin (by decide) ?_)
    rw [m0']
    by_cases e3 : n 2 = 30
    · refine zip (by rw [e3]; rfl) ?_
      unfold j_X10_newRow_37
      exact zin (by decide) (k4 v ev (by omega) e3 _ (M_thr h) tM_z)
    · refine zin (by first | omega | decide | (simp (maxSteps := 400000) (disch := omega) only [q_lit, q_neg, nI_ltI, nI_leI, nI_eq, nI_add, pk_mul, pk_sub, nI_clamp, vp_q, zu_same, zu_nc, zu_nj, ng_lt, ng_le, ng_gt, ng_ge, ng_eq, ng_qe, ng_ee, ng_add, not_false_eq_true, not_true_eq_false, ne_eq]; done) | (simp (maxSteps := 400000) (disch := omega) only [q_lit, q_neg, nI_ltI, nI_leI, nI_eq, nI_add, pk_mul, pk_sub, nI_clamp, vp_q, zu_same, zu_nc, zu_nj, ng_lt, ng_le, ng_gt, ng_ge, ng_eq, ng_qe, ng_ee, ng_add, not_false_eq_true, not_true_eq_false, ne_eq]; omega)) ?_
      unfold j_X10_newRow_37
      rw [m0', nI_1, nI_clamp (by omega), ev]
      refine zip rfl ⟨vp_in_nI (by omega) (by decide), ?_⟩
      have lp : ∀ d i J, i + d = v → (∀ c j, ¬ (c = 202 ∧ 50 * (n 2 + 1) ≤ j ∧ j < 50 * (n 2 + 1) + i) → J c j = zu (zu (zu I 155 65 0) 155 63 (nI (n 2 + 1))) 201 (n 2 + 1) (nI v) c j) → (∀ j, 50 * (n 2 + 1) ≤ j → j < 50 * (n 2 + 1) + i → J 202 j = 0) → l_X10_newRow_70 (fun I33 P33 => K I33 P33) (d + 1) (nI v) (nI i) J P := by
        intro d
        induction d with
        | zero =>
          intro i J hi f g
          obtain rfl : i = v := by omega
          have y63 : J 155 63 = nI (n 2 + 1) := by rw [f _ _ (by omega), zu_nc (by omega), zu_same]
          rw [l_X10_newRow_70, y63]
          have fg : ∀ c j, ¬ (c = 155 ∧ j = 63) → ¬ (201 ≤ c ∧ c ≤ 202) → J c j = I c j := fun c j a b => by
            rw [f c j (by omega), zu_nc (by omega), zu_ne (by omega)]
            by_cases e : c = 155 ∧ j = 65
            · rw [e.1, e.2, zu_same, h65]
            · rw [zu_ne e]
          have hN : SM I0 k lim ((m, p, Sum.inl x :: s, l) :: fs) (rwN n i) (rwZ n z) J := by
            refine SM_nz h (fun c j a b _ => fg c j (by omega) (by omega)) ?_ ?_
            · refine ⟨by unfold rwN; rw [up1_s]; omega, by unfold rwN; rw [up1_s]; exact y63, fun f' hf' => ?_, fun r hr => ?_, fun q hq => ?_⟩
              · rw [fg _ _ (by omega) (by omega)]
                unfold rwZ
                rw [if_neg (by omega)]; exact m1 f' hf'
              · unfold rwN at hr ⊢
                rw [up1_s] at hr
                rw [up1_n (by omega)]
                by_cases e4 : r = n 2
                · rw [e4, up1_s]
                  refine ⟨by omega, by rw [f _ _ (by omega), zu_same], fun i' hi' => ?_⟩
                  rw [g _ (by omega) (by omega)]
                  unfold rwZ
                  rw [if_pos (by omega)]
                · rw [up1_n (by omega)]
                  have mr := m2 r (by omega)
                  refine ⟨mr.1, ?_, fun i' hi' => ?_⟩
                  · rw [f _ _ (by omega), zu_nj (by omega), zu_nc (by omega), zu_nc (by omega)]; exact mr.2.1
                  · rw [f _ _ (by omega), zu_nc (by omega), zu_nc (by omega), zu_nc (by omega)]
                    unfold rwZ
                    rw [if_neg (by omega)]; exact mr.2.2 i' hi'
              · unfold rwN
                rw [up1_n (by omega), up1_n (by omega), fg _ _ (by omega) (by omega)]; exact m3 q hq
            · unfold rwN
              refine ⟨by rw [up1_n (by omega), up1_n (by omega)]; exact t1, by rw [up1_n (by omega), up1_n (by omega)]; exact t2, by rw [up1_n (by omega), up1_n (by omega)]; exact t3, by rw [up1_n (by omega), up1_n (by omega)]; exact t4, by rw [up1_n (by omega), up1_n (by omega), fg _ _ (by omega) (by omega)]; exact t5, by rw [up1_n (by omega), up1_n (by omega), fg _ _ (by omega) (by omega)]; exact t6, by rw [up1_n (by omega), up1_n (by omega), fg _ _ (by omega) (by omega)]; exact t7, by rw [up1_n (by omega), up1_n (by omega), fg _ _ (by omega) (by omega)]; exact t8, fun i' hi' => ?_, fun i' hi' hi2 => ?_, fun c j q1 q2 q3 q4 q5 => by rw [fg _ _ (by omega) (by omega)]; exact t11 c j q1 q2 q3 q4 q5⟩
              · rw [up1_n (by omega), up1_n (by omega)] at hi'
                rw [fg _ _ (by omega) (by omega)]
                unfold rwZ
                rw [if_neg (by omega)]; exact t9 i' hi'
              · rw [up1_n (by omega), up1_n (by omega)] at hi'
                rw [fg _ _ (by omega) (by omega), fg _ _ (by omega) (by omega)]
                unfold rwZ
                rw [if_neg (by omega), if_neg (by omega)]; exact t10 i' hi' hi2
          refine zip (by first | omega | decide | (simp (maxSteps := 400000) (disch := omega) only [q_lit, q_neg, nI_ltI, nI_leI, nI_eq, nI_add, pk_mul, pk_sub, nI_clamp, vp_q, zu_same, zu_nc, zu_nj, ng_lt, ng_le, ng_gt, ng_ge, ng_eq, ng_qe, ng_ee, ng_add, not_false_eq_true, not_true_eq_false, ne_eq]; done) | (simp (maxSteps := 400000) (disch := omega) only [q_lit, q_neg, nI_ltI, nI_leI, nI_eq, nI_add, pk_mul, pk_sub, nI_clamp, vp_q, zu_same, zu_nc, zu_nj, ng_lt, ng_le, ng_gt, ng_ge, ng_eq, ng_qe, ng_ee, ng_add, not_false_eq_true, not_true_eq_false, ne_eq]; omega)) (M_setTop (w := Sum.inr (n 2)) hN rfl (fun J3 hJ3 g3 => kk i ev (by omega) (by omega) J3 hJ3 (sM_t ⟨fun j q => fg _ _ (by omega) (by omega), fun c j q => fg _ _ (by omega) (by omega)⟩ (sM_f g3))))
        | succ d ih =>
          intro i J hi f g
          have y63 : J 155 63 = nI (n 2 + 1) := by rw [f _ _ (by omega), zu_nc (by omega), zu_same]
          rw [l_X10_newRow_70, y63, e50, nI_1, nI_clamp (by omega)]
          refine zin (by first | omega | decide | (simp (maxSteps := 400000) (disch := omega) only [q_lit, q_neg, nI_ltI, nI_leI, nI_eq, nI_add, pk_mul, pk_sub, nI_clamp, vp_q, zu_same, zu_nc, zu_nj, ng_lt, ng_le, ng_gt, ng_ge, ng_eq, ng_qe, ng_ee, ng_add, not_false_eq_true, not_true_eq_false, ne_eq]; done) | (simp (maxSteps := 400000) (disch := omega) only [q_lit, q_neg, nI_ltI, nI_leI, nI_eq, nI_add, pk_mul, pk_sub, nI_clamp, vp_q, zu_same, zu_nc, zu_nj, ng_lt, ng_le, ng_gt, ng_ge, ng_eq, ng_qe, ng_ee, ng_add, not_false_eq_true, not_true_eq_false, ne_eq]; omega)) ⟨vp_in_nI (by omega) (by decide), ih (i + 1) _ (by omega) (fun c j a => ?_) (fun j a b => ?_)⟩
          · rw [zu_ne (by omega)]; exact f c j (by omega)
          · by_cases e : j = 50 * (n 2 + 1) + i
            · rw [e, zu_same]
            · rw [zu_nj e]; exact g j a (by omega)
      exact ⟨_, lp v 0 _ (by omega) (fun c j _ => rfl) (fun j a b => absurd a (by omega))⟩
  · have no : ∀ v, v ≤ 50 → x ≠ nI v := fun v hv ev => by
      subst ev
      rcases hno with q | q
      · rw [show (0 : Int32) = nI 0 from rfl, nI_ltI (by omega) (by omega)] at q; omega
      · rw [nI_leI (by omega) (by omega)] at q; omega
    refine s_inF (fun q => ?_) (zip rfl ?_)
    · have q1 := q.1
      have q2 := q.2
      rw [Int32.le_iff_toInt_le] at q1 q2
      have e0 : (0 : Int32).toInt = 0 := by decide
      have e5 : (50 : Int32).toInt = 50 := by decide
      rcases hno with z | z
      · rw [Int32.lt_iff_toInt_lt] at z; omega
      · rw [Int32.le_iff_toInt_le, nI_toInt (by omega)] at z; omega
    · unfold j_X10_newRow_37
      exact zin (by decide) (k3 no _ (M_thr h) tM_z)
