/-! PURE 60: RUN: the loom's ROWS and MARKS -/
theorem lv_i {x : Int32} : lv (Sum.inl x) = x := rfl
theorem lv_r {r : Nat} : lv (Sum.inr r) = nI r := rfl
theorem L_cell {I0 I : zI} {k lim r i : Nat} {wv n : nuN} {z : nuZ} {fs : List Frm} {P : zP} {K : Int32 → zI → zP → Prop} (h : SL I0 k lim wv fs n z I P) (hr : r < n 2) (hi : i < n (10 + r)) (kk : K (z 1 (50 * r + i)) I P) : w_X2_cellInt (nI (8 + 50 * r + i)) I P K := by
  obtain ⟨m0, m1, m2, m3⟩ := h.2.2.2.2.1
  have s1 := m2 r hr
  unfold w_X2_cellInt
  rw [nI_clamp (by omega), s1.2.2 i hi]
  exact zin (by first | omega | decide | (simp (maxSteps := 400000) (disch := omega) only [q_lit, q_neg, nI_ltI, nI_leI, nI_eq, nI_add, pk_mul, pk_sub, nI_clamp, vp_q, zu_same, zu_nc, zu_nj, ng_lt, ng_le, ng_gt, ng_ge, ng_eq, ng_qe, ng_ee, ng_add, not_false_eq_true, not_true_eq_false, ne_eq]; done) | (simp (maxSteps := 400000) (disch := omega) only [q_lit, q_neg, nI_ltI, nI_leI, nI_eq, nI_add, pk_mul, pk_sub, nI_clamp, vp_q, zu_same, zu_nc, zu_nj, ng_lt, ng_le, ng_gt, ng_ge, ng_eq, ng_qe, ng_ee, ng_add, not_false_eq_true, not_true_eq_false, ne_eq]; omega)) (zin (by first | omega | decide | (simp (maxSteps := 400000) (disch := omega) only [q_lit, q_neg, nI_ltI, nI_leI, nI_eq, nI_add, pk_mul, pk_sub, nI_clamp, vp_q, zu_same, zu_nc, zu_nj, ng_lt, ng_le, ng_gt, ng_ge, ng_eq, ng_qe, ng_ee, ng_add, not_false_eq_true, not_true_eq_false, ne_eq]; done) | (simp (maxSteps := 400000) (disch := omega) only [q_lit, q_neg, nI_ltI, nI_leI, nI_eq, nI_add, pk_mul, pk_sub, nI_clamp, vp_q, zu_same, zu_nc, zu_nj, ng_lt, ng_le, ng_gt, ng_ge, ng_eq, ng_qe, ng_ee, ng_add, not_false_eq_true, not_true_eq_false, ne_eq]; omega)) ⟨vp_in_nI (by omega) (by decide), kk⟩)
theorem Lo_take {I0 I : zI} {k lim m p r : Nat} {wv n : nuN} {z : nuZ} {s : List Va} {l : Nat → Va} {fs : List Frm} {P : zP} {K : zI → zP → Prop} {x : Int32} (h : SL I0 k lim wv ((m, p, Sum.inl x :: Sum.inr r :: s, l) :: fs) n z I P) (hn : I0 (20 + 12 * m) 0 = nI m) (hr : r < n 2) (kk : ∀ i, x = nI i → i < n (10 + r) → ∀ J, SL I0 k lim wv ((m, p, Sum.inl (z 1 (50 * r + i)) :: s, l) :: fs) n z J P → sL k I J → K J P) (kt : (∀ i, i < n (10 + r) → x ≠ nI i) → ∀ J, SL I0 k lim wv ((m, p, s, l) :: fs) n z J P → tL k m (nI 102) I J → K J P) : w_X2_doMemory (119 + 3 * fs.length) (nI 38) I P K := by
  obtain ⟨e, hf, hm, -⟩ := L_pl h
  have hk := h.1.1
  have hlen := h.2.2.2.1.1.2.2.2.2.2.2.1
  dsimp only at hlen
  rw [List.length_cons, List.length_cons] at hlen
  unfold w_X2_doMemory w_X2_takeFromRow
  refine zin (by decide) (zin (by decide) (zin (by decide) (zin (by decide) (zip (by decide) ⟨shF hf, L_pop h (fun J hJ g => L_pop hJ (fun J2 hJ2 g2 => ?_))⟩))))
  have s2 : sL k I J2 := sL_t (sL_f hk g) (sL_f hk g2)
  have m0 := h.2.2.2.2.1.1
  have m2 := (h.2.2.2.2.1.2.2.1 r hr).1
  refine L_rowc hJ2 hr (fun i ei hi => zin (by first | omega | decide | (simp (maxSteps := 400000) (disch := omega) only [q_lit, q_neg, nI_ltI, nI_leI, nI_eq, nI_add, pk_mul, pk_sub, nI_clamp, vp_q, zu_same, zu_nc, zu_nj, ng_lt, ng_le, ng_gt, ng_ge, ng_eq, ng_qe, ng_ee, ng_add, not_false_eq_true, not_true_eq_false, ne_eq]; done) | (simp (maxSteps := 400000) (disch := omega) only [q_lit, q_neg, nI_ltI, nI_leI, nI_eq, nI_add, pk_mul, pk_sub, nI_clamp, vp_q, zu_same, zu_nc, zu_nj, ng_lt, ng_le, ng_gt, ng_ge, ng_eq, ng_qe, ng_ee, ng_add, not_false_eq_true, not_true_eq_false, ne_eq]; omega)) (L_cell hJ2 hr hi (L_push (v := Sum.inl (z 1 (50 * r + i))) hJ2 (by omega) rfl (fun J3 hJ3 g3 => kk i ei hi J3 hJ3 (sL_t s2 (sL_f hk g3)))))) (fun no => zip rfl (L_throw hJ2 hn (fun J3 hJ3 t => kt no J3 hJ3 (tL_s s2 t))))
theorem Lo_lay {I0 I : zI} {k lim m p r : Nat} {wv n : nuN} {z : nuZ} {s : List Va} {l : Nat → Va} {fs : List Frm} {P : zP} {K : zI → zP → Prop} {x y : Int32} (h : SL I0 k lim wv ((m, p, Sum.inl y :: Sum.inl x :: Sum.inr r :: s, l) :: fs) n z I P) (hn : I0 (20 + 12 * m) 0 = nI m) (hr : r < n 2) (kk : ∀ i, x = nI i → i < n (10 + r) → ∀ J, SL I0 k lim wv ((m, p, s, l) :: fs) n (zu z 1 (50 * r + i) y) J P → sL k I J → K J P) (kt : (∀ i, i < n (10 + r) → x ≠ nI i) → ∀ J, SL I0 k lim wv ((m, p, s, l) :: fs) n z J P → tL k m (nI 102) I J → K J P) : w_X2_doMemory (119 + 3 * fs.length) (nI 39) I P K := by
  obtain ⟨e, hf, hm, -⟩ := L_pl h
  have hk := h.1.1
  unfold w_X2_doMemory w_X2_layInRow
  refine zin (by decide) (zin (by decide) (zin (by decide) (zin (by decide) (zin (by decide) (zip (by decide) ⟨shF hf, L_pop h (fun J hJ g => L_pop hJ (fun J2 hJ2 g2 => L_pop hJ2 (fun J3 hJ3 g3 => ?_)))⟩)))))
  have s2 : sL k I J3 := sL_t (sL_t (sL_f hk g) (sL_f hk g2)) (sL_f hk g3)
  have m0 := h.2.2.2.2.1.1
  have m2 := (h.2.2.2.2.1.2.2.1 r hr).1
  refine L_rowc hJ3 hr (fun i ei hi => zin (by first | omega | decide | (simp (maxSteps := 400000) (disch := omega) only [q_lit, q_neg, nI_ltI, nI_leI, nI_eq, nI_add, pk_mul, pk_sub, nI_clamp, vp_q, zu_same, zu_nc, zu_nj, ng_lt, ng_le, ng_gt, ng_ge, ng_eq, ng_qe, ng_ee, ng_add, not_false_eq_true, not_true_eq_false, ne_eq]; done) | (simp (maxSteps := 400000) (disch := omega) only [q_lit, q_neg, nI_ltI, nI_leI, nI_eq, nI_add, pk_mul, pk_sub, nI_clamp, vp_q, zu_same, zu_nc, zu_nj, ng_lt, ng_le, ng_gt, ng_ge, ng_eq, ng_qe, ng_ee, ng_add, not_false_eq_true, not_true_eq_false, ne_eq]; omega)) ?_) (fun no => zip rfl (L_throw hJ3 hn (fun J4 hJ4 t => kt no J4 hJ4 (tL_s s2 t))))
  unfold w_X2_setCell
  rw [nI_clamp (by omega)]
  exact zin (by first | omega | decide | (simp (maxSteps := 400000) (disch := omega) only [q_lit, q_neg, nI_ltI, nI_leI, nI_eq, nI_add, pk_mul, pk_sub, nI_clamp, vp_q, zu_same, zu_nc, zu_nj, ng_lt, ng_le, ng_gt, ng_ge, ng_eq, ng_qe, ng_ee, ng_add, not_false_eq_true, not_true_eq_false, ne_eq]; done) | (simp (maxSteps := 400000) (disch := omega) only [q_lit, q_neg, nI_ltI, nI_leI, nI_eq, nI_add, pk_mul, pk_sub, nI_clamp, vp_q, zu_same, zu_nc, zu_nj, ng_lt, ng_le, ng_gt, ng_ge, ng_eq, ng_qe, ng_ee, ng_add, not_false_eq_true, not_true_eq_false, ne_eq]; omega)) (zin (by first | omega | decide | (simp (maxSteps := 400000) (disch := omega) only [q_lit, q_neg, nI_ltI, nI_leI, nI_eq, nI_add, pk_mul, pk_sub, nI_clamp, vp_q, zu_same, zu_nc, zu_nj, ng_lt, ng_le, ng_gt, ng_ge, ng_eq, ng_qe, ng_ee, ng_add, not_false_eq_true, not_true_eq_false, ne_eq]; done) | (simp (maxSteps := 400000) (disch := omega) only [q_lit, q_neg, nI_ltI, nI_leI, nI_eq, nI_add, pk_mul, pk_sub, nI_clamp, vp_q, zu_same, zu_nc, zu_nj, ng_lt, ng_le, ng_gt, ng_ge, ng_eq, ng_qe, ng_ee, ng_add, not_false_eq_true, not_true_eq_false, ne_eq]; omega)) ⟨vp_in_nI (by omega) (by decide), kk i ei hi _ (L_item hr hi hJ3) (sL_t s2 ⟨fun j _ => zu_nc (by omega), fun j _ => zu_nc (by omega)⟩)⟩)
theorem Lo_size {I0 I : zI} {k lim m p r : Nat} {wv n : nuN} {z : nuZ} {s : List Va} {l : Nat → Va} {fs : List Frm} {P : zP} {K : zI → zP → Prop} (h : SL I0 k lim wv ((m, p, Sum.inr r :: s, l) :: fs) n z I P) (hr : r < n 2) (kk : ∀ J, SL I0 k lim wv ((m, p, Sum.inl (nI (n (10 + r))) :: s, l) :: fs) n z J P → sL k I J → K J P) : w_X2_doMemory (119 + 3 * fs.length) (nI 37) I P K := by
  obtain ⟨e, hf, hm, -⟩ := L_pl h
  have hk := h.1.1
  have hlen := h.2.2.2.1.1.2.2.2.2.2.2.1
  dsimp only at hlen
  rw [List.length_cons] at hlen
  unfold w_X2_doMemory w_X2_sizeOfRow
  refine zin (by decide) (zin (by decide) (zin (by decide) (zip (by decide) ⟨shF hf, L_pop h (fun J hJ g => ?_)⟩)))
  obtain ⟨m0, m1, m2, m3⟩ := hJ.2.2.2.2.1
  have s1 := m2 r hr
  have h7 := hJ.2.2.2.2.2.2.2.2.2.2.1
  simp only [lv_r]
  rw [nI_clamp (by omega), s1.2.1]
  exact zin (by first | omega | decide | (simp (maxSteps := 400000) (disch := omega) only [q_lit, q_neg, nI_ltI, nI_leI, nI_eq, nI_add, pk_mul, pk_sub, nI_clamp, vp_q, zu_same, zu_nc, zu_nj, ng_lt, ng_le, ng_gt, ng_ge, ng_eq, ng_qe, ng_ee, ng_add, not_false_eq_true, not_true_eq_false, ne_eq]; done) | (simp (maxSteps := 400000) (disch := omega) only [q_lit, q_neg, nI_ltI, nI_leI, nI_eq, nI_add, pk_mul, pk_sub, nI_clamp, vp_q, zu_same, zu_nc, zu_nj, ng_lt, ng_le, ng_gt, ng_ge, ng_eq, ng_qe, ng_ee, ng_add, not_false_eq_true, not_true_eq_false, ne_eq]; omega)) ⟨_, hJ.1.2.2.2.1, shT hk, zin (by rw [h7]; first | omega | decide | (simp (maxSteps := 400000) (disch := omega) only [q_lit, q_neg, nI_ltI, nI_leI, nI_eq, nI_add, pk_mul, pk_sub, nI_clamp, vp_q, zu_same, zu_nc, zu_nj, ng_lt, ng_le, ng_gt, ng_ge, ng_eq, ng_qe, ng_ee, ng_add, not_false_eq_true, not_true_eq_false, ne_eq]; done) | (simp (maxSteps := 400000) (disch := omega) only [q_lit, q_neg, nI_ltI, nI_leI, nI_eq, nI_add, pk_mul, pk_sub, nI_clamp, vp_q, zu_same, zu_nc, zu_nj, ng_lt, ng_le, ng_gt, ng_ge, ng_eq, ng_qe, ng_ee, ng_add, not_false_eq_true, not_true_eq_false, ne_eq]; omega)) (zin (by first | omega | decide | (simp (maxSteps := 400000) (disch := omega) only [q_lit, q_neg, nI_ltI, nI_leI, nI_eq, nI_add, pk_mul, pk_sub, nI_clamp, vp_q, zu_same, zu_nc, zu_nj, ng_lt, ng_le, ng_gt, ng_ge, ng_eq, ng_qe, ng_ee, ng_add, not_false_eq_true, not_true_eq_false, ne_eq]; done) | (simp (maxSteps := 400000) (disch := omega) only [q_lit, q_neg, nI_ltI, nI_leI, nI_eq, nI_add, pk_mul, pk_sub, nI_clamp, vp_q, zu_same, zu_nc, zu_nj, ng_lt, ng_le, ng_gt, ng_ge, ng_eq, ng_qe, ng_ee, ng_add, not_false_eq_true, not_true_eq_false, ne_eq]; omega)) ⟨vp_in_nI (by omega) (by decide), L_push (v := Sum.inl (nI (n (10 + r)))) hJ (by omega) rfl (fun J2 hJ2 g2 => kk J2 hJ2 (sL_t (sL_f hk g) (sL_f hk g2)))⟩)⟩
/-- a MARK -/
def mkN (n : nuN) : nuN := if n 3 < 60 then up1 n 3 (n 3 + 1) else n
def mkZ (n : nuN) (z : nuZ) (x : Int32) : nuZ := if n 3 < 60 then zu z 2 (n 3) x else z
theorem Lo_mark {I0 I : zI} {k lim m p : Nat} {wv n : nuN} {z : nuZ} {s : List Va} {l : Nat → Va} {fs : List Frm} {P : zP} {K : zI → zP → Prop} {x : Int32} (h : SL I0 k lim wv ((m, p, Sum.inl x :: s, l) :: fs) n z I P) (kk : ∀ J, SL I0 k lim wv ((m, p, s, l) :: fs) (mkN n) (mkZ n z x) J P → sL k I J → K J P) : w_X2_doMemory (119 + 3 * fs.length) (nI 43) I P K := by
  obtain ⟨e, hf, hm, -⟩ := L_pl h
  have hk := h.1.1
  have hP := h.1.2.2.1
  unfold w_X2_doMemory w_X6_addMark
  refine zin (by decide) (zin (by decide) (zin (by decide) (zin (by decide) (zin (by decide) (zin (by decide) (zin (by decide) (zin (by decide) (zin (by decide) (zip (by decide) ⟨_, h.1.2.2.2.1, shF hf, L_pop h (fun J hJ g => ⟨shT hk, shT hk, ?_⟩)⟩)))))))))
  obtain ⟨t1, t2, t3, t4, t5, t6, t7, t8, t9, t10, t11⟩ := hJ.2.2.2.2.2
  show (if J (93 + 5 * k) 11 < 0 then _ else _)
  rw [t8]
  refine zin (by first | omega | decide | (simp (maxSteps := 400000) (disch := omega) only [q_lit, q_neg, nI_ltI, nI_leI, nI_eq, nI_add, pk_mul, pk_sub, nI_clamp, vp_q, zu_same, zu_nc, zu_nj, ng_lt, ng_le, ng_gt, ng_ge, ng_eq, ng_qe, ng_ee, ng_add, not_false_eq_true, not_true_eq_false, ne_eq]; done) | (simp (maxSteps := 400000) (disch := omega) only [q_lit, q_neg, nI_ltI, nI_leI, nI_eq, nI_add, pk_mul, pk_sub, nI_clamp, vp_q, zu_same, zu_nc, zu_nj, ng_lt, ng_le, ng_gt, ng_ge, ng_eq, ng_qe, ng_ee, ng_add, not_false_eq_true, not_true_eq_false, ne_eq]; omega)) ?_
  unfold mkN mkZ at kk
  by_cases e6 : n 3 < 60
  · rw [if_pos e6, if_pos e6] at kk
    refine zin (by first | omega | decide | (simp (maxSteps := 400000) (disch := omega) only [q_lit, q_neg, nI_ltI, nI_leI, nI_eq, nI_add, pk_mul, pk_sub, nI_clamp, vp_q, zu_same, zu_nc, zu_nj, ng_lt, ng_le, ng_gt, ng_ge, ng_eq, ng_qe, ng_ee, ng_add, not_false_eq_true, not_true_eq_false, ne_eq]; done) | (simp (maxSteps := 400000) (disch := omega) only [q_lit, q_neg, nI_ltI, nI_leI, nI_eq, nI_add, pk_mul, pk_sub, nI_clamp, vp_q, zu_same, zu_nc, zu_nj, ng_lt, ng_le, ng_gt, ng_ge, ng_eq, ng_qe, ng_ee, ng_add, not_false_eq_true, not_true_eq_false, ne_eq]; omega)) ⟨_, pT1 hP hk, shT1 hk, by rw [zzT1 hk]; exact vp_in_nI e6 (by decide), ?_⟩
    rw [nI_clamp (by omega), zu_nc (a := 93 + 5 * k) (by omega), t8, nI_1]
    refine kk _ (SL_nz hJ (fun c j a b => by rw [zu_nc (by omega), zu_nc (by omega)]) ?_ ?_) (sL_t (sL_f hk g) ⟨fun j _ => by rw [zu_nc (by omega), zu_nc (by omega)], fun j q => by rw [zu_nj (by omega), zu_nc (by omega)]⟩)
    · obtain ⟨m0, m1, m2, m3⟩ := hJ.2.2.2.2.1
      refine ⟨by rw [up1_n (by omega)]; exact m0, fun f hf => by rw [zu_nc (by omega), zu_nc (by omega), zu_nc (by omega)]; exact m1 f hf, fun r hr => ?_, fun q hq => by rw [zu_nc (by omega), zu_nc (by omega), up1_n (by omega)]; exact m3 q hq⟩
      rw [up1_n (by omega)] at hr
      rw [up1_n (by omega), zu_nc (a := 117) (by omega), zu_nc (a := 117) (by omega)]
      exact ⟨(m2 r hr).1, (m2 r hr).2.1, fun i hi => by rw [zu_nc (by omega), zu_nc (by omega), zu_nc (by omega)]; exact (m2 r hr).2.2 i hi⟩
    · refine ⟨by rw [up1_s]; omega, by rw [up1_n (by omega)]; exact t2, by rw [up1_n (by omega)]; exact t3, by rw [up1_n (by omega)]; exact t4, by rw [up1_n (by omega), zu_nj (by omega), zu_nc (by omega)]; exact t5, by rw [up1_n (by omega), zu_nj (by omega), zu_nc (by omega)]; exact t6, by rw [up1_n (by omega), zu_nj (by omega), zu_nc (by omega)]; exact t7, by rw [up1_s, zu_same], by rw [up1_n (by omega), zu_nj (by omega), zu_nc (by omega)]; exact t9, fun i hi => ?_, fun i hi hi2 => ?_⟩
      · rw [up1_s] at hi
        rw [zu_nc (by omega)]
        by_cases e2 : i = n 3
        · rw [e2, zu_same, zu_same]; rfl
        · rw [zu_nj e2, zu_nj e2]; exact t10 i (by omega)
      · rw [up1_n (by omega)] at hi
        rw [zu_nc (by omega), zu_nc (by omega), zu_nc (by omega), zu_nc (by omega), zu_nc (by omega), zu_nc (by omega)]; exact t11 i hi hi2
  · rw [if_neg e6, if_neg e6] at kk
    exact zip (by first | omega | decide | (simp (maxSteps := 400000) (disch := omega) only [q_lit, q_neg, nI_ltI, nI_leI, nI_eq, nI_add, pk_mul, pk_sub, nI_clamp, vp_q, zu_same, zu_nc, zu_nj, ng_lt, ng_le, ng_gt, ng_ge, ng_eq, ng_qe, ng_ee, ng_add, not_false_eq_true, not_true_eq_false, ne_eq]; done) | (simp (maxSteps := 400000) (disch := omega) only [q_lit, q_neg, nI_ltI, nI_leI, nI_eq, nI_add, pk_mul, pk_sub, nI_clamp, vp_q, zu_same, zu_nc, zu_nj, ng_lt, ng_le, ng_gt, ng_ge, ng_eq, ng_qe, ng_ee, ng_add, not_false_eq_true, not_true_eq_false, ne_eq]; omega)) (kk J hJ (sL_f hk g))
/-- a range of an array filled with 0 -/
theorem l_fr {K : zI → zP → Prop} {I : zI} {P : zP} {a b : Nat} (hb : b ≤ 1508) (k : ∀ J, (∀ c j, ¬ (c = 116 ∧ a ≤ j ∧ j < b) → J c j = I c j) → (∀ j, a ≤ j → j < b → J 116 j = 0) → K J P) (hs : SHy[116]? = some (11, zlen 116)) (hz : zlen 116 = 1508) : ∀ d i J, i + d = b → a ≤ i → (∀ c j, ¬ (c = 116 ∧ a ≤ j ∧ j < i) → J c j = I c j) → (∀ j, a ≤ j → j < i → J 116 j = 0) → l_J7_fill_fda19_10 K (d + 1) 116 (nI b) 0 (nI i) J P := by
  intro d
  induction d with
  | zero =>
    intro i J hi ha f g
    obtain rfl : i = b := by omega
    rw [l_J7_fill_fda19_10]
    exact zip (by first | omega | decide | (simp (maxSteps := 400000) (disch := omega) only [q_lit, q_neg, nI_ltI, nI_leI, nI_eq, nI_add, pk_mul, pk_sub, nI_clamp, vp_q, zu_same, zu_nc, zu_nj, ng_lt, ng_le, ng_gt, ng_ge, ng_eq, ng_qe, ng_ee, ng_add, not_false_eq_true, not_true_eq_false, ne_eq]; done) | (simp (maxSteps := 400000) (disch := omega) only [q_lit, q_neg, nI_ltI, nI_leI, nI_eq, nI_add, pk_mul, pk_sub, nI_clamp, vp_q, zu_same, zu_nc, zu_nj, ng_lt, ng_le, ng_gt, ng_ge, ng_eq, ng_qe, ng_ee, ng_add, not_false_eq_true, not_true_eq_false, ne_eq]; omega)) (k J f g)
  | succ d ih =>
    intro i J hi ha f g
    rw [l_J7_fill_fda19_10, nI_1, nI_clamp (by omega)]
    refine zin (by first | omega | decide | (simp (maxSteps := 400000) (disch := omega) only [q_lit, q_neg, nI_ltI, nI_leI, nI_eq, nI_add, pk_mul, pk_sub, nI_clamp, vp_q, zu_same, zu_nc, zu_nj, ng_lt, ng_le, ng_gt, ng_ge, ng_eq, ng_qe, ng_ee, ng_add, not_false_eq_true, not_true_eq_false, ne_eq]; done) | (simp (maxSteps := 400000) (disch := omega) only [q_lit, q_neg, nI_ltI, nI_leI, nI_eq, nI_add, pk_mul, pk_sub, nI_clamp, vp_q, zu_same, zu_nc, zu_nj, ng_lt, ng_le, ng_gt, ng_ge, ng_eq, ng_qe, ng_ee, ng_add, not_false_eq_true, not_true_eq_false, ne_eq]; omega)) ⟨hs, by rw [hz]; exact vp_in_nI (by omega) (by decide), ih (i + 1) _ (by omega) (by omega) (fun c j q => ?_) (fun j q1 q2 => ?_)⟩
    · rw [zu_ne (by omega)]; exact f c j (by omega)
    · by_cases e : j = i
      · rw [e, zu_same]
      · rw [zu_nj e]; exact g j q1 (by omega)
theorem sh116 : SHy[116]? = some (11, zlen 116) := by decide +kernel
theorem zz116 : zlen 116 = 1508 := by decide +kernel
theorem s_fr {K : zI → zP → Prop} {I : zI} {P : zP} {a b : Nat} (ha : a ≤ b) (hb : b ≤ 1508) (k : ∀ J, (∀ c j, ¬ (c = 116 ∧ a ≤ j ∧ j < b) → J c j = I c j) → (∀ j, a ≤ j → j < b → J 116 j = 0) → K J P) : w_J7_fill_fda19 116 (nI a) (nI b) 0 I P K := by
  unfold w_J7_fill_fda19 w_J7_rangeCheck_23922
  refine ⟨sh116, zip (by first | omega | decide | (simp (maxSteps := 400000) (disch := omega) only [q_lit, q_neg, nI_ltI, nI_leI, nI_eq, nI_add, pk_mul, pk_sub, nI_clamp, vp_q, zu_same, zu_nc, zu_nj, ng_lt, ng_le, ng_gt, ng_ge, ng_eq, ng_qe, ng_ee, ng_add, not_false_eq_true, not_true_eq_false, ne_eq]; done) | (simp (maxSteps := 400000) (disch := omega) only [q_lit, q_neg, nI_ltI, nI_leI, nI_eq, nI_add, pk_mul, pk_sub, nI_clamp, vp_q, zu_same, zu_nc, zu_nj, ng_lt, ng_le, ng_gt, ng_ge, ng_eq, ng_qe, ng_ee, ng_add, not_false_eq_true, not_true_eq_false, ne_eq]; omega)) (zip (by first | omega | decide | (simp (maxSteps := 400000) (disch := omega) only [q_lit, q_neg, nI_ltI, nI_leI, nI_eq, nI_add, pk_mul, pk_sub, nI_clamp, vp_q, zu_same, zu_nc, zu_nj, ng_lt, ng_le, ng_gt, ng_ge, ng_eq, ng_qe, ng_ee, ng_add, not_false_eq_true, not_true_eq_false, ne_eq]; done) | (simp (maxSteps := 400000) (disch := omega) only [q_lit, q_neg, nI_ltI, nI_leI, nI_eq, nI_add, pk_mul, pk_sub, nI_clamp, vp_q, zu_same, zu_nc, zu_nj, ng_lt, ng_le, ng_gt, ng_ge, ng_eq, ng_qe, ng_ee, ng_add, not_false_eq_true, not_true_eq_false, ne_eq]; omega)) (zip ?_ ⟨_, l_fr hb k sh116 zz116 (b - a) a I (by omega) (by omega) (fun c j _ => rfl) (fun j q1 q2 => absurd q1 (by omega))⟩))⟩
  rw [zz116]
  show nI b ≤ nI 1508
  first | omega | decide | (simp (maxSteps := 400000) (disch := omega) only [q_lit, q_neg, nI_ltI, nI_leI, nI_eq, nI_add, pk_mul, pk_sub, nI_clamp, vp_q, zu_same, zu_nc, zu_nj, ng_lt, ng_le, ng_gt, ng_ge, ng_eq, ng_qe, ng_ee, ng_add, not_false_eq_true, not_true_eq_false, ne_eq]; done) | (simp (maxSteps := 400000) (disch := omega) only [q_lit, q_neg, nI_ltI, nI_leI, nI_eq, nI_add, pk_mul, pk_sub, nI_clamp, vp_q, zu_same, zu_nc, zu_nj, ng_lt, ng_le, ng_gt, ng_ge, ng_eq, ng_qe, ng_ee, ng_add, not_false_eq_true, not_true_eq_false, ne_eq]; omega)
/-- a new ROW of v ints -/
def rwN (n : nuN) (v : Nat) : nuN := up1 (up1 n (10 + n 2) v) 2 (n 2 + 1)
def rwZ (n : nuN) (z : nuZ) : nuZ := fun c j => if c = 1 ∧ 50 * n 2 ≤ j ∧ j < 50 * n 2 + 50 then 0 else z c j
theorem Lo_row {I0 I : zI} {k lim m p : Nat} {wv n : nuN} {z : nuZ} {s : List Va} {l : Nat → Va} {fs : List Frm} {P : zP} {K : zI → zP → Prop} {x : Int32} (h : SL I0 k lim wv ((m, p, Sum.inl x :: s, l) :: fs) n z I P) (hn : I0 (20 + 12 * m) 0 = nI m) (kk : ∀ v, x = nI v → v ≤ 50 → n 2 < 30 → ∀ J, SL I0 k lim wv ((m, p, Sum.inr (n 2) :: s, l) :: fs) (rwN n v) (rwZ n z) J P → sL k I J → K J P) (k3 : (∀ v, v ≤ 50 → x ≠ nI v) → ∀ J, SL I0 k lim wv ((m, p, s, l) :: fs) n z J P → tL k m (nI 103) I J → K J P) (k4 : ∀ v, x = nI v → v ≤ 50 → n 2 = 30 → ∀ J, SL I0 k lim wv ((m, p, s, l) :: fs) n z J P → tL k m (nI 104) I J → K J P) : w_X2_doMemory (119 + 3 * fs.length) (nI 36) I P K := by
  obtain ⟨e, hf, hm, -⟩ := L_pl h
  have hk := h.1.1
  have hlen := h.2.2.2.1.1.2.2.2.2.2.2.1
  dsimp only at hlen
  rw [List.length_cons] at hlen
  unfold w_X2_doMemory w_X2_makeRow
  refine zin (by decide) (zin (by decide) (zip (by decide) ⟨shF hf, L_pop h (fun J hJ g => ⟨_, hJ.1.2.2.2.1, shT hk, ?_⟩)⟩))
  obtain ⟨t1, t2, t3, t4, t5, t6, t7, t8, t9, t10, t11⟩ := hJ.2.2.2.2.2
  obtain ⟨m0, m1, m2, m3⟩ := hJ.2.2.2.2.1
  have sJ : sL k I J := sL_f hk g
  have thr3 : (∀ v, v ≤ 50 → x ≠ nI v) → j_X2_makeRow_23 (fun I14 P14 => K I14 P14) (119 + 3 * fs.length) J P := fun no => by
    unfold j_X2_makeRow_23
    exact L_throw hJ hn (fun J3 hJ3 t => k3 no J3 hJ3 (tL_s sJ t))
  simp only [lv_i]
  rcases ix_cases x (n := 51) (by omega) with ⟨v, hv, ev⟩ | hno
  · rw [ev, t6]
    refine zin (by first | omega | decide | (simp (maxSteps := 400000) (disch := omega) only [q_lit, q_neg, nI_ltI, nI_leI, nI_eq, nI_add, pk_mul, pk_sub, nI_clamp, vp_q, zu_same, zu_nc, zu_nj, ng_lt, ng_le, ng_gt, ng_ge, ng_eq, ng_qe, ng_ee, ng_add, not_false_eq_true, not_true_eq_false, ne_eq]; done) | (simp (maxSteps := 400000) (disch := omega) only [q_lit, q_neg, nI_ltI, nI_leI, nI_eq, nI_add, pk_mul, pk_sub, nI_clamp, vp_q, zu_same, zu_nc, zu_nj, ng_lt, ng_le, ng_gt, ng_ge, ng_eq, ng_qe, ng_ee, ng_add, not_false_eq_true, not_true_eq_false, ne_eq]; omega)) (zip (by first | omega | decide | (simp (maxSteps := 400000) (disch := omega) only [q_lit, q_neg, nI_ltI, nI_leI, nI_eq, nI_add, pk_mul, pk_sub, nI_clamp, vp_q, zu_same, zu_nc, zu_nj, ng_lt, ng_le, ng_gt, ng_ge, ng_eq, ng_qe, ng_ee, ng_add, not_false_eq_true, not_true_eq_false, ne_eq]; done) | (simp (maxSteps := 400000) (disch := omega) only [q_lit, q_neg, nI_ltI, nI_leI, nI_eq, nI_add, pk_mul, pk_sub, nI_clamp, vp_q, zu_same, zu_nc, zu_nj, ng_lt, ng_le, ng_gt, ng_ge, ng_eq, ng_qe, ng_ee, ng_add, not_false_eq_true, not_true_eq_false, ne_eq]; omega)) (zin (by first | omega | decide | (simp (maxSteps := 400000) (disch := omega) only [q_lit, q_neg, nI_ltI, nI_leI, nI_eq, nI_add, pk_mul, pk_sub, nI_clamp, vp_q, zu_same, zu_nc, zu_nj, ng_lt, ng_le, ng_gt, ng_ge, ng_eq, ng_qe, ng_ee, ng_add, not_false_eq_true, not_true_eq_false, ne_eq]; done) | (simp (maxSteps := 400000) (disch := omega) only [q_lit, q_neg, nI_ltI, nI_leI, nI_eq, nI_add, pk_mul, pk_sub, nI_clamp, vp_q, zu_same, zu_nc, zu_nj, ng_lt, ng_le, ng_gt, ng_ge, ng_eq, ng_qe, ng_ee, ng_add, not_false_eq_true, not_true_eq_false, ne_eq]; omega)) ?_))
    by_cases e3 : n 2 < 30
    · have e1 : (8 : Int32) + nI (n 2) * 50 = nI (8 + 50 * n 2) := by rw [show (8 : Int32) = nI 8 from rfl, show (50 : Int32) = nI 50 from rfl, pk_mul, nI_add]; congr 1; omega
      rw [e1, nI_add]
      refine zip (by first | omega | decide | (simp (maxSteps := 400000) (disch := omega) only [q_lit, q_neg, nI_ltI, nI_leI, nI_eq, nI_add, pk_mul, pk_sub, nI_clamp, vp_q, zu_same, zu_nc, zu_nj, ng_lt, ng_le, ng_gt, ng_ge, ng_eq, ng_qe, ng_ee, ng_add, not_false_eq_true, not_true_eq_false, ne_eq]; done) | (simp (maxSteps := 400000) (disch := omega) only [q_lit, q_neg, nI_ltI, nI_leI, nI_eq, nI_add, pk_mul, pk_sub, nI_clamp, vp_q, zu_same, zu_nc, zu_nj, ng_lt, ng_le, ng_gt, ng_ge, ng_eq, ng_qe, ng_ee, ng_add, not_false_eq_true, not_true_eq_false, ne_eq]; omega)) (s_fr (by omega) (by omega) (fun J2 f2 z2 => ⟨vp_in_nI e3 (by decide), _, hJ.1.2.2.2.1, shT hk, ?_⟩))
      rw [nI_clamp (by omega), zu_nc (a := 93 + 5 * k) (by omega), f2 (93 + 5 * k) 7 (by omega), t6, nI_1]
      have g2 : ∀ c j, ¬ (116 ≤ c ∧ c ≤ 118) → ¬ (93 + 5 * k ≤ c ∧ c ≤ 97 + 5 * k) → zu (zu J2 117 (n 2) (nI v)) (93 + 5 * k) 7 (nI (n 2 + 1)) c j = J c j := fun c j a b => by rw [zu_nc (by omega), zu_nc (by omega)]; exact f2 c j (by omega)
      have hN : SL I0 k lim wv ((m, p, s, l) :: fs) (rwN n v) (rwZ n z) (zu (zu J2 117 (n 2) (nI v)) (93 + 5 * k) 7 (nI (n 2 + 1))) P := by
        refine SL_nz hJ g2 ?_ ?_
        · refine ⟨by unfold rwN; rw [up1_s]; omega, fun f hf => ?_, fun r hr => ?_, fun q hq => ?_⟩
          · rw [zu_nc (by omega), zu_nc (by omega), f2 _ _ (by omega)]
            unfold rwZ
            rw [if_neg (by omega)]; exact m1 f hf
          · unfold rwN at hr ⊢
            rw [up1_s] at hr
            rw [up1_n (by omega), zu_nc (a := 117) (by omega)]
            by_cases e4 : r = n 2
            · rw [e4, up1_s, zu_same]
              refine ⟨by omega, rfl, fun i hi => ?_⟩
              rw [zu_nc (by omega), zu_nc (by omega), z2 _ (by omega) (by omega)]
              unfold rwZ
              rw [if_pos (by omega)]
            · rw [up1_n (by omega), zu_nj e4]
              have mr := m2 r (by omega)
              refine ⟨mr.1, by rw [f2 _ _ (by omega)]; exact mr.2.1, fun i hi => ?_⟩
              rw [zu_nc (by omega), zu_nc (by omega), f2 _ _ (by omega)]
              unfold rwZ
              rw [if_neg (by omega)]; exact mr.2.2 i hi
          · unfold rwN
            rw [up1_n (by omega), up1_n (by omega), zu_nc (by omega), zu_nc (by omega), f2 _ _ (by omega)]; exact m3 q hq
        · unfold rwN
          refine ⟨by rw [up1_n (by omega), up1_n (by omega)]; exact t1, by rw [up1_n (by omega), up1_n (by omega)]; exact t2, by rw [up1_n (by omega), up1_n (by omega)]; exact t3, by rw [up1_n (by omega), up1_n (by omega)]; exact t4, ?_, by rw [up1_s, zu_same], ?_, ?_, ?_, fun i hi => ?_, fun i hi hi2 => ?_⟩
          · rw [up1_n (by omega), up1_n (by omega), zu_nj (by omega), zu_nc (by omega), f2 _ _ (by omega)]; exact t5
          · rw [up1_n (by omega), up1_n (by omega), zu_nj (by omega), zu_nc (by omega), f2 _ _ (by omega)]; exact t7
          · rw [up1_n (by omega), up1_n (by omega), zu_nj (by omega), zu_nc (by omega), f2 _ _ (by omega)]; exact t8
          · rw [up1_n (by omega), up1_n (by omega), zu_nj (by omega), zu_nc (by omega), f2 _ _ (by omega)]; exact t9
          · rw [up1_n (by omega), up1_n (by omega)] at hi
            rw [zu_nc (by omega), zu_nc (by omega), f2 _ _ (by omega)]
            unfold rwZ
            rw [if_neg (by omega)]; exact t10 i hi
          · rw [up1_n (by omega), up1_n (by omega)] at hi
            rw [zu_nc (by omega), zu_nc (by omega), zu_nc (by omega), zu_nc (by omega), f2 _ _ (by omega), f2 _ _ (by omega)]
            unfold rwZ
            rw [if_neg (by omega), if_neg (by omega)]; exact t11 i hi hi2
      refine L_push (v := Sum.inr (n 2)) hN (by omega) rfl (fun J3 hJ3 g3 => kk v ev (by omega) e3 J3 hJ3 (sL_t sJ (sL_t ⟨fun j _ => ?_, fun j q => ?_⟩ (sL_f hk g3))))
      · rw [zu_nc (by omega), zu_nc (by omega)]; exact f2 _ _ (by omega)
      · rw [zu_nj (by omega), zu_nc (by omega)]; exact f2 _ _ (by omega)
    · refine zin (by first | omega | decide | (simp (maxSteps := 400000) (disch := omega) only [q_lit, q_neg, nI_ltI, nI_leI, nI_eq, nI_add, pk_mul, pk_sub, nI_clamp, vp_q, zu_same, zu_nc, zu_nj, ng_lt, ng_le, ng_gt, ng_ge, ng_eq, ng_qe, ng_ee, ng_add, not_false_eq_true, not_true_eq_false, ne_eq]; done) | (simp (maxSteps := 400000) (disch := omega) only [q_lit, q_neg, nI_ltI, nI_leI, nI_eq, nI_add, pk_mul, pk_sub, nI_clamp, vp_q, zu_same, zu_nc, zu_nj, ng_lt, ng_le, ng_gt, ng_ge, ng_eq, ng_qe, ng_ee, ng_add, not_false_eq_true, not_true_eq_false, ne_eq]; omega)) ?_
      unfold j_X2_makeRow_43
      exact L_throw hJ hn (fun J3 hJ3 t => k4 v ev (by omega) (by omega) J3 hJ3 (tL_s sJ t))
  · have no : ∀ v, v ≤ 50 → x ≠ nI v := fun v hv ev => by
      subst ev
      rcases hno with q | q
      · rw [show (0 : Int32) = nI 0 from rfl, nI_ltI (by omega) (by omega)] at q; omega
      · rw [nI_leI (by omega) (by omega)] at q; omega
    by_cases q : x < 0
    · exact zip q (thr3 no)
    · refine zin q (zin (fun q2 => ?_) (thr3 no))
      have q3 := hno.resolve_left q
      rw [Int32.le_iff_toInt_le] at q2 q3
      have e5 : (50 : Int32).toInt = 50 := by decide
      rw [nI_toInt (by omega)] at q3
      omega
