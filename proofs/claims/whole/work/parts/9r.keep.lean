/-! PURE 77: RUN: what a STORE keeps ahead, on both sides -/
/-- the cell that a put or a lay will change -/
def stc (c b : Nat) (s : List Va) (n : nuN) (kc : Kc) : Prop := (c = 35 ∧ kc = Sum.inl b) ∨ (c = 39 ∧ ∃ y i r t, s = y :: Sum.inl (nI i) :: Sum.inr r :: t ∧ r < n 2 ∧ i < n (10 + r) ∧ kc = Sum.inr (r, i))
/-- the stack is as it must be -/
def stf (c b : Nat) (s : List Va) (n : nuN) : Prop := (c = 35 ∧ b < 8) ∨ (c = 39 ∧ ∃ y x r t, s = y :: Sum.inl x :: Sum.inr r :: t ∧ r < n 2)
def sK (k : Nat) (I J : zI) : Prop := (∀ j, 10 ≤ j → j ≠ 13 → j ≠ 14 → J 114 j = I 114 j) ∧ ∀ j, j = 4 ∨ j = 5 ∨ j = 9 ∨ j = 10 → J (93 + 5 * k) j = I (93 + 5 * k) j
theorem sK_w {k : Nat} {I J : zI} (a : sL k I J) : sK k I J := ⟨fun j hj _ _ => a.1 j hj, a.2⟩
theorem sK_t {k : Nat} {I J H : zI} (a : sK k I J) (b : sK k J H) : sK k I H := ⟨fun j hj h3 h4 => (b.1 j hj h3 h4).trans (a.1 j hj h3 h4), fun j hj => (b.2 j hj).trans (a.2 j hj)⟩
def sV (I J : zI) : Prop := ∀ j, j = 52 ∨ j = 65 ∨ j = 66 ∨ j = 67 ∨ j = 68 → J 155 j = I 155 j
theorem sV_w {I J : zI} (a : sM I J) : sV I J := a.1
theorem sV_t {I J H : zI} (a : sV I J) (b : sV J H) : sV I H := fun j hj => (b j hj).trans (a j hj)
theorem L_keep {I0 I : zI} {k lim m p p0 c b : Nat} {wv n : nuN} {z : nuZ} {s : List Va} {l : Nat → Va} {fs : List Frm} {P : zP} {K : zI → zP → Prop} (h : SL I0 k lim wv ((m, p, s, l) :: fs) n z I P) (h16 : I 114 16 = nI p0) (hp0 : p0 < 400) (hp1 : c = 35 → p0 + 1 < 400) (hc0 : I0 (21 + 12 * m) p0 = nI c) (hb0 : c = 35 → I0 (21 + 12 * m) (p0 + 1) = nI b) (hst : stf c b s n) (kk : ∀ J, SL I0 k lim wv ((m, p, s, l) :: fs) n z J P → sK k I J → (∀ kc, stc c b s n kc → kcL kc n J ∧ J 114 14 = kcv kc z) → K J P) : w_X2_keepOld (119 + 3 * fs.length) I P K := by
  obtain ⟨e, hf, hm, -⟩ := L_pl h
  have hk := h.1.1
  have hP := h.1.2.2.1
  have h2 := h.2.2.2.1.1.2.1
  dsimp only at h2
  have m0 := h.2.2.2.2.1.1
  have aux : ∀ x, SL I0 k lim wv ((m, p, s, l) :: fs) n z (zu I 114 13 x) P := fun x => SL_aux h (fun c j a => by rw [zu_ne (by omega)])
  have aux2 : ∀ x y, SL I0 k lim wv ((m, p, s, l) :: fs) n z (zu (zu I 114 13 x) 114 14 y) P := fun x y => SL_aux h (fun c j a => by rw [zu_ne (by omega), zu_ne (by omega)])
  have side : ∀ x y, sK k I (zu (zu I 114 13 x) 114 14 y) := fun x y => ⟨fun j _ h3 h4 => by rw [zu_nj h4, zu_nj h3], fun j _ => by rw [zu_nc (by omega), zu_nc (by omega)]⟩
  unfold w_X2_keepOld
  refine ⟨shF hf, _, h2, shM hm, _, pM1 hP hm, ?_⟩
  rw [h16]
  refine s_byte (shM1 hm) (zzM1 hm) (by decide) hp0 ?_
  rw [L_s0 h (by unfold rcL; omega), hc0]
  rcases hst with ⟨e35, hb⟩ | ⟨e39, y, x, r, t, es, hr⟩
  · subst e35
    refine zip rfl ?_
    rw [h16, nI_1]
    refine s_byte (shM1 hm) (zzM1 hm) (by decide) (hp1 rfl) ?_
    rw [L_s0 h (by unfold rcL; omega), hb0 rfl]
    unfold w_X2_fieldCell
    refine zin (by first | omega | decide | (simp (maxSteps := 400000) (disch := omega) only [q_lit, q_neg, nI_ltI, nI_leI, nI_eq, nI_add, pk_mul, pk_sub, nI_clamp, vp_q, zu_same, zu_nc, zu_nj, ng_lt, ng_le, ng_gt, ng_ge, ng_eq, ng_qe, ng_ee, ng_add, not_false_eq_true, not_true_eq_false, ne_eq]; done) | (simp (maxSteps := 400000) (disch := omega) only [q_lit, q_neg, nI_ltI, nI_leI, nI_eq, nI_add, pk_mul, pk_sub, nI_clamp, vp_q, zu_same, zu_nc, zu_nj, ng_lt, ng_le, ng_gt, ng_ge, ng_eq, ng_qe, ng_ee, ng_add, not_false_eq_true, not_true_eq_false, ne_eq]; omega)) (zin (by first | omega | decide | (simp (maxSteps := 400000) (disch := omega) only [q_lit, q_neg, nI_ltI, nI_leI, nI_eq, nI_add, pk_mul, pk_sub, nI_clamp, vp_q, zu_same, zu_nc, zu_nj, ng_lt, ng_le, ng_gt, ng_ge, ng_eq, ng_qe, ng_ee, ng_add, not_false_eq_true, not_true_eq_false, ne_eq]; done) | (simp (maxSteps := 400000) (disch := omega) only [q_lit, q_neg, nI_ltI, nI_leI, nI_eq, nI_add, pk_mul, pk_sub, nI_clamp, vp_q, zu_same, zu_nc, zu_nj, ng_lt, ng_le, ng_gt, ng_ge, ng_eq, ng_qe, ng_ee, ng_add, not_false_eq_true, not_true_eq_false, ne_eq]; omega)) ?_)
    unfold j_X2_keepOld_52
    have q := L_kc (K := fun v1 I1 P1 => K (zu I1 114 14 v1) P1) (kc := Sum.inl b) (aux (nI b)) ⟨hb, zu_same⟩ (kk _ (aux2 _ _) (side _ _) (fun kc hkc => ?_))
    · rw [zu_same] at q; exact q
    · rcases hkc with ⟨-, ekc⟩ | ⟨e, -⟩
      · subst ekc
        exact ⟨⟨hb, by rw [zu_nj (by omega), zu_same]⟩, zu_same⟩
      · omega
  · subst e39
    subst es
    refine zin (by first | omega | decide | (simp (maxSteps := 400000) (disch := omega) only [q_lit, q_neg, nI_ltI, nI_leI, nI_eq, nI_add, pk_mul, pk_sub, nI_clamp, vp_q, zu_same, zu_nc, zu_nj, ng_lt, ng_le, ng_gt, ng_ge, ng_eq, ng_qe, ng_ee, ng_add, not_false_eq_true, not_true_eq_false, ne_eq]; done) | (simp (maxSteps := 400000) (disch := omega) only [q_lit, q_neg, nI_ltI, nI_leI, nI_eq, nI_add, pk_mul, pk_sub, nI_clamp, vp_q, zu_same, zu_nc, zu_nj, ng_lt, ng_le, ng_gt, ng_ge, ng_eq, ng_qe, ng_ee, ng_add, not_false_eq_true, not_true_eq_false, ne_eq]; omega)) (L_peek (i := 2) h (v := Sum.inr r) rfl (L_peek (i := 1) h (v := Sum.inl x) rfl ?_))
    show w_X2_rowCell (nI r) x I P _
    have m2 := (h.2.2.2.2.1.2.2.1 r hr).1
    refine L_rowc h hr (fun i ei hi => ?_) (fun no => ?_)
    · unfold j_X2_keepOld_52
      have q := L_kc (K := fun v1 I1 P1 => K (zu I1 114 14 v1) P1) (kc := Sum.inr (r, i)) (aux (nI (8 + 50 * r + i))) ⟨hr, hi, zu_same⟩ (kk _ (aux2 _ _) (side _ _) (fun kc hkc => ?_))
      · rw [zu_same] at q; exact q
      · rcases hkc with ⟨e, -⟩ | ⟨-, y', i', r', t', es, hr', hi', ekc⟩
        · omega
        · injection es with _ es
          injection es with ex es
          injection es with er _
          have ex := Sum.inl.inj ex
          obtain rfl : r = r' := Sum.inr.inj er
          have : i = i' := by
            have := ei.symm.trans ex
            exact (nI_eq (by omega) (by omega)).mp this
          subst this
          subst ekc
          exact ⟨⟨hr, hi, by rw [zu_nj (by omega), zu_same]⟩, zu_same⟩
    · unfold j_X2_keepOld_52 w_X2_cellInt
      refine zip (by decide) (kk _ (aux2 _ _) (side _ _) (fun kc hkc => ?_))
      rcases hkc with ⟨e, -⟩ | ⟨-, y', i', r', t', es, hr', hi', ekc⟩
      · omega
      · injection es with _ es
        injection es with ex es
        injection es with er _
        have ex := Sum.inl.inj ex
        obtain rfl : r = r' := Sum.inr.inj er
        exact absurd ex (no i' hi')
theorem M_old {I0 I : zI} {k lim m p q c b : Nat} {n : nuN} {z : nuZ} {s : List Va} {l : Nat → Va} {fs : List Frm} {P : zP} {K : zI → zP → Prop} {x3 : Int32} (hq : q < 24) (hc : c < 256) (h : SM I0 k lim ((m, p, s, l) :: fs) n z I) (hb0 : c = 35 → x3 = nI b) (hst : stf c b s n) (kk : ∀ J, SM I0 k lim ((m, p, s, l) :: fs) n z J → sV I J → (∀ c j, 205 ≤ c ∧ c ≤ 207 → j ≠ q → J c j = I c j) → (∀ kc, stc c b s n kc → kcM kc n q J ∧ J 205 q = kcv kc z) → K J P) : w_X10_old (nI q) (nI c) x3 I P K := by
  have v : vp_in (nI q) 24 := vp_in_nI hq (by decide)
  have m0 := h.2.2.2.2.1.1
  have aux : ∀ x, SM I0 k lim ((m, p, s, l) :: fs) n z (zu I 206 q x) := fun x => SM_aux h (fun c j a b => by rw [zu_ne (by omega)])
  have aux2 : ∀ x y, SM I0 k lim ((m, p, s, l) :: fs) n z (zu (zu I 206 q x) 207 q y) := fun x y => SM_aux h (fun c j a b => by rw [zu_ne (by omega), zu_ne (by omega)])
  have aux3 : ∀ x y w, SM I0 k lim ((m, p, s, l) :: fs) n z (zu (zu (zu I 206 q x) 207 q y) 205 q w) := fun x y w => SM_aux h (fun c j a b => by rw [zu_ne (by omega), zu_ne (by omega), zu_ne (by omega)])
  have side : ∀ x y w, sV I (zu (zu (zu I 206 q x) 207 q y) 205 q w) := fun x y w j _ => by rw [zu_nc (by omega), zu_nc (by omega), zu_nc (by omega)]
  have oth : ∀ x y w c j, 205 ≤ c ∧ c ≤ 207 → j ≠ q → (zu (zu (zu I 206 q x) 207 q y) 205 q w) c j = I c j := fun x y w c j _ hj => by rw [zu_nj hj, zu_nj hj, zu_nj hj]
  unfold w_X10_old
  rcases hst with ⟨e35, hb⟩ | ⟨e39, y, x, r, t, es, hr⟩
  · subst e35
    rw [hb0 rfl]
    refine zip rfl ?_
    unfold j_X10_old_20
    refine ⟨v, zip rfl ?_⟩
    unfold j_X10_old_41
    refine ⟨v, zip rfl ?_⟩
    unfold j_X10_old_79
    rw [nI_clamp (n := q) (by omega)]
    refine zin (by decide) (M_kc (kc := Sum.inl b) hq (aux2 _ _) ⟨hb, by rw [zu_nc (by omega), zu_same], zu_same⟩ ⟨v, kk _ (aux3 _ _ _) (side _ _ _) (oth _ _ _) (fun kc hkc => ?_)⟩)
    rcases hkc with ⟨-, ekc⟩ | ⟨e, -⟩
    · subst ekc
      exact ⟨⟨hb, by rw [zu_nc (by omega), zu_nc (by omega), zu_same], by rw [zu_nc (by omega), zu_same]⟩, zu_same⟩
    · omega
  · subst e39
    subst es
    have m2 := h.2.2.2.2.1.2.2.2.1 r hr
    refine zin (by first | omega | decide | (simp (maxSteps := 400000) (disch := omega) only [q_lit, q_neg, nI_ltI, nI_leI, nI_eq, nI_add, pk_mul, pk_sub, nI_clamp, vp_q, zu_same, zu_nc, zu_nj, ng_lt, ng_le, ng_gt, ng_ge, ng_eq, ng_qe, ng_ee, ng_add, not_false_eq_true, not_true_eq_false, ne_eq]; done) | (simp (maxSteps := 400000) (disch := omega) only [q_lit, q_neg, nI_ltI, nI_leI, nI_eq, nI_add, pk_mul, pk_sub, nI_clamp, vp_q, zu_same, zu_nc, zu_nj, ng_lt, ng_le, ng_gt, ng_ge, ng_eq, ng_qe, ng_ee, ng_add, not_false_eq_true, not_true_eq_false, ne_eq]; omega)) (M_top (i := 2) h (v := Sum.inr r) rfl ?_)
    unfold j_X10_old_20
    rw [mv_r, nI_clamp (n := q) (by omega)]
    refine ⟨v, zin (by first | omega | decide | (simp (maxSteps := 400000) (disch := omega) only [q_lit, q_neg, nI_ltI, nI_leI, nI_eq, nI_add, pk_mul, pk_sub, nI_clamp, vp_q, zu_same, zu_nc, zu_nj, ng_lt, ng_le, ng_gt, ng_ge, ng_eq, ng_qe, ng_ee, ng_add, not_false_eq_true, not_true_eq_false, ne_eq]; done) | (simp (maxSteps := 400000) (disch := omega) only [q_lit, q_neg, nI_ltI, nI_leI, nI_eq, nI_add, pk_mul, pk_sub, nI_clamp, vp_q, zu_same, zu_nc, zu_nj, ng_lt, ng_le, ng_gt, ng_ge, ng_eq, ng_qe, ng_ee, ng_add, not_false_eq_true, not_true_eq_false, ne_eq]; omega)) (M_top (i := 1) (aux _) (v := Sum.inl x) rfl ?_)⟩
    unfold j_X10_old_41
    rw [mv_i, nI_clamp (n := q) (by omega)]
    refine ⟨v, zin (by first | omega | decide | (simp (maxSteps := 400000) (disch := omega) only [q_lit, q_neg, nI_ltI, nI_leI, nI_eq, nI_add, pk_mul, pk_sub, nI_clamp, vp_q, zu_same, zu_nc, zu_nj, ng_lt, ng_le, ng_gt, ng_ge, ng_eq, ng_qe, ng_ee, ng_add, not_false_eq_true, not_true_eq_false, ne_eq]; done) | (simp (maxSteps := 400000) (disch := omega) only [q_lit, q_neg, nI_ltI, nI_leI, nI_eq, nI_add, pk_mul, pk_sub, nI_clamp, vp_q, zu_same, zu_nc, zu_nj, ng_lt, ng_le, ng_gt, ng_ge, ng_eq, ng_qe, ng_ee, ng_add, not_false_eq_true, not_true_eq_false, ne_eq]; omega)) ⟨v, v, ?_⟩⟩
    rw [zu_same, zu_nc (a := 206) (by omega), zu_same, nI_clamp (n := r + 1) (by omega), zu_nc (a := 201) (by omega), zu_nc (a := 201) (by omega), m2.2.1]
    refine ⟨vp_in_nI (by omega) (by decide), M_inr m2.1 (fun i ei hi => zin (by decide) ?_) (fun no => zip rfl ?_)⟩
    · unfold j_X10_old_79
      rw [nI_clamp (n := q) (by omega)]
      refine zin (by decide) (M_kc (kc := Sum.inr (r, i)) hq (aux2 _ _) ⟨hr, hi, by rw [zu_nc (by omega), zu_same], by rw [zu_same]; exact ei⟩ ⟨v, kk _ (aux3 _ _ _) (side _ _ _) (oth _ _ _) (fun kc hkc => ?_)⟩)
      rcases hkc with ⟨e, -⟩ | ⟨-, y', i', r', t', es, hr', hi', ekc⟩
      · omega
      · injection es with _ es
        injection es with ex es
        injection es with er _
        have ex := Sum.inl.inj ex
        obtain rfl : r = r' := Sum.inr.inj er
        have : i = i' := by
          have := ei.symm.trans ex
          exact (nI_eq (by omega) (by omega)).mp this
        subst this
        subst ekc
        exact ⟨⟨hr, hi, by rw [zu_nc (by omega), zu_nc (by omega), zu_same], by rw [zu_nc (by omega), zu_same]; exact ei⟩, zu_same⟩
    · unfold j_X10_old_79
      rw [nI_clamp (n := q) (by omega)]
      refine zip rfl ⟨v, kk _ (aux3 _ _ _) (side _ _ _) (oth _ _ _) (fun kc hkc => ?_)⟩
      rcases hkc with ⟨e, -⟩ | ⟨-, y', i', r', t', es, hr', hi', ekc⟩
      · omega
      · injection es with _ es
        injection es with ex es
        injection es with er _
        have ex := Sum.inl.inj ex
        obtain rfl : r = r' := Sum.inr.inj er
        exact absurd ex (no i' hi')
