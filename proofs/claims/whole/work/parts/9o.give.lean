/-! PURE 74: RUN: the reference's behind; GIVE on both sides -/
theorem M_beh {I0 I : zI} {k lim m p kp : Nat} {n wt : nuN} {B : Nat → Nat → Nat} {z : nuZ} {s : List Va} {l : Nat → Va} {fs : List Frm} {P : zP} {K : zI → zP → Prop} {kc : Kc} {jm ov cv x3 : Int32} {xq : Nat → Int32} {p' : Nat} (h : SM I0 k lim ((m, p', s, l) :: fs) n z I) (hw : WtM I0 k wt m) (hp : PrM I0 B kp) (hle : wt m ≤ kp) (hp4 : p < 1000) (hxq : ∀ q, q < wt m → I0 173 q = xq q) (h4 : ∀ q, q < wt m → atq B m 4 p q → kcM kc n q I ∧ I 205 q = ov ∧ kcv kc z = cv) (h7 : (∃ q, q < wt m ∧ atq B m 7 p q) → ∃ y r, s = Sum.inl y :: r) (h1 : jm = 0 ∨ jm = 1) (hr : n 4 + 60 < 2 ^ 30) (kk : ∀ J, SM I0 k lim ((m, p', (bhT B m p jm ov cv xq (n, z, s) (wt m)).2.2, l) :: fs) (bhT B m p jm ov cv xq (n, z, s) (wt m)).1 (bhT B m p jm ov cv xq (n, z, s) (wt m)).2.1 J → sM I J → K J P) : w_X10_behind (nI m) (nI p) x3 jm I P K := by
  obtain ⟨hf, hm, -, -⟩ := M_pl h
  have wl := hw.1
  unfold w_X10_behind
  refine M_wt hm h hw ?_
  have lp : ∀ d q J, q + d = wt m → SM I0 k lim ((m, p', (bhT B m p jm ov cv xq (n, z, s) q).2.2, l) :: fs) (bhT B m p jm ov cv xq (n, z, s) q).1 (bhT B m p jm ov cv xq (n, z, s) q).2.1 J → sM I J → l_X10_behind_10 K (d + 1) (nI m) (nI p) jm (nI (wt m)) (nI q) J P := by
    intro d
    induction d with
    | zero =>
      intro q J hq hJ g
      obtain rfl : q = wt m := by omega
      rw [l_X10_behind_10]
      exact zip (by first | omega | decide | (simp (maxSteps := 400000) (disch := omega) only [q_lit, q_neg, nI_ltI, nI_leI, nI_eq, nI_add, pk_mul, pk_sub, nI_clamp, vp_q, zu_same, zu_nc, zu_nj, ng_lt, ng_le, ng_gt, ng_ge, ng_eq, ng_qe, ng_ee, ng_add, not_false_eq_true, not_true_eq_false, ne_eq]; done) | (simp (maxSteps := 400000) (disch := omega) only [q_lit, q_neg, nI_ltI, nI_leI, nI_eq, nI_add, pk_mul, pk_sub, nI_clamp, vp_q, zu_same, zu_nc, zu_nj, ng_lt, ng_le, ng_gt, ng_ge, ng_eq, ng_qe, ng_ee, ng_add, not_false_eq_true, not_true_eq_false, ne_eq]; omega)) (kk J hJ g)
    | succ d ih =>
      intro q J hq hJ g
      have hQ := PrM_q hJ hp
      obtain ⟨i1, i2, i3, i4⟩ := bh_i (B := B) (m := m) (p := p) (jm := jm) (ov := ov) (cv := cv) (xq := xq) (t := (n, z, s)) q
      dsimp only at i1 i2 i3 i4
      have q24 : q < 24 := by omega
      have st1 : ∀ J2, SM I0 k lim ((m, p', (bhT B m p jm ov cv xq (n, z, s) (q + 1)).2.2, l) :: fs) (bhT B m p jm ov cv xq (n, z, s) (q + 1)).1 (bhT B m p jm ov cv xq (n, z, s) (q + 1)).2.1 J2 → sM I J2 → ¬ atq B m 1 p q → j_X10_behind_58 (l_X10_behind_10 K (d + 1)) K (nI m) (nI p) jm (nI (wt m)) (nI q) J2 P := fun J2 hJ2 g2 n1 => by
        unfold j_X10_behind_58
        rw [nI_1]
        exact M_sd (s := 1) (PrM_q hJ2 hp) hp.2 (by omega) (by omega) (by omega) (by decide) (by omega) (by omega) (fun y => absurd y n1) (fun _ => zip rfl (ih (q + 1) J2 (by omega) hJ2 g2))
      have st7 : ∀ J2, SM I0 k lim ((m, p', (bhT B m p jm ov cv xq (n, z, s) (q + 1)).2.2, l) :: fs) (bhT B m p jm ov cv xq (n, z, s) (q + 1)).1 (bhT B m p jm ov cv xq (n, z, s) (q + 1)).2.1 J2 → sM I J2 → ¬ atq B m 1 p q → ¬ atq B m 7 p q → j_X10_behind_37 (l_X10_behind_10 K (d + 1)) K (nI m) (nI p) jm (nI (wt m)) (nI q) J2 P := fun J2 hJ2 g2 n1 n7 => by
        unfold j_X10_behind_37
        exact M_sd (s := 7) (PrM_q hJ2 hp) hp.2 (by omega) (by omega) (by omega) (by decide) (by omega) (by omega) (fun y => absurd y n7) (fun _ => zip rfl (st1 J2 hJ2 g2 n1))
      rw [l_X10_behind_10]
      refine zin (by first | omega | decide | (simp (maxSteps := 400000) (disch := omega) only [q_lit, q_neg, nI_ltI, nI_leI, nI_eq, nI_add, pk_mul, pk_sub, nI_clamp, vp_q, zu_same, zu_nc, zu_nj, ng_lt, ng_le, ng_gt, ng_ge, ng_eq, ng_qe, ng_ee, ng_add, not_false_eq_true, not_true_eq_false, ne_eq]; done) | (simp (maxSteps := 400000) (disch := omega) only [q_lit, q_neg, nI_ltI, nI_leI, nI_eq, nI_add, pk_mul, pk_sub, nI_clamp, vp_q, zu_same, zu_nc, zu_nj, ng_lt, ng_le, ng_gt, ng_ge, ng_eq, ng_qe, ng_ee, ng_add, not_false_eq_true, not_true_eq_false, ne_eq]; omega)) (M_sd (s := 4) hQ hp.2 (by omega) (by omega) (by omega) (by decide) (by omega) (by omega) (fun y => zin (by decide) ?_) (fun y => zip rfl ?_))
      · obtain ⟨k1, k2, k3⟩ := h4 q (by omega) y
        refine M_ns (ov := ov) (cv := cv) (kc := kc) q24 hJ (kcM_c k1 i3 g.2) (by rw [g.2 _ _ (by omega)]; exact k2) (by rw [kcv_c i4]; exact k3) (by omega) (fun J2 hJ2 g2 => st7 J2 ?_ (sM_t g g2) (fun w => by have := y.1.symm.trans w.1; omega) (fun w => by have := y.1.symm.trans w.1; omega))
        rw [bhT, if_pos y]; exact hJ2
      · unfold j_X10_behind_37
        refine M_sd (s := 7) hQ hp.2 (by omega) (by omega) (by omega) (by decide) (by omega) (by omega) (fun y7 => zin (by decide) ?_) (fun y7 => zip rfl ?_)
        · obtain ⟨y0, r, ey, -⟩ := bh_s (B := B) (m := m) (p := p) (jm := jm) (ov := ov) (cv := cv) (xq := xq) (t := (n, z, s)) (h7 ⟨q, by omega, y7⟩) q
          have hJ' := hJ
          rw [ey] at hJ'
          refine M_rp q24 hJ' (hxq q (by omega)) (by omega) (fun J2 hJ2 g2 => st1 J2 ?_ (sM_t g g2) (fun w => by have := y7.1.symm.trans w.1; omega))
          rw [bhT, if_neg y, if_pos y7, ey]; exact hJ2
        · unfold j_X10_behind_58
          rw [nI_1]
          refine M_sd (s := 1) hQ hp.2 (by omega) (by omega) (by omega) (by decide) (by omega) (by omega) (fun y1 => zin (by decide) ?_) (fun y1 => zip rfl (ih (q + 1) J (by omega) ?_ g))
          · have nx : ∀ J2, SM I0 k lim ((m, p', (bhT B m p jm ov cv xq (n, z, s) q).2.2, l) :: fs) (rcN (bhT B m p jm ov cv xq (n, z, s) q).1) (rcZ (bhT B m p jm ov cv xq (n, z, s) q).1 (bhT B m p jm ov cv xq (n, z, s) q).2.1 q jm) J2 → sM J J2 → l_X10_behind_10 K (d + 1) (nI m) (nI p) jm (nI (wt m)) (nI (q + 1)) J2 P := fun J2 hJ2 g2 => ih (q + 1) J2 (by omega) (by rw [bhT, if_neg y, if_neg y7, if_pos y1]; exact hJ2) (sM_t g g2)
            rcases h1 with rfl | rfl
            · exact zip rfl (M_rcs hJ (by omega) nx)
            · exact zin (by decide) (M_rcs hJ (by omega) nx)
          · rw [bhT, if_neg y, if_neg y7, if_neg y1]; exact hJ
  exact ⟨_, lp (wt m) 0 I (by omega) h sM_r⟩
/-- the last FRAME gives -/
theorem Lo_give0 {I0 I : zI} {k lim m p : Nat} {wv n : nuN} {z : nuZ} {r : List Va} {l : Nat → Va} {P : zP} {K : zI → zP → Prop} {x : Int32} (h : SL I0 k lim wv [(m, p, Sum.inl x :: r, l)] n z I P) (kk : ∀ J, SL I0 k lim wv [] n z J P → (∀ j, 10 ≤ j → J 114 j = I 114 j) → J (93 + 5 * k) 4 = 0 → J (93 + 5 * k) 5 = x → J (93 + 5 * k) 9 = I (93 + 5 * k) 9 → J (93 + 5 * k) 10 = I (93 + 5 * k) 10 → K J P) : w_X2_doGive 119 I P K := by
  have hk := h.1.1
  unfold w_X2_doGive
  refine ⟨shF (m := 0) (by decide), L_pop (fs := []) h (fun J hJ g => ?_)⟩
  have h9 := hJ.2.2.1
  have e1 : J 114 9 - 1 = 0 := by rw [h9]; show nI 1 - 1 = 0; decide
  have g' := sL_f (f := 0) hk g
  rw [e1]
  refine zip (by decide) ?_
  unfold j_X2_doGive_32
  have y6 := hJ.1.2.2.2.1
  refine ⟨_, y6, shT hk, _, y6, shT hk, ?_⟩
  have hD := SL_drop hJ
  obtain ⟨d1, d2, d3, d4, d5, d6⟩ := hD
  have G : ∀ c j, ¬ (c = 93 + 5 * k ∧ (j = 4 ∨ j = 5)) → zu (zu (zu J 114 9 0) (93 + 5 * k) 4 0) (93 + 5 * k) 5 (lv (Sum.inl x)) c j = zu J 114 9 (nI ([] : List Frm).length) c j := fun c j a => by rw [zu_ne (by omega), zu_ne (by omega)]; rfl
  refine kk _ ⟨ScL_c d1 (fun c j a => G c j (by unfold rcL at a; omega)), d2, by rw [G _ _ (by omega)]; exact d3, trivial, MmL_c d5 (fun c j a => G c j (by omega)), ?_⟩ (fun j q => ?_) ?_ ?_ ?_ ?_
  · obtain ⟨t1, t2, t3, t4, t5, t6, t7, t8, t9, t10, t11⟩ := d6
    exact ⟨t1, t2, t3, t4, by rw [G _ _ (by omega)]; exact t5, by rw [G _ _ (by omega)]; exact t6, by rw [G _ _ (by omega)]; exact t7, by rw [G _ _ (by omega)]; exact t8, by rw [G _ _ (by omega)]; exact t9, fun i hi => by rw [G _ _ (by omega)]; exact t10 i hi, fun i hi h => by rw [G _ _ (by omega), G _ _ (by omega)]; exact t11 i hi h⟩
  · rw [G _ _ (by omega), zu_nj (by omega)]; exact g'.1 j q
  · rw [zu_nj (by omega), zu_same]
  · rw [zu_same]; rfl
  · rw [G _ _ (by omega), zu_nc (by omega)]; exact g'.2 9 (by omega)
  · rw [G _ _ (by omega), zu_nc (by omega)]; exact g'.2 10 (by omega)
theorem Mo_give0 {I0 I : zI} {k lim m p : Nat} {n : nuN} {z : nuZ} {r : List Va} {l : Nat → Va} {P : zP} {K : zI → zP → Prop} {x : Int32} (h : SM I0 k lim [(m, p, Sum.inl x :: r, l)] n z I) (kk : ∀ J, SM I0 k lim [] n z J → J 155 52 = 0 → J 155 68 = x → (∀ j, j = 65 ∨ j = 66 ∨ j = 67 → J 155 j = I 155 j) → K J P) : w_X10_gives I P K := by
  unfold w_X10_gives
  refine M_take h (fun J hJ g => ?_)
  obtain ⟨-, e1⟩ := M_f1 hJ
  rw [e1]
  have g' := sM_f g
  refine zip rfl (kk _ (SM_aux (SM_drop hJ) (fun c j a b => ?_)) zu_same ?_ (fun j q => ?_))
  · rw [zu_ne (by omega), zu_ne (by omega)]
  · rw [zu_nj (by omega), zu_same]; rfl
  · rw [zu_nj (by omega), zu_nj (by omega), zu_nj (by omega)]; exact g'.1 j (by omega)
/-- another FRAME gives to its caller -/
theorem Lo_give {I0 I : zI} {k lim m p mc pc : Nat} {wv n : nuN} {z : nuZ} {r sc : List Va} {l lc : Nat → Va} {fs : List Frm} {P : zP} {K : zI → zP → Prop} {x : Int32} (h : SL I0 k lim wv ((m, p, Sum.inl x :: r, l) :: (mc, pc, sc, lc) :: fs) n z I P) (hs : sc.length < 10) (kk : ∀ J, SL I0 k lim wv ((mc, pc, Sum.inl x :: sc, lc) :: fs) n z J P → sL k I J → w_X2_passBehind (119 + 3 * fs.length) J P (fun I10 P10 => w_X9_fixedSize 40 I10 P10 (fun v11 I11 P11 => K (zu I11 (119 + 3 * fs.length) 5 (I10 (119 + 3 * fs.length) 5 + v11)) P11))) : w_X2_doGive (119 + 3 * (fs.length + 1)) I P K := by
  have hk := h.1.1
  have h12 := h.2.1
  rw [List.length_cons, List.length_cons] at h12
  unfold w_X2_doGive
  refine ⟨shF (by omega), L_pop (fs := (mc, pc, sc, lc) :: fs) h (fun J hJ g => ?_)⟩
  have h9 := hJ.2.2.1
  rw [List.length_cons, List.length_cons] at h9
  have e1 : J 114 9 - 1 = nI (fs.length + 1) := by rw [h9, ← nq1, pk_sub (by omega)]; rfl
  have e2 : nI (fs.length + 1) - 1 = nI fs.length := by rw [← nq1, pk_sub (by omega)]; rfl
  have g' := sL_f (f := fs.length + 1) hk g
  rw [e1, e2, nI_clamp (by omega)]
  refine zin (by first | omega | decide | (simp (maxSteps := 400000) (disch := omega) only [q_lit, q_neg, nI_ltI, nI_leI, nI_eq, nI_add, pk_mul, pk_sub, nI_clamp, vp_q, zu_same, zu_nc, zu_nj, ng_lt, ng_le, ng_gt, ng_ge, ng_eq, ng_qe, ng_ee, ng_add, not_false_eq_true, not_true_eq_false, ne_eq]; done) | (simp (maxSteps := 400000) (disch := omega) only [q_lit, q_neg, nI_ltI, nI_leI, nI_eq, nI_add, pk_mul, pk_sub, nI_clamp, vp_q, zu_same, zu_nc, zu_nj, ng_lt, ng_le, ng_gt, ng_ge, ng_eq, ng_qe, ng_ee, ng_add, not_false_eq_true, not_true_eq_false, ne_eq]; omega)) (zip (by first | omega | decide | (simp (maxSteps := 400000) (disch := omega) only [q_lit, q_neg, nI_ltI, nI_leI, nI_eq, nI_add, pk_mul, pk_sub, nI_clamp, vp_q, zu_same, zu_nc, zu_nj, ng_lt, ng_le, ng_gt, ng_ge, ng_eq, ng_qe, ng_ee, ng_add, not_false_eq_true, not_true_eq_false, ne_eq]; done) | (simp (maxSteps := 400000) (disch := omega) only [q_lit, q_neg, nI_ltI, nI_leI, nI_eq, nI_add, pk_mul, pk_sub, nI_clamp, vp_q, zu_same, zu_nc, zu_nj, ng_lt, ng_le, ng_gt, ng_ge, ng_eq, ng_qe, ng_ee, ng_add, not_false_eq_true, not_true_eq_false, ne_eq]; omega)) ⟨vp_in_nI (by omega) (by decide), _, pF hJ.1.2.2.1 (by omega), shF (by omega), ?_⟩)
  have hD : SL I0 k lim wv ((mc, pc, sc, lc) :: fs) n z (zu J 114 9 (nI (fs.length + 1))) P := SL_drop hJ
  exact L_push (v := Sum.inl x) hD hs rfl (fun J2 hJ2 g2 => kk J2 hJ2 (sL_t g' (sL_t ⟨fun j q => zu_nj (by omega), fun j q => zu_nc (by omega)⟩ (sL_f hk g2))))
theorem Mo_give {I0 I : zI} {k lim m p mc pc : Nat} {n : nuN} {z : nuZ} {r sc : List Va} {l lc : Nat → Va} {fs : List Frm} {P : zP} {K : zI → zP → Prop} {x : Int32} (h : SM I0 k lim ((m, p, Sum.inl x :: r, l) :: (mc, pc, sc, lc) :: fs) n z I) (hs : sc.length < 10) (hpc : pc + 2 < 1000) (kk : ∀ J, SM I0 k lim ((mc, pc + 2, Sum.inl x :: sc, lc) :: fs) n z J → sM I J → w_X10_behind (nI mc) (nI pc) 40 0 J P (fun I7 P7 => K I7 P7)) : w_X10_gives I P K := by
  unfold w_X10_gives
  refine M_take h (fun J hJ g => ?_)
  obtain ⟨hf1, e1⟩ := M_f1 hJ
  rw [List.length_cons] at hf1 e1
  have e2 : nI (fs.length + 1) - 1 = nI fs.length := by rw [← nq1, pk_sub (by omega)]; rfl
  have hD : SM I0 k lim ((mc, pc, sc, lc) :: fs) n z (zu J 155 54 (nI (fs.length + 1))) := SM_drop hJ
  obtain ⟨q1, q2, q3, -⟩ := hD.2.2.2.1.1
  dsimp only at q2 q3
  rw [e1, e2, nI_clamp (by omega), q2, q3]
  have v : vp_in (nI fs.length) 12 := vp_in_nI (by omega) (by decide)
  refine zin (by first | omega | decide | (simp (maxSteps := 400000) (disch := omega) only [q_lit, q_neg, nI_ltI, nI_leI, nI_eq, nI_add, pk_mul, pk_sub, nI_clamp, vp_q, zu_same, zu_nc, zu_nj, ng_lt, ng_le, ng_gt, ng_ge, ng_eq, ng_qe, ng_ee, ng_add, not_false_eq_true, not_true_eq_false, ne_eq]; done) | (simp (maxSteps := 400000) (disch := omega) only [q_lit, q_neg, nI_ltI, nI_leI, nI_eq, nI_add, pk_mul, pk_sub, nI_clamp, vp_q, zu_same, zu_nc, zu_nj, ng_lt, ng_le, ng_gt, ng_ge, ng_eq, ng_qe, ng_ee, ng_add, not_false_eq_true, not_true_eq_false, ne_eq]; omega)) ⟨v, v, M_give (v := Sum.inl x) hD hs rfl (fun J2 hJ2 g2 => ?_)⟩
  obtain ⟨-, e3⟩ := M_f1 hJ2
  rw [e3, nI_clamp (by omega), ← nq2, nI_add]
  exact ⟨v, kk _ (M_place hJ2 hpc) (sM_t (sM_f g) (sM_t ⟨fun j q => zu_nj (by omega), fun c j q => zu_nc (by omega)⟩ (sM_t (sM_f g2) ⟨fun j _ => zu_nc (by omega), fun c j _ => zu_nc (by omega)⟩)))⟩
