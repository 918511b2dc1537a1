/-! PURE 76: RUN: the loops of PASS and FAULT, on both sides -/
theorem L_ah {I0 I : zI} {k lim m p kp op : Nat} {wv n wt X Y : nuN} {B : Nat → Nat → Nat} {z : nuZ} {s : List Va} {l : Nat → Va} {fs : List Frm} {P : zP} {K : zI → zP → Prop} (h : SL I0 k lim wv ((m, p, s, l) :: fs) n z I P) (e2 : k = 2) (e5 : ¬ I0 (26 + 12 * m) 5 = 0) (h10 : I 114 10 = 0) (hn0 : I0 (20 + 12 * m) 0 = nI m) (hw : WtL I0 k wt m) (hp : PrL I0 B kp) (hle : wt m ≤ kp) (hp4 : p < 400) (hX : ∀ q, q < wt m → B 0 q = 6 → I0 112 q = nI (X q) ∧ X q ≤ 1000 ∧ I0 113 q = nI (Y q) ∧ 1 ≤ Y q ∧ Y q ≤ 100) (hb : ∀ q, q < 24 → n (50 + q) < 2 ^ 30) (hr : n 4 + 60 < 2 ^ 30) (kf : ∀ q, q < wt m → fires B m p X (n, z) q → (∀ i, i < q → ¬ fires B m p X (n, z) i) → ∀ J, SL I0 k lim wv ((m, p, s, l) :: fs) (apT B m p (n, z) (q + 1)).1 (apT B m p (n, z) (q + 1)).2 J P → tL k m (nI (Y q)) I J → K J P) (kn : (∀ i, i < wt m → ¬ fires B m p X (n, z) i) → ∀ J, SL I0 k lim wv ((m, p, s, l) :: fs) (apT B m p (n, z) (wt m)).1 (apT B m p (n, z) (wt m)).2 J P → sL k I J → j_X2_passAhead_93 K (119 + 3 * fs.length) (nI op) J P) : w_X2_passAhead (119 + 3 * fs.length) (nI op) I P K := by
  obtain ⟨e, hf, hm, -⟩ := L_pl h
  have hk := h.1.1
  have hP := h.1.2.2.1
  have wl := hw.1
  have thr : ∀ J q d, q < wt m → J 114 10 = nI (Y q) → 1 ≤ Y q → Y q ≤ 100 → SL I0 k lim wv ((m, p, s, l) :: fs) (apT B m p (n, z) (q + 1)).1 (apT B m p (n, z) (q + 1)).2 J P → K J P → ∀ x, l_X2_passAhead_2 K (d + 1) (119 + 3 * fs.length) (nI op) x J P := fun J q d hq y10 y1 y2 hJ kJ x => by
    have h2 := hJ.2.2.2.1.1.2.1
    dsimp only at h2
    have n0 : ¬ J 114 10 = 0 := by rw [y10]; first | omega | decide | (simp (maxSteps := 400000) (disch := omega) only [q_lit, q_neg, nI_ltI, nI_leI, nI_eq, nI_add, pk_mul, pk_sub, nI_clamp, vp_q, zu_same, zu_nc, zu_nj, ng_lt, ng_le, ng_gt, ng_ge, ng_eq, ng_qe, ng_ee, ng_add, not_false_eq_true, not_true_eq_false, ne_eq]; done) | (simp (maxSteps := 400000) (disch := omega) only [q_lit, q_neg, nI_ltI, nI_leI, nI_eq, nI_add, pk_mul, pk_sub, nI_clamp, vp_q, zu_same, zu_nc, zu_nj, ng_lt, ng_le, ng_gt, ng_ge, ng_eq, ng_qe, ng_ee, ng_add, not_false_eq_true, not_true_eq_false, ne_eq]; omega)
    have j93 : j_X2_passAhead_93 K (119 + 3 * fs.length) (nI op) J P := by
      unfold j_X2_passAhead_93
      exact zin n0 kJ
    rw [l_X2_passAhead_2]
    refine ⟨shF hf, _, h2, shM hm, _, pM6 hP hm, shW hm, ?_⟩
    by_cases q1 : J (26 + 12 * m) 10 ≤ x
    · exact zip q1 j93
    · exact zin q1 (zin n0 j93)
  have lp : ∀ d q J, q + d = wt m → (∀ i, i < q → ¬ fires B m p X (n, z) i) → SL I0 k lim wv ((m, p, s, l) :: fs) (apT B m p (n, z) q).1 (apT B m p (n, z) q).2 J P → sL k I J → l_X2_passAhead_2 K (d + 1) (119 + 3 * fs.length) (nI op) (nI q) J P := by
    intro d
    induction d with
    | zero =>
      intro q J hq no hJ g
      obtain rfl : q = wt m := by omega
      have h2 := hJ.2.2.2.1.1.2.1
      dsimp only at h2
      rw [l_X2_passAhead_2]
      refine ⟨shF hf, _, h2, shM hm, _, pM6 hP hm, shW hm, zip ?_ (kn no J hJ g)⟩
      rw [L_s0 hJ (by unfold rcL; omega), hw.2.1 e2 e5]; first | omega | decide | (simp (maxSteps := 400000) (disch := omega) only [q_lit, q_neg, nI_ltI, nI_leI, nI_eq, nI_add, pk_mul, pk_sub, nI_clamp, vp_q, zu_same, zu_nc, zu_nj, ng_lt, ng_le, ng_gt, ng_ge, ng_eq, ng_qe, ng_ee, ng_add, not_false_eq_true, not_true_eq_false, ne_eq]; done) | (simp (maxSteps := 400000) (disch := omega) only [q_lit, q_neg, nI_ltI, nI_leI, nI_eq, nI_add, pk_mul, pk_sub, nI_clamp, vp_q, zu_same, zu_nc, zu_nj, ng_lt, ng_le, ng_gt, ng_ge, ng_eq, ng_qe, ng_ee, ng_add, not_false_eq_true, not_true_eq_false, ne_eq]; omega)
    | succ d ih =>
      intro q J hq no hJ g
      have h2 := hJ.2.2.2.1.1.2.1
      dsimp only at h2
      have hQ := PrL_q hJ hp
      obtain ⟨b0, b1, b2⟩ := hp.2 q (by omega)
      obtain ⟨i1, i2, i3, i4, i5, i6⟩ := ap_i (B := B) (m := m) (p := p) (t := (n, z)) q
      dsimp only at i1 i2 i3 i4 i5 i6
      obtain ⟨e', -, -, -⟩ := L_pl hJ
      have ext : ¬ fires B m p X (n, z) q → ∀ i, i < q + 1 → ¬ fires B m p X (n, z) i := fun y i hi => by
        by_cases ei : i = q
        · rw [ei]; exact y
        · exact no i (by omega)
      have skip : ¬ atq B m 0 p q → ¬ atq B m 6 p q → l_X2_passAhead_2 K (d + 1) (119 + 3 * fs.length) (nI op) (nI (q + 1)) J P := fun n0 n6 => ih (q + 1) J (by omega) (ext (fun y => n6 y.1)) (by rw [apT, if_neg n0, if_neg n6]; exact hJ) g
      rw [l_X2_passAhead_2, nI_1]
      refine ⟨shF hf, _, h2, shM hm, _, pM6 hP hm, shW hm, zin ?_ (zip (by rw [g.1 10 (by omega)]; exact h10) ⟨_, h2, shM hm, ?_⟩)⟩
      · rw [L_s0 hJ (by unfold rcL; omega), hw.2.1 e2 e5]; first | omega | decide | (simp (maxSteps := 400000) (disch := omega) only [q_lit, q_neg, nI_ltI, nI_leI, nI_eq, nI_add, pk_mul, pk_sub, nI_clamp, vp_q, zu_same, zu_nc, zu_nj, ng_lt, ng_le, ng_gt, ng_ge, ng_eq, ng_qe, ng_ee, ng_add, not_false_eq_true, not_true_eq_false, ne_eq]; done) | (simp (maxSteps := 400000) (disch := omega) only [q_lit, q_neg, nI_ltI, nI_leI, nI_eq, nI_add, pk_mul, pk_sub, nI_clamp, vp_q, zu_same, zu_nc, zu_nj, ng_lt, ng_le, ng_gt, ng_ge, ng_eq, ng_qe, ng_ee, ng_add, not_false_eq_true, not_true_eq_false, ne_eq]; omega)
      rw [L_s0 hJ (c := 20 + 12 * m) (by unfold rcL; omega), hn0, e']
      refine s_at hQ (by omega) (by omega) (by omega) (by omega) (by omega) (fun y1 y2 => zin (by decide) (s_so hQ (by omega) ?_)) (fun y => zip rfl (skip (fun w => y w.2) (fun w => y w.2)))
      by_cases s0 : B 0 q = 0
      · refine zip (by rw [s0]; rfl) ⟨_, hJ.1.2.2.2.1, shT hk, L_rcs (q := q) (x := 0) hJ (by omega) (fun J2 hJ2 g2 => ih (q + 1) J2 (by omega) (ext (fun y => by have := y.1.1; omega)) ?_ (sL_t g g2))⟩
        rw [apT, if_pos ⟨s0, y1, y2⟩]; exact hJ2
      · refine zin (by first | omega | decide | (simp (maxSteps := 400000) (disch := omega) only [q_lit, q_neg, nI_ltI, nI_leI, nI_eq, nI_add, pk_mul, pk_sub, nI_clamp, vp_q, zu_same, zu_nc, zu_nj, ng_lt, ng_le, ng_gt, ng_ge, ng_eq, ng_qe, ng_ee, ng_add, not_false_eq_true, not_true_eq_false, ne_eq]; done) | (simp (maxSteps := 400000) (disch := omega) only [q_lit, q_neg, nI_ltI, nI_leI, nI_eq, nI_add, pk_mul, pk_sub, nI_clamp, vp_q, zu_same, zu_nc, zu_nj, ng_lt, ng_le, ng_gt, ng_ge, ng_eq, ng_qe, ng_ee, ng_add, not_false_eq_true, not_true_eq_false, ne_eq]; omega)) (s_so hQ (by omega) ?_)
        by_cases s6 : B 0 q = 6
        · obtain ⟨x1, x2, x3, x4, x5⟩ := hX q (by omega) s6
          have b50 := i4 (50 + q) (Nat.le_refl _)
          have bb := hb q (by omega)
          have ea : apT B m p (n, z) (q + 1) = (up1 (apT B m p (n, z) q).1 (50 + q) ((apT B m p (n, z) q).1 (50 + q) + 1), (apT B m p (n, z) q).2) := by rw [apT, if_neg (fun y => s0 y.1), if_pos ⟨s6, y1, y2⟩]
          refine zip (by rw [s6]; rfl) (L_pf (X := X q) (Y := Y q) (by omega) hJ hn0 x1 x2 x3 (by rw [b50]; exact bb) (fun ef J2 hJ2 t => ?_) (fun ef J2 hJ2 g2 => ih (q + 1) J2 (by omega) (ext (fun y => ef (by rw [b50]; exact y.2))) (by rw [ea]; exact hJ2) (sL_t g g2)))
          have fq : fires B m p X (n, z) q := ⟨⟨s6, y1, y2⟩, by rw [b50] at ef; exact ef⟩
          have hJ3 : SL I0 k lim wv ((m, p, s, l) :: fs) (apT B m p (n, z) (q + 1)).1 (apT B m p (n, z) (q + 1)).2 J2 P := by rw [ea]; exact hJ2
          exact thr J2 q d (by omega) t.1 x4 x5 hJ3 (kf q (by omega) fq no J2 hJ3 (tL_s g t)) _
        · exact zin (by first | omega | decide | (simp (maxSteps := 400000) (disch := omega) only [q_lit, q_neg, nI_ltI, nI_leI, nI_eq, nI_add, pk_mul, pk_sub, nI_clamp, vp_q, zu_same, zu_nc, zu_nj, ng_lt, ng_le, ng_gt, ng_ge, ng_eq, ng_qe, ng_ee, ng_add, not_false_eq_true, not_true_eq_false, ne_eq]; done) | (simp (maxSteps := 400000) (disch := omega) only [q_lit, q_neg, nI_ltI, nI_leI, nI_eq, nI_add, pk_mul, pk_sub, nI_clamp, vp_q, zu_same, zu_nc, zu_nj, ng_lt, ng_le, ng_gt, ng_ge, ng_eq, ng_qe, ng_ee, ng_add, not_false_eq_true, not_true_eq_false, ne_eq]; omega)) (skip (fun w => s0 w.1) (fun w => s6 w.1))
  exact ⟨_, lp (wt m) 0 I (by omega) (fun i hi => absurd hi (by omega)) h sL_r⟩
theorem M_ah {I0 I : zI} {k lim m p kp op : Nat} {n wt X Y : nuN} {B : Nat → Nat → Nat} {z : nuZ} {s : List Va} {l : Nat → Va} {fs : List Frm} {P : zP} {K : Int32 → zI → zP → Prop} (h : SM I0 k lim ((m, p, s, l) :: fs) n z I) (hw : WtM I0 k wt m) (hp : PrM I0 B kp) (hle : wt m ≤ kp) (hX : ∀ q, q < wt m → B 0 q = 6 → I0 173 q = nI (X q) ∧ X q ≤ 1000 ∧ I0 174 q = nI (Y q)) (hb : ∀ q, q < 24 → n (50 + q) < 2 ^ 30) (hr : n 4 + 60 < 2 ^ 30) (kf : ∀ q, q < wt m → fires B m p X (n, z) q → (∀ i, i < q → ¬ fires B m p X (n, z) i) → ∀ J, SM I0 k lim ((m, p, s, l) :: fs) (apT B m p (n, z) (q + 1)).1 (apT B m p (n, z) (q + 1)).2 J → J 155 65 = nI (Y q) → J 155 66 = nI m → J 155 67 = nI p → J 155 52 = I 155 52 → J 155 68 = I 155 68 → w_X10_isThrown J P (fun I6 P6 => K 1 I6 P6)) (kn : (∀ i, i < wt m → ¬ fires B m p X (n, z) i) → ∀ J, SM I0 k lim ((m, p, s, l) :: fs) (apT B m p (n, z) (wt m)).1 (apT B m p (n, z) (wt m)).2 J → sM I J → ∃ n9, l_X10_ahead_98 K n9 (nI m) (nI p) (nI op) (nI (wt m)) 0 J P) : w_X10_ahead (nI m) (nI p) (nI op) I P K := by
  obtain ⟨hf, hm, hp4, -⟩ := M_pl h
  have wl := hw.1
  unfold w_X10_ahead
  refine M_wt hm h hw ?_
  have lp : ∀ d q J, q + d = wt m → (∀ i, i < q → ¬ fires B m p X (n, z) i) → SM I0 k lim ((m, p, s, l) :: fs) (apT B m p (n, z) q).1 (apT B m p (n, z) q).2 J → sM I J → l_X10_ahead_10 K (d + 1) (nI m) (nI p) (nI op) (nI (wt m)) (nI q) J P := by
    intro d
    induction d with
    | zero =>
      intro q J hq no hJ g
      obtain rfl : q = wt m := by omega
      rw [l_X10_ahead_10]
      exact zip (by first | omega | decide | (simp (maxSteps := 400000) (disch := omega) only [q_lit, q_neg, nI_ltI, nI_leI, nI_eq, nI_add, pk_mul, pk_sub, nI_clamp, vp_q, zu_same, zu_nc, zu_nj, ng_lt, ng_le, ng_gt, ng_ge, ng_eq, ng_qe, ng_ee, ng_add, not_false_eq_true, not_true_eq_false, ne_eq]; done) | (simp (maxSteps := 400000) (disch := omega) only [q_lit, q_neg, nI_ltI, nI_leI, nI_eq, nI_add, pk_mul, pk_sub, nI_clamp, vp_q, zu_same, zu_nc, zu_nj, ng_lt, ng_le, ng_gt, ng_ge, ng_eq, ng_qe, ng_ee, ng_add, not_false_eq_true, not_true_eq_false, ne_eq]; omega)) (kn no J hJ g)
    | succ d ih =>
      intro q J hq no hJ g
      have hQ := PrM_q hJ hp
      obtain ⟨i1, i2, i3, i4, i5, i6⟩ := ap_i (B := B) (m := m) (p := p) (t := (n, z)) q
      dsimp only at i1 i2 i3 i4 i5 i6
      have q24 : q < 24 := by omega
      have ext : ¬ fires B m p X (n, z) q → ∀ i, i < q + 1 → ¬ fires B m p X (n, z) i := fun y i hi => by
        by_cases ei : i = q
        · rw [ei]; exact y
        · exact no i (by omega)
      rw [l_X10_ahead_10]
      refine zin (by first | omega | decide | (simp (maxSteps := 400000) (disch := omega) only [q_lit, q_neg, nI_ltI, nI_leI, nI_eq, nI_add, pk_mul, pk_sub, nI_clamp, vp_q, zu_same, zu_nc, zu_nj, ng_lt, ng_le, ng_gt, ng_ge, ng_eq, ng_qe, ng_ee, ng_add, not_false_eq_true, not_true_eq_false, ne_eq]; done) | (simp (maxSteps := 400000) (disch := omega) only [q_lit, q_neg, nI_ltI, nI_leI, nI_eq, nI_add, pk_mul, pk_sub, nI_clamp, vp_q, zu_same, zu_nc, zu_nj, ng_lt, ng_le, ng_gt, ng_ge, ng_eq, ng_qe, ng_ee, ng_add, not_false_eq_true, not_true_eq_false, ne_eq]; omega)) (M_sd (s := 0) hQ hp.2 (by omega) (by omega) (by omega) (by decide) (by omega) (by omega) (fun y => zin (by decide) (M_rcs (q := q) (x := 0) hJ (by omega) (fun J2 hJ2 g2 => ?_))) (fun y => zip rfl ?_))
      · unfold j_X10_ahead_38
        rw [nI_1]
        refine M_sd (s := 6) (PrM_q hJ2 hp) hp.2 (by omega) (by omega) (by omega) (by decide) (by omega) (by omega) (fun w => by have := y.1.symm.trans w.1; omega) (fun w => zip rfl (ih (q + 1) J2 (by omega) (ext (fun v => w v.1)) ?_ (sM_t g g2)))
        rw [apT, if_pos y]; exact hJ2
      · unfold j_X10_ahead_38
        rw [nI_1]
        refine M_sd (s := 6) hQ hp.2 (by omega) (by omega) (by omega) (by decide) (by omega) (by omega) (fun y6 => zin (by decide) ?_) (fun y6 => zip rfl (ih (q + 1) J (by omega) (ext (fun v => y6 v.1)) (by rw [apT, if_neg y, if_neg y6]; exact hJ) g))
        obtain ⟨x1, x2, x3⟩ := hX q (by omega) y6.1
        have b50 := i4 (50 + q) (Nat.le_refl _)
        have bb := hb q q24
        have ea : apT B m p (n, z) (q + 1) = (up1 (apT B m p (n, z) q).1 (50 + q) ((apT B m p (n, z) q).1 (50 + q) + 1), (apT B m p (n, z) q).2) := by rw [apT, if_neg y, if_pos y6]
        refine M_pf (X := X q) q24 hJ x1 x2 (by rw [b50]; exact bb) (fun ef J2 hJ2 g2 => zin (by decide) ⟨vp_in_nI q24 (by decide), ?_⟩) (fun ef J2 hJ2 g2 => zip rfl (ih (q + 1) J2 (by omega) (ext (fun v => ef (by rw [b50]; exact v.2))) (by rw [ea]; exact hJ2) (sM_t g g2)))
        have fq : fires B m p X (n, z) q := ⟨y6, by rw [b50] at ef; exact ef⟩
        rw [nI_clamp (by omega), M_s0 hJ2 (c := 174) (by unfold rcM; omega), x3]
        have g3 := sM_t g g2
        refine kf q (by omega) fq no _ (by rw [ea]; exact SM_aux hJ2 (fun c j a b => by rw [zu_ne (by omega), zu_ne (by omega), zu_ne (by omega)])) ?_ ?_ zu_same ?_ ?_
        · rw [zu_nj (by omega), zu_nj (by omega), zu_same]
        · rw [zu_nj (by omega), zu_same]
        · rw [zu_nj (by omega), zu_nj (by omega), zu_nj (by omega)]; exact g3.1 52 (by omega)
        · rw [zu_nj (by omega), zu_nj (by omega), zu_nj (by omega)]; exact g3.1 68 (by omega)
  exact ⟨_, lp (wt m) 0 I (by omega) (fun i hi => absurd hi (by omega)) h sM_r⟩
