/-! PURE 73: RUN: passBehind and behind -/
theorem kcL_c {kc : Kc} {n n' : nuN} {I J : zI} (h : kcL kc n I) (e : ∀ i, i ≠ 4 → n' i = n i) (g : J 114 13 = I 114 13) : kcL kc n' J := by
  match kc, h with
  | Sum.inl b, h => exact ⟨h.1, by rw [g]; exact h.2⟩
  | Sum.inr (r, i), h => exact ⟨by rw [e 2 (by decide)]; exact h.1, by rw [e (10 + r) (by omega)]; exact h.2.1, by rw [g]; exact h.2.2⟩
theorem kcM_c {kc : Kc} {n n' : nuN} {q : Nat} {I J : zI} (h : kcM kc n q I) (e : ∀ i, i ≠ 4 → n' i = n i) (g : ∀ c j, 205 ≤ c ∧ c ≤ 207 → J c j = I c j) : kcM kc n' q J := by
  match kc, h with
  | Sum.inl b, h => exact ⟨h.1, by rw [g _ _ (by omega)]; exact h.2.1, by rw [g _ _ (by omega)]; exact h.2.2⟩
  | Sum.inr (r, i), h => exact ⟨by rw [e 2 (by decide)]; exact h.1, by rw [e (10 + r) (by omega)]; exact h.2.1, by rw [g _ _ (by omega)]; exact h.2.2.1, by rw [g _ _ (by omega)]; exact h.2.2.2⟩
theorem L_kc {I0 I : zI} {k lim : Nat} {wv n : nuN} {z : nuZ} {fs : List Frm} {P : zP} {K : Int32 → zI → zP → Prop} {kc : Kc} (h : SL I0 k lim wv fs n z I P) (hc : kcL kc n I) (kk : K (kcv kc z) I P) : w_X2_cellInt (I 114 13) I P K := by
  match kc, hc, kk with
  | Sum.inl b, hc, kk =>
    obtain ⟨hb, e⟩ := hc
    unfold w_X2_cellInt
    rw [e, nI_clamp (by omega), h.2.2.2.2.1.2.1 b hb]
    exact zin (by first | omega | decide | (simp (maxSteps := 400000) (disch := omega) only [q_lit, q_neg, nI_ltI, nI_leI, nI_eq, nI_add, pk_mul, pk_sub, nI_clamp, vp_q, zu_same, zu_nc, zu_nj, ng_lt, ng_le, ng_gt, ng_ge, ng_eq, ng_qe, ng_ee, ng_add, not_false_eq_true, not_true_eq_false, ne_eq]; done) | (simp (maxSteps := 400000) (disch := omega) only [q_lit, q_neg, nI_ltI, nI_leI, nI_eq, nI_add, pk_mul, pk_sub, nI_clamp, vp_q, zu_same, zu_nc, zu_nj, ng_lt, ng_le, ng_gt, ng_ge, ng_eq, ng_qe, ng_ee, ng_add, not_false_eq_true, not_true_eq_false, ne_eq]; omega)) (zin (by first | omega | decide | (simp (maxSteps := 400000) (disch := omega) only [q_lit, q_neg, nI_ltI, nI_leI, nI_eq, nI_add, pk_mul, pk_sub, nI_clamp, vp_q, zu_same, zu_nc, zu_nj, ng_lt, ng_le, ng_gt, ng_ge, ng_eq, ng_qe, ng_ee, ng_add, not_false_eq_true, not_true_eq_false, ne_eq]; done) | (simp (maxSteps := 400000) (disch := omega) only [q_lit, q_neg, nI_ltI, nI_leI, nI_eq, nI_add, pk_mul, pk_sub, nI_clamp, vp_q, zu_same, zu_nc, zu_nj, ng_lt, ng_le, ng_gt, ng_ge, ng_eq, ng_qe, ng_ee, ng_add, not_false_eq_true, not_true_eq_false, ne_eq]; omega)) ⟨vp_in_nI (by omega) (by decide), kk⟩)
  | Sum.inr (r, i), hc, kk =>
    obtain ⟨hr, hi, e⟩ := hc
    rw [e]
    exact L_cell h hr hi kk
theorem M_kc {I0 I : zI} {k lim q : Nat} {n : nuN} {z : nuZ} {fs : List Frm} {P : zP} {K : Int32 → zI → zP → Prop} {kc : Kc} (hq : q < 24) (h : SM I0 k lim fs n z I) (hc : kcM kc n q I) (kk : K (kcv kc z) I P) : w_X10_stored (nI q) I P K := by
  have v : vp_in (nI q) 24 := vp_in_nI hq (by decide)
  obtain ⟨m0, m0', m1, m2, m3⟩ := h.2.2.2.2.1
  unfold w_X10_stored
  rw [nI_clamp (n := q) (by omega)]
  refine ⟨v, ?_⟩
  match kc, hc, kk with
  | Sum.inl b, hc, kk =>
    obtain ⟨hb, e1, e2⟩ := hc
    rw [e1, e2, nI_clamp (by omega), m1 b hb]
    exact zip rfl ⟨v, vp_in_nI hb (by decide), kk⟩
  | Sum.inr (r, i), hc, kk =>
    obtain ⟨hr, hi, e1, e2⟩ := hc
    have s1 := m2 r hr
    rw [e1, e2, e50, nI_clamp (n := 50 * (r + 1) + i) (by omega), s1.2.2 i hi]
    exact zin (by first | omega | decide | (simp (maxSteps := 400000) (disch := omega) only [q_lit, q_neg, nI_ltI, nI_leI, nI_eq, nI_add, pk_mul, pk_sub, nI_clamp, vp_q, zu_same, zu_nc, zu_nj, ng_lt, ng_le, ng_gt, ng_ge, ng_eq, ng_qe, ng_ee, ng_add, not_false_eq_true, not_true_eq_false, ne_eq]; done) | (simp (maxSteps := 400000) (disch := omega) only [q_lit, q_neg, nI_ltI, nI_leI, nI_eq, nI_add, pk_mul, pk_sub, nI_clamp, vp_q, zu_same, zu_nc, zu_nj, ng_lt, ng_le, ng_gt, ng_ge, ng_eq, ng_qe, ng_ee, ng_add, not_false_eq_true, not_true_eq_false, ne_eq]; omega)) ⟨v, v, vp_in_nI (by omega) (by decide), kk⟩
theorem kcv_c {kc : Kc} {z z' : nuZ} (h : ∀ c j, c < 3 → z' c j = z c j) : kcv kc z' = kcv kc z := by
  match kc with
  | Sum.inl b => exact h 0 b (by decide)
  | Sum.inr (r, i) => exact h 1 _ (by decide)
theorem L_ns {I0 I : zI} {k lim q : Nat} {wv n : nuN} {z : nuZ} {fs : List Frm} {P : zP} {K : zI → zP → Prop} {kc : Kc} {ov cv : Int32} (h : SL I0 k lim wv fs n z I P) (hc : kcL kc n I) (ho : I 114 14 = ov) (hcv : kcv kc z = cv) (hr : n 4 + 3 < 2 ^ 30) (kk : ∀ J, SL I0 k lim wv fs (rcN (rcN n)) (rcZ (rcN n) (rcZ n z q ov) q cv) J P → sL k I J → K J P) : w_X2_noteStore (nI q) I P K := by
  have hk := h.1.1
  unfold w_X2_noteStore
  rw [ho]
  refine ⟨_, h.1.2.2.2.1, shT hk, L_rcs (q := q) (x := ov) h (by omega) (fun J hJ g => ⟨_, hJ.1.2.2.2.1, L_kc hJ (kcL_c hc (fun i hi => up1_n hi) (g.1 13 (by omega))) ⟨shT hk, ?_⟩⟩)⟩
  have e : kcv kc (rcZ n z q ov) = cv := by rw [kcv_c (z := z) (fun c j hc => by unfold rcZ; rw [zu_nc (by omega), zu_nc (by omega)])]; exact hcv
  rw [e]
  exact L_rcs hJ (by unfold rcN; rw [up1_s]; omega) (fun J2 hJ2 g2 => kk J2 hJ2 (sL_t g g2))
theorem M_ns {I0 I : zI} {k lim q : Nat} {n : nuN} {z : nuZ} {fs : List Frm} {P : zP} {K : zI → zP → Prop} {kc : Kc} {ov cv : Int32} (hq : q < 24) (h : SM I0 k lim fs n z I) (hc : kcM kc n q I) (ho : I 205 q = ov) (hcv : kcv kc z = cv) (hr : n 4 + 3 < 2 ^ 30) (kk : ∀ J, SM I0 k lim fs (rcN (rcN n)) (rcZ (rcN n) (rcZ n z q ov) q cv) J → sM I J → K J P) : w_X10_tellStore (nI q) I P K := by
  unfold w_X10_tellStore
  rw [nI_clamp (by omega), ho]
  refine ⟨vp_in_nI hq (by decide), M_rcs (q := q) (x := ov) h (by omega) (fun J hJ g => M_kc hq hJ (kcM_c hc (fun i hi => up1_n hi) g.2) ?_)⟩
  have e : kcv kc (rcZ n z q ov) = cv := by rw [kcv_c (z := z) (fun c j hc => by unfold rcZ; rw [zu_nc (by omega), zu_nc (by omega)])]; exact hcv
  rw [e]
  exact M_rcs hJ (by unfold rcN; rw [up1_s]; omega) (fun J2 hJ2 g2 => kk J2 hJ2 (sM_t g g2))
theorem L_rp {I0 I : zI} {k lim m p q : Nat} {wv n : nuN} {z : nuZ} {r : List Va} {l : Nat → Va} {fs : List Frm} {P : zP} {K : zI → zP → Prop} {y x : Int32} (hq : q < 24) (h : SL I0 k lim wv ((m, p, Sum.inl y :: r, l) :: fs) n z I P) (hx : I0 112 q = x) (hr : n 4 + 3 < 2 ^ 30) (kk : ∀ J, SL I0 k lim wv ((m, p, Sum.inl x :: r, l) :: fs) (rcN n) (rcZ n z q y) J P → sL k I J → K J P) : w_X2_replaceTop (119 + 3 * fs.length) (nI q) I P K := by
  obtain ⟨e, hf, hm, -⟩ := L_pl h
  have hk := h.1.1
  have hlen := h.2.2.2.1.1.2.2.2.2.2.2.1
  dsimp only at hlen
  rw [List.length_cons] at hlen
  unfold w_X2_replaceTop
  refine ⟨_, h.1.2.2.2.1, shF hf, L_pop h (fun J hJ g => ⟨shT hk, L_rcs (q := q) (x := y) hJ (by omega) (fun J2 hJ2 g2 => ?_)⟩)⟩
  unfold w_X4_xOf
  rw [nI_clamp (by omega), L_s0 hJ2 (c := 112) (by unfold rcL; omega), hx]
  exact zin (by first | omega | decide | (simp (maxSteps := 400000) (disch := omega) only [q_lit, q_neg, nI_ltI, nI_leI, nI_eq, nI_add, pk_mul, pk_sub, nI_clamp, vp_q, zu_same, zu_nc, zu_nj, ng_lt, ng_le, ng_gt, ng_ge, ng_eq, ng_qe, ng_ee, ng_add, not_false_eq_true, not_true_eq_false, ne_eq]; done) | (simp (maxSteps := 400000) (disch := omega) only [q_lit, q_neg, nI_ltI, nI_leI, nI_eq, nI_add, pk_mul, pk_sub, nI_clamp, vp_q, zu_same, zu_nc, zu_nj, ng_lt, ng_le, ng_gt, ng_ge, ng_eq, ng_qe, ng_ee, ng_add, not_false_eq_true, not_true_eq_false, ne_eq]; omega)) (zin (by first | omega | decide | (simp (maxSteps := 400000) (disch := omega) only [q_lit, q_neg, nI_ltI, nI_leI, nI_eq, nI_add, pk_mul, pk_sub, nI_clamp, vp_q, zu_same, zu_nc, zu_nj, ng_lt, ng_le, ng_gt, ng_ge, ng_eq, ng_qe, ng_ee, ng_add, not_false_eq_true, not_true_eq_false, ne_eq]; done) | (simp (maxSteps := 400000) (disch := omega) only [q_lit, q_neg, nI_ltI, nI_leI, nI_eq, nI_add, pk_mul, pk_sub, nI_clamp, vp_q, zu_same, zu_nc, zu_nj, ng_lt, ng_le, ng_gt, ng_ge, ng_eq, ng_qe, ng_ee, ng_add, not_false_eq_true, not_true_eq_false, ne_eq]; omega)) ⟨vp_in_nI hq (by decide), L_push (v := Sum.inl x) hJ2 (by omega) rfl (fun J3 hJ3 g3 => kk J3 hJ3 (sL_t (sL_f hk g) (sL_t g2 (sL_f hk g3))))⟩)
theorem M_rp {I0 I : zI} {k lim m p q : Nat} {n : nuN} {z : nuZ} {r : List Va} {l : Nat → Va} {fs : List Frm} {P : zP} {K : zI → zP → Prop} {y x : Int32} (hq : q < 24) (h : SM I0 k lim ((m, p, Sum.inl y :: r, l) :: fs) n z I) (hx : I0 173 q = x) (hr : n 4 + 3 < 2 ^ 30) (kk : ∀ J, SM I0 k lim ((m, p, Sum.inl x :: r, l) :: fs) (rcN n) (rcZ n z q y) J → sM I J → K J P) : w_X10_replace (nI q) I P K := by
  unfold w_X10_replace
  refine M_top (i := 0) h rfl (M_rcs (q := q) (x := y) h (by omega) (fun J hJ g => ⟨vp_in_nI hq (by decide), ?_⟩))
  rw [nI_clamp (by omega), M_s0 hJ (c := 173) (by unfold rcM; omega), hx]
  exact M_setTop (w := Sum.inl x) hJ rfl (fun J2 hJ2 g2 => kk J2 hJ2 (sM_t g (sM_f g2)))
theorem L_beh {I0 I : zI} {k lim m p kp : Nat} {wv n wt : nuN} {B : Nat → Nat → Nat} {z : nuZ} {s : List Va} {l : Nat → Va} {fs : List Frm} {P : zP} {K : zI → zP → Prop} {kc : Kc} {jm ov cv : Int32} {xq : Nat → Int32} (h : SL I0 k lim wv ((m, p, s, l) :: fs) n z I P) (hn0 : I0 (20 + 12 * m) 0 = nI m) (hw : WtL I0 k wt m) (hp : PrL I0 B kp) (hle : wt m ≤ kp) (hb : BsL I0 k wt B m) (hp4 : p < 1000) (hpw : 0 < wt m → p < 400) (hxq : ∀ q, q < wt m → I0 112 q = xq q) (h4 : (∃ q, q < wt m ∧ atq B m 4 p q) → kcL kc n I ∧ I 114 14 = ov ∧ kcv kc z = cv) (h7 : (∃ q, q < wt m ∧ atq B m 7 p q) → ∃ y r, s = Sum.inl y :: r) (h1 : (∃ q, q < wt m ∧ atq B m 1 p q) → I 114 15 = jm ∧ (jm = 0 ∨ jm = 1)) (hr : n 4 + 60 < 2 ^ 30) (kk : ∀ J, SL I0 k lim wv ((m, p, (bhT B m p jm ov cv xq (n, z, s) (wt m)).2.2, l) :: fs) (bhT B m p jm ov cv xq (n, z, s) (wt m)).1 (bhT B m p jm ov cv xq (n, z, s) (wt m)).2.1 J P → sL k I J → K J P) : w_X2_passBehind (119 + 3 * fs.length) I P K := by
  obtain ⟨e, hf, hm, -⟩ := L_pl h
  have hk := h.1.1
  have hP := h.1.2.2.1
  have wl := hw.1
  unfold w_X2_passBehind
  by_cases w0 : wt m = 0
  · rw [w0] at kk
    have none : K I P := kk I h sL_r
    by_cases p4 : p < 400
    · refine L_wh h hw p4 (fun e2 e5 e3 => zin (by decide) ⟨1, ?_⟩) (fun _ => zip rfl none)
      have h2 := h.2.2.2.1.1.2.1
      dsimp only at h2
      rw [l_X2_passBehind_11]
      refine ⟨shF hf, _, h2, shM hm, _, pM6 hP hm, shW hm, zip ?_ none⟩
      rw [L_s0 h (by unfold rcL; omega), hw.2.1 e2 e5, w0]; decide
    · unfold w_X2_isWatchedHere
      have h2 := h.2.2.2.1.1.2.1
      dsimp only at h2
      refine L_iw h hw (fun e2 e5 => zin (by decide) ⟨shF hf, _, h2, shM hm, _, pM6 hP hm, shW hm, ?_⟩) (fun e0 => zip rfl (zip rfl none))
      rw [e]
      unfold w_X8_isBusyAt
      exact zin (by first | omega | decide | (simp (maxSteps := 400000) (disch := omega) only [q_lit, q_neg, nI_ltI, nI_leI, nI_eq, nI_add, pk_mul, pk_sub, nI_clamp, vp_q, zu_same, zu_nc, zu_nj, ng_lt, ng_le, ng_gt, ng_ge, ng_eq, ng_qe, ng_ee, ng_add, not_false_eq_true, not_true_eq_false, ne_eq]; done) | (simp (maxSteps := 400000) (disch := omega) only [q_lit, q_neg, nI_ltI, nI_leI, nI_eq, nI_add, pk_mul, pk_sub, nI_clamp, vp_q, zu_same, zu_nc, zu_nj, ng_lt, ng_le, ng_gt, ng_ge, ng_eq, ng_qe, ng_ee, ng_add, not_false_eq_true, not_true_eq_false, ne_eq]; omega)) (zip (by first | omega | decide | (simp (maxSteps := 400000) (disch := omega) only [q_lit, q_neg, nI_ltI, nI_leI, nI_eq, nI_add, pk_mul, pk_sub, nI_clamp, vp_q, zu_same, zu_nc, zu_nj, ng_lt, ng_le, ng_gt, ng_ge, ng_eq, ng_qe, ng_ee, ng_add, not_false_eq_true, not_true_eq_false, ne_eq]; done) | (simp (maxSteps := 400000) (disch := omega) only [q_lit, q_neg, nI_ltI, nI_leI, nI_eq, nI_add, pk_mul, pk_sub, nI_clamp, vp_q, zu_same, zu_nc, zu_nj, ng_lt, ng_le, ng_gt, ng_ge, ng_eq, ng_qe, ng_ee, ng_add, not_false_eq_true, not_true_eq_false, ne_eq]; omega)) (zip rfl (zip rfl none)))
  refine L_wh h hw (hpw (by omega)) (fun e2 e5 e3 => zin (by decide) ?_) (fun yy => zip rfl (kk I ?_ sL_r))
  · have lp : ∀ d q J, q + d = wt m → SL I0 k lim wv ((m, p, (bhT B m p jm ov cv xq (n, z, s) q).2.2, l) :: fs) (bhT B m p jm ov cv xq (n, z, s) q).1 (bhT B m p jm ov cv xq (n, z, s) q).2.1 J P → sL k I J → l_X2_passBehind_11 K (d + 1) (119 + 3 * fs.length) (nI q) J P := by
      intro d
      induction d with
      | zero =>
        intro q J hq hJ g
        obtain rfl : q = wt m := by omega
        have h2 := hJ.2.2.2.1.1.2.1
        dsimp only at h2
        rw [l_X2_passBehind_11]
        refine ⟨shF hf, _, h2, shM hm, _, pM6 hP hm, shW hm, zip ?_ (kk J hJ g)⟩
        rw [L_s0 hJ (by unfold rcL; omega), hw.2.1 e2 e5]; first | omega | decide | (simp (maxSteps := 400000) (disch := omega) only [q_lit, q_neg, nI_ltI, nI_leI, nI_eq, nI_add, pk_mul, pk_sub, nI_clamp, vp_q, zu_same, zu_nc, zu_nj, ng_lt, ng_le, ng_gt, ng_ge, ng_eq, ng_qe, ng_ee, ng_add, not_false_eq_true, not_true_eq_false, ne_eq]; done) | (simp (maxSteps := 400000) (disch := omega) only [q_lit, q_neg, nI_ltI, nI_leI, nI_eq, nI_add, pk_mul, pk_sub, nI_clamp, vp_q, zu_same, zu_nc, zu_nj, ng_lt, ng_le, ng_gt, ng_ge, ng_eq, ng_qe, ng_ee, ng_add, not_false_eq_true, not_true_eq_false, ne_eq]; omega)
      | succ d ih =>
        intro q J hq hJ g
        have h2 := hJ.2.2.2.1.1.2.1
        dsimp only at h2
        have hQ := PrL_q hJ hp
        obtain ⟨b0, b1, b2⟩ := hp.2 q (by omega)
        obtain ⟨i1, i2, i3, i4⟩ := bh_i (B := B) (m := m) (p := p) (jm := jm) (ov := ov) (cv := cv) (xq := xq) (t := (n, z, s)) q
        dsimp only at i1 i2 i3 i4
        obtain ⟨e', -, -, -⟩ := L_pl hJ
        rw [l_X2_passBehind_11, nI_1]
        refine ⟨shF hf, _, h2, shM hm, _, pM6 hP hm, shW hm, zin ?_ ⟨_, h2, shM hm, ?_⟩⟩
        · rw [L_s0 hJ (by unfold rcL; omega), hw.2.1 e2 e5]; first | omega | decide | (simp (maxSteps := 400000) (disch := omega) only [q_lit, q_neg, nI_ltI, nI_leI, nI_eq, nI_add, pk_mul, pk_sub, nI_clamp, vp_q, zu_same, zu_nc, zu_nj, ng_lt, ng_le, ng_gt, ng_ge, ng_eq, ng_qe, ng_ee, ng_add, not_false_eq_true, not_true_eq_false, ne_eq]; done) | (simp (maxSteps := 400000) (disch := omega) only [q_lit, q_neg, nI_ltI, nI_leI, nI_eq, nI_add, pk_mul, pk_sub, nI_clamp, vp_q, zu_same, zu_nc, zu_nj, ng_lt, ng_le, ng_gt, ng_ge, ng_eq, ng_qe, ng_ee, ng_add, not_false_eq_true, not_true_eq_false, ne_eq]; omega)
        rw [L_s0 hJ (c := 20 + 12 * m) (by unfold rcL; omega), hn0, e']
        refine s_at hQ (by omega) (by omega) (by omega) (by omega) (by omega) (fun y1 y2 => zin (by decide) (s_so hQ (by omega) ?_)) (fun no => zip rfl (ih (q + 1) J (by omega) ?_ g))
        · by_cases s1 : B 0 q = 1
          · obtain ⟨j1, j2⟩ := h1 ⟨q, by omega, s1, y1, y2⟩
            refine zip (by rw [s1]; rfl) ⟨_, hJ.1.2.2.2.1, ?_⟩
            have y15 : J 114 15 = jm := by rw [g.1 15 (by omega)]; exact j1
            have nx : ∀ J2, SL I0 k lim wv ((m, p, (bhT B m p jm ov cv xq (n, z, s) q).2.2, l) :: fs) (rcN (bhT B m p jm ov cv xq (n, z, s) q).1) (rcZ (bhT B m p jm ov cv xq (n, z, s) q).1 (bhT B m p jm ov cv xq (n, z, s) q).2.1 q jm) J2 P → sL k J J2 → l_X2_passBehind_11 K (d + 1) (119 + 3 * fs.length) (nI (q + 1)) J2 P := fun J2 hJ2 g2 => ih (q + 1) J2 (by omega) (by rw [bhT, if_neg (fun y => by have := y.1; omega), if_neg (fun y => by have := y.1; omega), if_pos ⟨s1, y1, y2⟩]; exact hJ2) (sL_t g g2)
            rw [y15]
            rcases j2 with rfl | rfl
            · exact zip rfl ⟨shT hk, L_rcs hJ (by omega) nx⟩
            · exact zin (by decide) ⟨shT hk, L_rcs hJ (by omega) nx⟩
          · refine zin (by first | omega | decide | (simp (maxSteps := 400000) (disch := omega) only [q_lit, q_neg, nI_ltI, nI_leI, nI_eq, nI_add, pk_mul, pk_sub, nI_clamp, vp_q, zu_same, zu_nc, zu_nj, ng_lt, ng_le, ng_gt, ng_ge, ng_eq, ng_qe, ng_ee, ng_add, not_false_eq_true, not_true_eq_false, ne_eq]; done) | (simp (maxSteps := 400000) (disch := omega) only [q_lit, q_neg, nI_ltI, nI_leI, nI_eq, nI_add, pk_mul, pk_sub, nI_clamp, vp_q, zu_same, zu_nc, zu_nj, ng_lt, ng_le, ng_gt, ng_ge, ng_eq, ng_qe, ng_ee, ng_add, not_false_eq_true, not_true_eq_false, ne_eq]; omega)) ?_
            by_cases s4 : B 0 q = 4
            · obtain ⟨k1, k2, k3⟩ := h4 ⟨q, by omega, s4, y1, y2⟩
              refine zip (by rw [s4]; rfl) (L_ns (ov := ov) (cv := cv) (kc := kc) hJ (kcL_c k1 i3 (g.1 13 (by omega))) (by rw [g.1 14 (by omega)]; exact k2) (by rw [kcv_c i4]; exact k3) (by omega) (fun J2 hJ2 g2 => ih (q + 1) J2 (by omega) ?_ (sL_t g g2)))
              rw [bhT, if_pos ⟨s4, y1, y2⟩]; exact hJ2
            · refine zin (by first | omega | decide | (simp (maxSteps := 400000) (disch := omega) only [q_lit, q_neg, nI_ltI, nI_leI, nI_eq, nI_add, pk_mul, pk_sub, nI_clamp, vp_q, zu_same, zu_nc, zu_nj, ng_lt, ng_le, ng_gt, ng_ge, ng_eq, ng_qe, ng_ee, ng_add, not_false_eq_true, not_true_eq_false, ne_eq]; done) | (simp (maxSteps := 400000) (disch := omega) only [q_lit, q_neg, nI_ltI, nI_leI, nI_eq, nI_add, pk_mul, pk_sub, nI_clamp, vp_q, zu_same, zu_nc, zu_nj, ng_lt, ng_le, ng_gt, ng_ge, ng_eq, ng_qe, ng_ee, ng_add, not_false_eq_true, not_true_eq_false, ne_eq]; omega)) ?_
              by_cases s7 : B 0 q = 7
              · obtain ⟨y, r, ey, -⟩ := bh_s (B := B) (m := m) (p := p) (jm := jm) (ov := ov) (cv := cv) (xq := xq) (t := (n, z, s)) (h7 ⟨q, by omega, s7, y1, y2⟩) q
                rw [ey] at hJ
                refine zip (by rw [s7]; rfl) (L_rp (by omega) hJ (hxq q (by omega)) (by omega) (fun J2 hJ2 g2 => ih (q + 1) J2 (by omega) ?_ (sL_t g g2)))
                rw [bhT, if_neg (fun y => by have := y.1; omega), if_pos ⟨s7, y1, y2⟩, ey]; exact hJ2
              · refine zin (by first | omega | decide | (simp (maxSteps := 400000) (disch := omega) only [q_lit, q_neg, nI_ltI, nI_leI, nI_eq, nI_add, pk_mul, pk_sub, nI_clamp, vp_q, zu_same, zu_nc, zu_nj, ng_lt, ng_le, ng_gt, ng_ge, ng_eq, ng_qe, ng_ee, ng_add, not_false_eq_true, not_true_eq_false, ne_eq]; done) | (simp (maxSteps := 400000) (disch := omega) only [q_lit, q_neg, nI_ltI, nI_leI, nI_eq, nI_add, pk_mul, pk_sub, nI_clamp, vp_q, zu_same, zu_nc, zu_nj, ng_lt, ng_le, ng_gt, ng_ge, ng_eq, ng_qe, ng_ee, ng_add, not_false_eq_true, not_true_eq_false, ne_eq]; omega)) (ih (q + 1) J (by omega) ?_ g)
                rw [bhT, if_neg (fun y => s4 y.1), if_neg (fun y => s7 y.1), if_neg (fun y => s1 y.1)]; exact hJ
        · rw [bhT, if_neg (fun y => no y.2), if_neg (fun y => no y.2), if_neg (fun y => no y.2)]; exact hJ
    exact ⟨_, lp (wt m) 0 I (by omega) h sL_r⟩
  · have nn : ∀ q, q < wt m → ¬ (atq B m 4 p q ∨ atq B m 7 p q ∨ atq B m 1 p q) := fun q hq y => by
      rcases yy with y0 | ⟨y1, y2⟩
      · exact w0 y0
      · refine hb y1 p (hpw (by omega)) y2 q hq ?_
        rcases y with y | y | y
        · exact Or.inl y
        · exact Or.inr (Or.inl y)
        · exact Or.inr (Or.inr (Or.inl y))
    rw [bh_n nn]; exact h
