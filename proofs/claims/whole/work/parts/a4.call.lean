/-! PURE 90: RUN: turns at CALL and GIVE; every turn -/
theorem popI_s : ∀ (a : Nat) (S r : List Nat), popI a S = some r → ∀ s : List Va, ∀ n2, TyS n2 s S → a ≤ s.length ∧ TyS n2 (cloS s a) r ∧ ∀ i v, i < a → s[i]? = some v → tg v = 1
  | 0, S, r, h, s, n2, t => by
    rw [popI] at h
    injection h with h
    subst h
    exact ⟨Nat.zero_le _, by cases s <;> exact t, fun i v hi => absurd hi (by omega)⟩
  | a + 1, [], r, h, s, n2, t => absurd h (by simp [popI])
  | a + 1, x :: S, r, h, s, n2, t => by
    rw [popI] at h
    by_cases e : x = 1
    · rw [if_pos e] at h
      subst e
      obtain ⟨y, s1, es, t1⟩ := TyS_i t
      subst es
      obtain ⟨h1, h2, h3⟩ := popI_s a S r h s1 n2 t1
      refine ⟨by rw [List.length_cons]; omega, h2, fun i v hi hv => ?_⟩
      cases i with
      | zero =>
        rw [List.getElem?_cons_zero] at hv
        injection hv with hv
        rw [← hv]; rfl
      | succ i =>
        rw [List.getElem?_cons_succ] at hv
        exact h3 i v (by omega) hv
    · rw [if_neg e] at h; exact absurd h (by simp)
theorem mx_i {n : nuN} {d i : Nat} (h : i ≠ 1) : mxN n d i = n i := up1_n h
section
variable {I0 I Gb : zI} {I1 : zI → Prop} {k lim kp nm : Nat} {wv wt hn ln ar X Y : nuN} {cb hd B ho og : Nat → Nat → Nat} {xq : Nat → Int32} {Pl : PlT} {n n2 : nuN} {z z2 : nuZ} {P : zP}
theorem tI_call {m p ph r p0 : Nat} {s : List Va} {l : Nat → Va} {rest : List Frm} {S s2 : List Nat} {L : Nat → Nat} {zn : Zn} {th : Th} {ko : Ko} {Q : Nat → Prop} (hC : Cg I0 I1 k wv wt hn ln ar X Y cb hd B ho og xq kp nm) (hPl : PlOk Pl I0 wv hn ln ar cb hd B ho og kp nm) (hT : Top Pl cb hd hn nm X lim ph m p s l rest S L r zn n z th ko Q) (hm : m < nm) (hp : p < ln m) (hp2 : p < 1000) (h22 : wv m = 0 → ¬ I0 (22 + 12 * m) p = 0) (hv : Hcv Pl hd hn m p L) (hho : ho m p = p0 + 1) (hog : og m p = p0 + 1) (hp0 : p0 < 400) (hc : cb m p = 40) (hp1 : p + 1 < ln m) (hp3 : p + 2 < 1000) (hmc : cb m (p + 1) < nm) (hpop : popI (ar (cb m (p + 1))) S = some s2) (h10 : s2.length < 10) (nx : Nxt Pl m (p + 2) (1 :: s2) L 98 zOk) : Trn Pl cb hd hn nm X lim I0 I1 k wv ph ((m, p, s, l) :: rest) n z th ko Q := by
  have hT' := hT
  obtain ⟨t1, t2, t3, t4, t5, t6, t7, t8⟩ := hT
  have t8' := t8
  obtain ⟨N1, N2, N3, N4, N5, N6⟩ := t8
  obtain ⟨c1, c2, c3, c4⟩ := Cg_m hC hm hp
  have nm6 := hC.1.1
  rcases tI_pk hC hT' hm hp hp2 h22 hv hho hog hp0 (by omega) (fun e => by omega) (fun e => by omega) with h | ⟨n1, z1, ko1, Q1, hPk⟩
  · exact h
  have hPk' := hPk
  obtain ⟨⟨u1, u2, u3, u4⟩, hl, uz, kp, goL, goM⟩ := hPk'
  have j2 := u3 2 (by omega) (by omega) (by omega)
  obtain ⟨a1, a2, a3, a4, -⟩ := hC.2.2.2.1 _ hmc
  obtain ⟨g1, g2, g3, g4, g5, g6⟩ := hC.1.2.2 _ hmc
  have f4 := fun Gb hGb => ((hC.2.1 Gb hGb).2.2 _ hmc).2.2.1
  have f5 := fun Gb hGb => ((hC.2.1 Gb hGb).2.2 _ hmc).2.2.2.1
  have w24 := g4.1
  have hn0 := (hC.1.2.2 m hm).1
  obtain ⟨y1, y2, y3⟩ := popI_s _ _ _ hpop s (n 2) t3
  obtain ⟨q1, q2, q3⟩ := clo_at (ar (cb m (p + 1))) s (fun _ => Sum.inl 0) y1
  have hca : ∀ i, i < ar (cb m (p + 1)) → tg (cloL (fun _ => Sum.inl 0) s (ar (cb m (p + 1))) i) = 1 := fun i hi => y3 _ _ (by omega) (q1 i hi)
  have MC : ∀ Gb, I1 Gb → ∀ I P K, MR Gb k lim ((m, p, s, l) :: rest) n1 z1 th ko1 Q1 I → w_X10_call (nI (cb m (p + 1))) I P (fun I13 P13 => dnK K m p (cb m p) p0 rest.length 0 I13 P13) → w_X10_done (nI m) (nI p) (nI (cb m p)) (nI p0) I P (fun v5 I5 P5 => dnK K m p (cb m p) p0 rest.length v5 I5 P5) := fun Gb hGb I P K h q => by
    unfold w_X10_done j_X10_done_20
    rw [hc] at q ⊢
    refine zin (by decide) (s_msz0 (by decide) (by unfold isOpn; omega) (by decide) (s_mjpF (by decide) (by unfold isSt isLg; omega) (zip rfl (zin (by decide) (zip rfl ?_)))))
    rw [nI_1]
    exact M_oct (by omega) h.1 (c2 Gb hGb) hp1 q
  by_cases d11 : rest.length = 11
  · refine tI_thr (p0 := p0) (kd := 105) hC hT' hm hp2 hv hPk (by decide) (fun I P K h h16 kk => ?_) (fun Gb hGb I P K h h65 kk => ?_)
    · unfold coT
      rw [if_pos hc]
      exact Lo_call (nm := nm) h.1 c1 hn0 hp1 rfl (by omega) a1 y1 a3 a4 (fun _ J hJ t => kk J s hJ t) (fun e => by omega)
    · exact MC Gb hGb I P K h (Mo_call h.1 (by omega) (a2 Gb hGb) y1 a3 (fun _ J hJ t => kk J s hJ t) (fun e => by omega))
  · obtain ⟨e1, e2, e3⟩ := erN_4 (B := B) (m := cb m (p + 1)) (n := mxN n1 (rest.length + 2)) a3 (wt (cb m (p + 1)))
    have m4 : mxN n1 (rest.length + 2) 4 = n1 4 := mx_i (by omega)
    rw [m4] at e1 e2
    have ei : ∀ i, i ≠ 4 → i ≠ 1 → erN B (cb m (p + 1)) (ar (cb m (p + 1))) (mxN n1 (rest.length + 2)) (wt (cb m (p + 1))) i = n1 i := fun i h1 h2 => by rw [e3 i h1]; exact mx_i h2
    have k2 := ei 2 (by omega) (by omega)
    have k0 := ei 0 (by omega) (by omega)
    have lsl : (cloS s (ar (cb m (p + 1)))).length < 10 := by rw [TyS_len y2]; exact h10
    obtain ⟨ph', hlt, hI⟩ := Inv_mk (X := X) (n := n) (n' := erN B (cb m (p + 1)) (ar (cb m (p + 1))) (mxN n1 (rest.length + 2)) (wt (cb m (p + 1)))) (z' := erZ B (cb m (p + 1)) (ar (cb m (p + 1))) (cloL (fun _ => Sum.inl 0) s (ar (cb m (p + 1)))) (mxN n1 (rest.length + 2)) z1 (wt (cb m (p + 1)))) (th := th) (ko := none) (Q := fun _ => False) (s' := []) (l' := cloL (fun _ => Sum.inl 0) s (ar (cb m (p + 1)))) (rest := (m, p, cloS s (ar (cb m (p + 1))), l) :: rest) (cb := cb) (hd := hd) (hn := hn) (nm := nm) t8' (hPl.2 _ hmc) (fun r' hr' => by
        have := ufn_mono (X := X) (n := n) (n' := erN B (cb m (p + 1)) (ar (cb m (p + 1))) (mxN n1 (rest.length + 2)) (wt (cb m (p + 1)))) 24 (fun q _ => by rw [ei _ (by omega) (by omega)]; exact (u4 _ (by omega)).1)
        rw [t7]; unfold phi
        rw [k0, u1, List.length_cons]; omega) ⟨rfl, fun v hv => absurd hv (List.not_mem_nil)⟩ (fun i hi ht => by
        by_cases hia : i < ar (cb m (p + 1))
        · rw [if_pos hia]
          obtain ⟨x, ex⟩ := tg1 (hca i hia)
          rw [ex]; exact ⟨rfl, trivial⟩
        · rw [if_neg hia] at ht; omega) (fun x hx => by
        rw [k2, j2]
        rcases List.mem_cons.mp hx with e | e
        · rw [e]; exact ⟨L, s2, hm, hp3, hc, hv, nx, h10, y2, t4⟩
        · exact t5 x e) (by rw [List.length_cons]; omega) (fun _ hz => Zin_ok hz) (by rw [k0, u1]; omega) (by rw [k2, j2]; exact N3) (by omega) (fun q _ => by rw [ei _ (by omega) (by omega)]; exact (u4 _ (by omega)).2) (fun r hr => by
        rw [k2, j2] at hr
        rw [ei _ (by omega) (by omega), u3 _ (by omega) (by omega) (by omega)]; exact N6 r hr)
    refine Or.inl ⟨ph', _, _, _, th, none, _, hlt, hI, fun I P K h kk => ?_, fun Gb hGb I P K h kk => ?_⟩
    · show w_X2_takeTurn (119 + 3 * (rest.length + 1 - 1)) I P K
      rw [Nat.add_sub_cancel]
      refine goL I P K h (fun I2 h2 h16 => ?_)
      unfold coT
      rw [if_pos hc]
      refine Lo_call (nm := nm) h2.1 c1 hn0 hp1 rfl (by omega) a1 y1 a3 a4 (fun e => by omega) (fun _ J R hJ g => L_enter (fs := (m, p, cloS s (ar (cb m (p + 1))), l) :: rest) hJ g1 a1 a3 g4 hC.1.2.1 g5 (by rw [m4]; omega) (fun J2 hJ2 g2' => ?_))
      have g3' := sL_t g g2'
      unfold j_X2_takeTurn_134
      exact zip (by rw [g3'.1 10 (by omega)]; exact h2.2.1) (kk J2 R (LR_nx h2 hJ2 (sK_w g3')))
    · refine goM Gb hGb I P K h (fun I2 h2 h65 => MC Gb hGb I2 P K h2 (Mo_call h2.1 (by omega) (a2 Gb hGb) y1 a3 (fun e => by omega) (fun _ J hJ g => M_enter hJ (a2 Gb hGb) a3 hca (f4 Gb hGb) (hC.2.1 Gb hGb).2.1 (f5 Gb hGb) (by rw [m4]; omega) (fun J2 hJ2 g2' => ?_))))
      have g3' := sM_t g g2'
      obtain ⟨hfl, eL⟩ := M_f1 hJ2
      rw [List.length_cons] at hfl eL
      unfold dnK
      exact zip (by rw [g3'.1 65 (by omega)]; exact h65) (zin (by rw [eL]; first | omega | decide | (simp (maxSteps := 400000) (disch := omega) only [q_lit, q_neg, nI_ltI, nI_leI, nI_eq, nI_add, pk_mul, pk_sub, nI_clamp, vp_q, zu_same, zu_nc, zu_nj, ng_lt, ng_le, ng_gt, ng_ge, ng_eq, ng_qe, ng_ee, ng_add, not_false_eq_true, not_true_eq_false, ne_eq]; done) | (simp (maxSteps := 400000) (disch := omega) only [q_lit, q_neg, nI_ltI, nI_leI, nI_eq, nI_add, pk_mul, pk_sub, nI_clamp, vp_q, zu_same, zu_nc, zu_nj, ng_lt, ng_le, ng_gt, ng_ge, ng_eq, ng_qe, ng_ee, ng_add, not_false_eq_true, not_true_eq_false, ne_eq]; omega)) (kk J2 (MR_nx h2 hJ2 (sV_w g3'))))
theorem tI_giv {m p ph r p0 : Nat} {s : List Va} {l : Nat → Va} {rest : List Frm} {S s2 : List Nat} {L : Nat → Nat} {zn : Zn} {th : Th} {ko : Ko} {Q : Nat → Prop} (hC : Cg I0 I1 k wv wt hn ln ar X Y cb hd B ho og xq kp nm) (hPl : PlOk Pl I0 wv hn ln ar cb hd B ho og kp nm) (hT : Top Pl cb hd hn nm X lim ph m p s l rest S L r zn n z th ko Q) (hm : m < nm) (hp : p < ln m) (hp2 : p < 1000) (h22 : wv m = 0 → ¬ I0 (22 + 12 * m) p = 0) (hv : Hcv Pl hd hn m p L) (hho : ho m p = p0 + 1) (hog : og m p = p0 + 1) (hp0 : p0 < 400) (hc : cb m p = 42) (eS : S = 1 :: s2) : Trn Pl cb hd hn nm X lim I0 I1 k wv ph ((m, p, s, l) :: rest) n z th ko Q := by
  have hT' := hT
  obtain ⟨t1, t2, t3, t4, t5, t6, t7, t8⟩ := hT
  have t8' := t8
  obtain ⟨N1, N2, N3, N4, N5, N6⟩ := t8
  obtain ⟨c1, c2, c3, c4⟩ := Cg_m hC hm hp
  have nm6 := hC.1.1
  subst eS
  obtain ⟨x, s', es, hS⟩ := TyS_i t3
  rcases tI_pk hC hT' hm hp hp2 h22 hv hho hog hp0 (by omega) (fun _ => ⟨x, s', es⟩) (fun e => by omega) with h | ⟨n1, z1, ko1, Q1, hPk⟩
  · exact h
  subst es
  obtain ⟨⟨u1, u2, u3, u4⟩, hl, uz, kp, goL, goM⟩ := hPk
  have j2 := u3 2 (by omega) (by omega) (by omega)
  have MC : ∀ I P K, w_X10_gives I P (fun I13 P13 => dnK K m p (cb m p) p0 rest.length 0 I13 P13) → w_X10_done (nI m) (nI p) (nI (cb m p)) (nI p0) I P (fun v5 I5 P5 => dnK K m p (cb m p) p0 rest.length v5 I5 P5) := fun I P K q => by
    unfold w_X10_done j_X10_done_20
    rw [hc] at q ⊢
    exact zin (by decide) (s_msz0 (by decide) (by unfold isOpn; omega) (by decide) (s_mjpF (by decide) (by unfold isSt isLg; omega) (zip rfl (zin (by decide) (zin (by decide) (zip rfl q))))))
  cases rest with
  | nil =>
    refine Or.inr ⟨[], n1, z1, 0, x, -1, -1, by decide, fun I P K h kk => ?_, fun Gb hGb I P K h kk => ?_⟩
    · refine goL I P K h (fun I2 h2 h16 => ?_)
      unfold coT
      rw [if_neg (by omega), if_pos hc]
      refine Lo_give0 h2.1 (fun J hJ g v1 v2 v3 v4 => ?_)
      unfold j_X2_takeTurn_134
      exact zip (by rw [g 10 (by omega)]; exact h2.2.1) (kk J P ⟨hJ, v1, v2, by rw [v3]; exact h2.2.2.1.2.2.1, by rw [v4]; exact h2.2.2.1.2.2.2⟩)
    · refine goM Gb hGb I P K h (fun I2 h2 h65 => MC I2 P K (Mo_give0 h2.1 (fun J hJ v1 v2 v3 => ?_)))
      unfold dnK
      have e54 : J 155 54 = nI 0 := hJ.2.2.1
      exact zip (by rw [v3 65 (by omega)]; exact h65) (zin (by rw [e54]; decide) (kk J ⟨hJ, v1, Or.inr (Or.inr ⟨rfl, v2, rfl, rfl⟩)⟩))
  | cons y rest' =>
    obtain ⟨mc, pc, sc, lc⟩ := y
    obtain ⟨L', S', f1, f2, f3, f4, f5, f6, f7, f8⟩ := t5 _ (List.mem_cons_self ..)
    dsimp only at f1 f2 f3 f4 f5 f6 f7 f8
    obtain ⟨g1, g2, g3, g4, g5, g6⟩ := hC.1.2.2 mc f1
    have i4 := fun Gb hGb => ((hC.2.1 Gb hGb).2.2 mc f1).2.2.1
    have i5 := fun Gb hGb => ((hC.2.1 Gb hGb).2.2 mc f1).2.2.2.1
    obtain ⟨d1, d2, d3, d4, d5, d6⟩ := hC.2.2.2.1 mc f1
    have w24 := g4.1
    have k24 := hC.2.2.1
    have hpw : 0 < wt mc → pc < 400 := fun hw => by
      have e2 : k = 2 := by
        by_cases e : k = 2
        · exact e
        · have := g4.2.2.2 e; omega
      have q1 := g2.2.1
      have q2 := Nx_l hPl f5
      rw [if_pos (by rw [d4, if_neg (by omega)])] at q1; omega
    have n4 := pr_no (p := pc) (sx := 4) hC f1 (fun _ => by omega) (fun e => by omega) (fun e => by omega) (by omega)
    have n1' := pr_no (p := pc) (sx := 1) hC f1 (fun e => by omega) (fun e => by omega) (fun _ => by rw [f3]; decide) (by omega)
    obtain ⟨b1, b2, b3, b4⟩ := bh_i (B := B) (m := mc) (p := pc) (jm := 0) (ov := 0) (cv := 0) (xq := xq) (t := (n1, z1, Sum.inl x :: sc)) (wt mc)
    dsimp only at b1 b2 b3 b4
    have k2 := b3 2 (by omega)
    have k0 := b3 0 (by omega)
    rw [List.length_cons] at t1 t7
    obtain ⟨ph', hlt, hI⟩ := Inv_mk (X := X) (n := n) (n' := (bhT B mc pc 0 0 0 xq (n1, z1, Sum.inl x :: sc) (wt mc)).1) (z' := (bhT B mc pc 0 0 0 xq (n1, z1, Sum.inl x :: sc) (wt mc)).2.1) (th := th) (ko := none) (Q := fun _ => False) (s' := (bhT B mc pc 0 0 0 xq (n1, z1, Sum.inl x :: sc) (wt mc)).2.2) (l' := lc) (rest := rest') (cb := cb) (hd := hd) (hn := hn) (nm := nm) t8' f5 (fun r' hr' => by
        have := ufn_mono (X := X) (n := n) (n' := (bhT B mc pc 0 0 0 xq (n1, z1, Sum.inl x :: sc) (wt mc)).1) 24 (fun q _ => by rw [b3 _ (by omega)]; exact (u4 _ (by omega)).1)
        rw [t7]; unfold phi
        rw [k0, u1]; omega) (by rw [k2, j2]; exact bh_ty (TyS_psh f7 rfl trivial) (fun _ => ⟨x, sc, rfl⟩)) (by rw [k2, j2]; exact f8) (fun y hy => by rw [k2, j2]; exact t5 y (List.mem_cons_of_mem _ hy)) (by omega) (fun _ hz => Zin_ok hz) (by rw [k0, u1]; omega) (by rw [k2, j2]; exact N3) (by omega) (fun q _ => by rw [b3 _ (by omega)]; exact (u4 _ (by omega)).2) (fun r hr => by
        rw [k2, j2] at hr
        rw [b3 _ (by omega), u3 _ (by omega) (by omega) (by omega)]; exact N6 r hr)
    have sc10 : sc.length < 10 := by rw [TyS_len f7]; exact f6
    refine Or.inl ⟨ph', _, _, _, th, none, _, hlt, hI, fun I P K h kk => ?_, fun Gb hGb I P K h kk => ?_⟩
    · refine goL I P K h (fun I2 h2 h16 => ?_)
      unfold coT
      rw [if_neg (by omega), if_pos hc]
      refine Lo_give h2.1 sc10 (fun J hJ g => L_beh (kc := Sum.inl 0) (jm := 0) (ov := 0) (cv := 0) (xq := xq) hJ g1 g4 hC.1.2.1 g5 d5 (by omega) hpw (fun q hq => (hC.2.2.2.2.1 q (by omega)).1) (fun y => absurd y n4) (fun _ => ⟨x, sc, rfl⟩) (fun y => absurd y n1') (by omega) (fun J2 hJ2 g2' => ?_))
      obtain ⟨e, hf, -, -⟩ := L_pl hJ2
      have hk := hJ2.1.1
      refine s_fx (c := 40) (by decide) ?_
      rw [e, show fxz 40 = 2 from rfl, nI_add]
      have gg : sL k J2 (zu J2 (119 + 3 * rest'.length) 5 (nI (pc + 2))) := ⟨fun j _ => zu_nc (by omega), fun j _ => zu_nc (by omega)⟩
      have g3' := sL_t (sL_t g g2') gg
      unfold j_X2_takeTurn_134
      exact zip (by rw [g3'.1 10 (by omega)]; exact h2.2.1) (kk _ P (LR_nx h2 (L_place hJ2 f2) (sK_w g3')))
    · refine goM Gb hGb I P K h (fun I2 h2 h65 => MC I2 P K (Mo_give h2.1 sc10 f2 (fun J hJ g => M_beh (kc := Sum.inl 0) (jm := 0) (ov := 0) (cv := 0) (xq := xq) hJ (i4 Gb hGb) (hC.2.1 Gb hGb).2.1 (i5 Gb hGb) (by omega) (fun q hq => (hC.2.2.2.2.1 q (by omega)).2.1 Gb hGb) (fun q hq aq => absurd ⟨q, hq, aq⟩ n4) (fun _ => ⟨x, sc, rfl⟩) (Or.inl rfl) (by omega) (fun J2 hJ2 g2' => ?_))))
      have g3' := sM_t g g2'
      obtain ⟨hfl, eL⟩ := M_f1 hJ2
      unfold dnK
      exact zip (by rw [g3'.1 65 (by omega)]; exact h65) (zin (by rw [eL, List.length_cons]; first | omega | decide | (simp (maxSteps := 400000) (disch := omega) only [q_lit, q_neg, nI_ltI, nI_leI, nI_eq, nI_add, pk_mul, pk_sub, nI_clamp, vp_q, zu_same, zu_nc, zu_nj, ng_lt, ng_le, ng_gt, ng_ge, ng_eq, ng_qe, ng_ee, ng_add, not_false_eq_true, not_true_eq_false, ne_eq]; done) | (simp (maxSteps := 400000) (disch := omega) only [q_lit, q_neg, nI_ltI, nI_leI, nI_eq, nI_add, pk_mul, pk_sub, nI_clamp, vp_q, zu_same, zu_nc, zu_nj, ng_lt, ng_le, ng_gt, ng_ge, ng_eq, ng_qe, ng_ee, ng_add, not_false_eq_true, not_true_eq_false, ne_eq]; omega)) (kk J2 (MR_nx h2 hJ2 (sV_w g3'))))
/-- EVERY TURN -/
theorem turn {ph : Nat} {fs : List Frm} {th : Th} {ko : Ko} {Q : Nat → Prop} (hC : Cg I0 I1 k wv wt hn ln ar X Y cb hd B ho og xq kp nm) (hPl : PlOk Pl I0 wv hn ln ar cb hd B ho og kp nm) (h : Inv Pl cb hd hn nm X lim ph fs n z th ko Q) : Trn Pl cb hd hn nm X lim I0 I1 k wv ph fs n z th ko Q := by
  obtain ⟨m, p, s, l, rest, S, L, r, zn, rfl, t1, t2, t3, t4, t5, t6, t7, t8⟩ := h
  have hT : Top Pl cb hd hn nm X lim ph m p s l rest S L r zn n z th ko Q := ⟨t1, t2, t3, t4, t5, t6, t7, t8⟩
  obtain ⟨hm, hp, hp2, hg, hgl, hr, hzn, hok⟩ := hPl.1 _ _ _ _ _ _ t2
  rcases hok with ⟨hw, hp1, hq, hop⟩ | ⟨ec, hw, hz⟩ | ⟨hw, o1, o2, hc, t, ht, htg, nx⟩ | ⟨hv, ⟨p0, o1, o2, o3⟩, hop⟩
  · rcases hop with a | a | a | a | a | a | a | a
    · exact tW_1 hC hPl hT hm hp hw hp1 hq (Or.inl a)
    · exact tW_1 hC hPl hT hm hp hw hp1 hq (Or.inr (Or.inl a))
    · exact tW_1 hC hPl hT hm hp hw hp1 hq (Or.inr (Or.inr (Or.inl a)))
    · exact tW_1 hC hPl hT hm hp hw hp1 hq (Or.inr (Or.inr (Or.inr (Or.inl a))))
    · exact tW_1 hC hPl hT hm hp hw hp1 hq (Or.inr (Or.inr (Or.inr (Or.inr (Or.inl a)))))
    · obtain ⟨ec, p0, c0, b0, sp, hR, h1, h2, h3, h4, h5, h6, h7, nx⟩ := a
      exact tW_53 hC hPl hT hm hp hw hp1 hq ec hR h1 h2 h3 h4 h5 h6 h7 nx
    · exact tW_1 hC hPl hT hm hp hw hp1 hq (Or.inr (Or.inr (Or.inr (Or.inr (Or.inr a)))))
    · obtain ⟨ec, h6, ⟨p0, sp, hR⟩, hv, nx⟩ := a
      exact tW_56 hC hPl hT hm hp hp2 hr hw hp1 hq ec h6 hR hv nx
  · exact tW_58 hC hT hm hp hw ec hz
  · exact tJ hC hT hm hp hw o1 o2 hc ht htg nx
  · rcases hop with ⟨s2, l2, a1, a2, a3, a4, a5, a6⟩ | ⟨s2, l2, t, a1, a2, a3, a4, a5, a6, a7⟩ | ⟨s2, a1, a2, a3, a4, a5⟩ | ⟨s2, a1, a2, a3, a4, a5, a6, a7⟩ | ⟨a1, s2, a2⟩
    · exact tI_pl hC hPl hT hm hp hp2 hg hgl (fun e => (hzn e).1) (fun e => (hzn e).2) hv o1 o2 o3 a1 a2 a3 a4 a5 a6
    · exact tI_jmp hC hPl hT hm hp hp2 (fun e => (hzn e).2) hv o1 o2 o3 a1 a2 a3 a4 a5 a6 a7
    · exact tI_tab hC hPl hT hm hp hp2 (fun e => (hzn e).2) hv o1 o2 o3 a1 a2 a3 a4 a5
    · exact tI_call hC hPl hT hm hp hp2 (fun e => (hzn e).2) hv o1 o2 o3 a1 a2 a3 a4 a5 a6 a7
    · exact tI_giv hC hPl hT hm hp hp2 (fun e => (hzn e).2) hv o1 o2 o3 a1 a2
end
