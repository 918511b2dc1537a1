/-! PURE 88: RUN: an INSTRUCTION that stays in its FRAME: what is told behind it, and the next place -/
theorem bh_s0 {B : Nat → Nat → Nat} {m p : Nat} {jm ov cv : Int32} {xq : Nat → Int32} {t : Bst} : ∀ w, (∀ q, q < w → ¬ atq B m 7 p q) → (bhT B m p jm ov cv xq t w).2.2 = t.2.2
  | 0, _ => rfl
  | w + 1, h => by
    have ih := bh_s0 (jm := jm) (ov := ov) (cv := cv) (xq := xq) (t := t) w (fun q hq => h q (by omega))
    rw [bhT]
    by_cases e4 : atq B m 4 p w
    · rw [if_pos e4]; exact ih
    · rw [if_neg e4, if_neg (h w (by omega))]
      by_cases e1 : atq B m 1 p w
      · rw [if_pos e1]; exact ih
      · rw [if_neg e1]; exact ih
theorem bh_ty {B : Nat → Nat → Nat} {m p w a : Nat} {jm ov cv : Int32} {xq : Nat → Int32} {t : Bst} {S : List Nat} (h : TyS a t.2.2 S) (h7 : (∃ q, q < w ∧ atq B m 7 p q) → ∃ y r, t.2.2 = Sum.inl y :: r) : TyS a (bhT B m p jm ov cv xq t w).2.2 S := by
  by_cases e : ∃ q, q < w ∧ atq B m 7 p q
  · obtain ⟨y, r, e1⟩ := h7 e
    obtain ⟨y', r', e2, e3⟩ := bh_s (B := B) (m := m) (p := p) (jm := jm) (ov := ov) (cv := cv) (xq := xq) (t := t) ⟨y, r, e1⟩ w
    rw [e2, e3]
    rw [e1] at h ⊢
    refine ⟨h.1, fun v hv => ?_⟩
    rcases List.mem_cons.mp hv with e | e
    · rw [e]; exact trivial
    · exact h.2 v (List.mem_cons_of_mem _ e)
  · rw [bh_s0 w (fun q hq a => e ⟨q, hq, a⟩)]; exact h
section
variable {I0 I Gb : zI} {I1 : zI → Prop} {k lim kp nm : Nat} {wv wt hn ln ar X Y : nuN} {cb hd B ho og : Nat → Nat → Nat} {xq : Nat → Int32} {Pl : PlT} {n n2 : nuN} {z z2 : nuZ} {P : zP}
theorem tI_stay {m p ph r p0 p' : Nat} {s s' : List Va} {l l' : Nat → Va} {rest : List Frm} {S s2 : List Nat} {L l2 : Nat → Nat} {zn : Zn} {th : Th} {ko ko1 ko2 : Ko} {Q Q1 Q2 : Nat → Prop} {n1 n' : nuN} {z1 z' : nuZ} {φ : Zn → Prop} {jm : Int32} (hC : Cg I0 I1 k wv wt hn ln ar X Y cb hd B ho og xq kp nm) (hPl : PlOk Pl I0 wv hn ln ar cb hd B ho og kp nm) (hT : Top Pl cb hd hn nm X lim ph m p s l rest S L r zn n z th ko Q) (hm : m < nm) (hp : p < ln m) (hp2 : p < 1000) (hPk : Pk I0 I1 k lim wv wt cb B m p p0 s l rest n z th ko Q n1 z1 ko1 Q1)
    (hL : ∀ I P K, LR I0 k lim wv ((m, p, s, l) :: rest) n1 z1 th ko1 Q1 I P → I 114 16 = nI p0 → (∀ J, SL I0 k lim wv ((m, p, s', l') :: rest) n' z' J P → sL' k I J → ((∃ q, q < wt m ∧ atq B m 1 p q) → J 114 15 = jm) → j_X2_doInstruction_110 (fun I10 P10 => j_X2_takeTurn_134 K I10 P10) (119 + 3 * rest.length) (nI p') J P) → coT K (119 + 3 * rest.length) (cb m p) I P)
    (hM : ∀ Gb, I1 Gb → ∀ I P K, MR Gb k lim ((m, p, s, l) :: rest) n1 z1 th ko1 Q1 I → I 155 65 = 0 → (∀ J, SM Gb k lim ((m, p', s', l') :: rest) n' z' J → sM I J → dnK K m p (cb m p) p0 rest.length jm J P) → w_X10_done (nI m) (nI p) (nI (cb m p)) (nI p0) I P (fun v5 I5 P5 => dnK K m p (cb m p) p0 rest.length v5 I5 P5))
    (nx : Nxt Pl m p' s2 l2 98 φ) (hS : TyS (n' 2) s' s2) (hLc : TyL (n' 2) l' l2) (e2 : n1 2 ≤ n' 2) (e30 : n' 2 ≤ 30) (e5 : ∀ i, 50 ≤ i → n' i = n1 i) (e0 : n' 0 = n1 0) (e4 : n' 4 = n1 4) (e50 : ∀ r, r < n' 2 → n' (10 + r) ≤ 50) (h7 : (∃ q, q < wt m ∧ atq B m 7 p q) → ∃ y r, s' = Sum.inl y :: r) (h4 : (∃ q, q < wt m ∧ atq B m 4 p q) → (∃ kc, stc (cb m p) (cb m (p + 1)) s n kc) ∧ n' = n1) (hj : jm = 0 ∨ jm = 1) (h42 : cb m p ≠ 42)
    (hk2 : ko2 = none ∨ (ko2 = ko1 ∧ Q2 = Q1 ∧ n' = n1)) (hz : ∀ zn', φ zn' → zn'.1 ≠ 1 ∧ ∀ q, zn'.2.2.2 q → zn'.1 = 3 ∧ Q2 q ∧ ∃ v, ko2 = some v) : Trn Pl cb hd hn nm X lim I0 I1 k wv ph ((m, p, s, l) :: rest) n z th ko Q := by
  obtain ⟨t1, t2, t3, t4, t5, t6, t7, t8⟩ := hT
  obtain ⟨⟨u1, u2, u3, u4⟩, hl, uz, kp, goL, goM⟩ := hPk
  have t8' := t8
  obtain ⟨N1, N2, N3, N4, N5, N6⟩ := t8
  obtain ⟨g1, g2, g3, g4, g5, g6⟩ := hC.1.2.2 m hm
  have f4 := fun Gb hGb => ((hC.2.1 Gb hGb).2.2 m hm).2.2.1
  have f5 := fun Gb hGb => ((hC.2.1 Gb hGb).2.2 m hm).2.2.2.1
  obtain ⟨d1, d2, d3, d4, d5, d6⟩ := hC.2.2.2.1 m hm
  have k24 := hC.2.2.1
  have w24 := g4.1
  have b256 := (g2.2.2 p hp).1
  have hps := Nx_p hPl nx
  have hpw : 0 < wt m → p < 400 := fun hw => by
    have e2 : k = 2 := by
      by_cases e : k = 2
      · exact e
      · have := g4.2.2.2 e; omega
    have := g2.2.1
    rw [if_pos (by rw [d4, if_neg (by omega)])] at this; omega
  have hkc : ∃ kc ov, (∃ q, q < wt m ∧ atq B m 4 p q) → n' = n1 ∧ ko1 = some (kc, ov) ∧ ∀ q, q < wt m → atq B m 4 p q → Q1 q := by
    by_cases e : ∃ q, q < wt m ∧ atq B m 4 p q
    · obtain ⟨⟨kc, hkc⟩, en⟩ := h4 e
      have e2 : k = 2 := by
        obtain ⟨q, hq, -⟩ := e
        by_cases e : k = 2
        · exact e
        · have := g4.2.2.2 e; omega
      exact ⟨kc, kcv kc z, fun _ => ⟨en, (kp.2 e2).1 kc hkc, (kp.2 e2).2⟩⟩
    · exact ⟨Sum.inl 0, 0, fun y => absurd y e⟩
  obtain ⟨kc, ov, hkc⟩ := hkc
  obtain ⟨i1, i2, i3, i4⟩ := bh_i (B := B) (m := m) (p := p) (jm := jm) (ov := ov) (cv := kcv kc z') (xq := xq) (t := (n', z', s')) (wt m)
  dsimp only at i1 i2 i3 i4
  have j2 := i3 2 (by omega)
  have j0 := i3 0 (by omega)
  obtain ⟨ph', hlt, hI⟩ := Inv_mk (X := X) (n := n) (n' := (bhT B m p jm ov (kcv kc z') xq (n', z', s') (wt m)).1) (z' := (bhT B m p jm ov (kcv kc z') xq (n', z', s') (wt m)).2.1) (th := th) (ko := ko2) (Q := Q2) (s' := (bhT B m p jm ov (kcv kc z') xq (n', z', s') (wt m)).2.2) (l' := l') (rest := rest) (cb := cb) (hd := hd) (hn := hn) (nm := nm) t8' nx (fun r' hr' => by
      have := ufn_mono (X := X) (n := n) (n' := (bhT B m p jm ov (kcv kc z') xq (n', z', s') (wt m)).1) 24 (fun q _ => by rw [i3 _ (by omega), e5 _ (by omega)]; exact (u4 _ (by omega)).1)
      rw [t7]; unfold phi
      rw [j0, e0, u1]; omega) (by rw [j2]; exact bh_ty hS h7) (by rw [j2]; exact hLc) (fun x hx => FcI_m (by rw [j2]; have := u3 2 (by omega) (by omega) (by omega); omega) (t5 x hx)) t1 (fun zn' hz' => by
      obtain ⟨a, b⟩ := hz zn' hz'
      exact ⟨fun e => absurd e a, fun q hq => (b q hq).2.1, fun e ⟨q, hq⟩ => by have := (b q hq).1; omega, fun _ ⟨q, hq⟩ => (b q hq).2.2⟩) (by rw [j0, e0, u1]; omega) (by rw [j2]; exact e30) (by omega) (fun q _ => by rw [i3 _ (by omega), e5 _ (by omega)]; exact (u4 _ (by omega)).2) (fun r hr => by rw [j2] at hr; rw [i3 _ (by omega)]; exact e50 r hr)
  refine Or.inl ⟨ph', _, _, _, th, ko2, Q2, hlt, hI, fun I P K h kk => ?_, fun Gb hGb I P K h kk => ?_⟩
  · show w_X2_takeTurn (119 + 3 * (rest.length + 1 - 1)) I P K
    rw [Nat.add_sub_cancel]
    refine goL I P K h (fun I2 h2 h16 => hL I2 P K h2 h16 (fun J hJ g h15 => ?_))
    obtain ⟨e, hf, -, -⟩ := L_pl hJ
    have hk := hJ.1.1
    unfold j_X2_doInstruction_110
    refine zip (by rw [g.1 10 (by omega) (by omega)]; exact h2.2.1) (L_beh (kc := kc) (jm := jm) (ov := ov) (cv := kcv kc z') (xq := xq) hJ g1 g4 hC.1.2.1 g5 d5 hp2 hpw (fun q hq => (hC.2.2.2.2.1 q (by omega)).1) (fun y => ?_) h7 (fun y => ⟨h15 y, hj⟩) (by omega) (fun J2 hJ2 g2' => ⟨shF hf, ?_⟩))
    · obtain ⟨a1, a2, a3⟩ := hkc y
      obtain ⟨q, hq, aq⟩ := y
      obtain ⟨b1, b2⟩ := h2.2.2.2.2 kc ov q a2 (a3 q hq aq)
      exact ⟨by rw [a1]; exact kcL_c b1 (fun _ _ => rfl) (g.1 13 (by omega) (by omega)), by rw [g.1 14 (by omega) (by omega)]; exact b2, rfl⟩
    · unfold j_X2_takeTurn_134
      have gg : sL k J2 (zu J2 (119 + 3 * rest.length) 5 (nI p')) := ⟨fun j _ => zu_nc (by omega), fun j _ => zu_nc (by omega)⟩
      have g3 := sL_t g2' gg
      have x114 : ∀ j, 10 ≤ j → j ≠ 15 → zu J2 (119 + 3 * rest.length) 5 (nI p') 114 j = I2 114 j := fun j a b => by rw [g3.1 j a]; exact g.1 j a b
      refine zip (by rw [x114 10 (by omega) (by omega)]; exact h2.2.1) (kk _ P ⟨L_place hJ2 hps, by rw [x114 10 (by omega) (by omega)]; exact h2.2.1, ⟨?_, ?_, ?_, ?_⟩, fun a b e => ?_, fun kc' ov' q e hq => ?_⟩)
      · rw [g3.2 4 (by omega), g.2 4 (by omega)]; exact h2.2.2.1.1
      · rw [g3.2 5 (by omega), g.2 5 (by omega)]; exact h2.2.2.1.2.1
      · rw [g3.2 9 (by omega), g.2 9 (by omega)]; exact h2.2.2.1.2.2.1
      · rw [g3.2 10 (by omega), g.2 10 (by omega)]; exact h2.2.2.1.2.2.2
      · rw [x114 11 (by omega) (by omega), x114 12 (by omega) (by omega)]; exact h2.2.2.2.1 a b e
      · rcases hk2 with y | ⟨y1, y2, y3⟩
        · rw [y] at e; cases e
        · rw [y1] at e
          rw [y2] at hq
          obtain ⟨b1, b2⟩ := h2.2.2.2.2 kc' ov' q e hq
          exact ⟨kcL_c b1 (fun i hi => by rw [i3 i hi, y3]) (x114 13 (by omega) (by omega)), by rw [x114 14 (by omega) (by omega)]; exact b2⟩
  · refine goM Gb hGb I P K h (fun I2 h2 h65 => hM Gb hGb I2 P K h2 h65 (fun J hJ g => ?_))
    obtain ⟨hf, e1⟩ := M_f1 hJ
    unfold dnK
    refine zip (by rw [g.1 65 (by omega)]; exact h65) (zip e1 (zip (by rw [g.1 52 (by omega)]; exact h2.2.1) (zin (by first | omega | decide | (simp (maxSteps := 400000) (disch := omega) only [q_lit, q_neg, nI_ltI, nI_leI, nI_eq, nI_add, pk_mul, pk_sub, nI_clamp, vp_q, zu_same, zu_nc, zu_nj, ng_lt, ng_le, ng_gt, ng_ge, ng_eq, ng_qe, ng_ee, ng_add, not_false_eq_true, not_true_eq_false, ne_eq]; done) | (simp (maxSteps := 400000) (disch := omega) only [q_lit, q_neg, nI_ltI, nI_leI, nI_eq, nI_add, pk_mul, pk_sub, nI_clamp, vp_q, zu_same, zu_nc, zu_nj, ng_lt, ng_le, ng_gt, ng_ge, ng_eq, ng_qe, ng_ee, ng_add, not_false_eq_true, not_true_eq_false, ne_eq]; omega)) (M_beh (kc := kc) (jm := jm) (ov := ov) (cv := kcv kc z') (xq := xq) hJ (f4 Gb hGb) (hC.2.1 Gb hGb).2.1 (f5 Gb hGb) hp2 (fun q hq => (hC.2.2.2.2.1 q (by omega)).2.1 Gb hGb) (fun q hq aq => ?_) h7 hj (by omega) (fun J2 hJ2 g2' => kk J2 ⟨hJ2, ?_, fun a b e => ?_, fun kc' ov' q e hq => ?_⟩)))))
    · obtain ⟨a1, a2, a3⟩ := hkc ⟨q, hq, aq⟩
      obtain ⟨b1, b2⟩ := h2.2.2.2 kc ov q a2 (a3 q hq aq)
      exact ⟨by rw [a1]; exact kcM_c b1 (fun _ _ => rfl) g.2, by rw [g.2 205 q (by omega)]; exact b2, rfl⟩
    · rw [g2'.1 52 (by omega), g.1 52 (by omega)]; exact h2.2.1
    · rw [g2'.1 67 (by omega), g.1 67 (by omega), g2'.1 66 (by omega), g.1 66 (by omega)]; exact h2.2.2.1 a b e
    · rcases hk2 with y | ⟨y1, y2, y3⟩
      · rw [y] at e; cases e
      · rw [y1] at e
        rw [y2] at hq
        obtain ⟨b1, b2⟩ := h2.2.2.2 kc' ov' q e hq
        exact ⟨kcM_c b1 (fun i hi => by rw [i3 i hi, y3]) (fun c j hc => by rw [g2'.2 c j hc]; exact g.2 c j hc), by rw [g2'.2 205 q (by omega), g.2 205 q (by omega)]; exact b2⟩
/-- a throw of the INSTRUCTION itself -/
theorem tI_thr {m p ph r p0 kd : Nat} {s : List Va} {l : Nat → Va} {rest : List Frm} {S : List Nat} {L : Nat → Nat} {zn : Zn} {th : Th} {ko ko1 : Ko} {Q Q1 : Nat → Prop} {n1 : nuN} {z1 : nuZ} (hC : Cg I0 I1 k wv wt hn ln ar X Y cb hd B ho og xq kp nm) (hT : Top Pl cb hd hn nm X lim ph m p s l rest S L r zn n z th ko Q) (hm : m < nm) (hp2 : p < 1000) (hv : Hcv Pl hd hn m p L) (hPk : Pk I0 I1 k lim wv wt cb B m p p0 s l rest n z th ko Q n1 z1 ko1 Q1) (hkd : 1 ≤ kd ∧ kd ≤ 105)
    (hL : ∀ I P K, LR I0 k lim wv ((m, p, s, l) :: rest) n1 z1 th ko1 Q1 I P → I 114 16 = nI p0 → (∀ J s', SL I0 k lim wv ((m, p, s', l) :: rest) n1 z1 J P → tL k m (nI kd) I J → j_X2_takeTurn_134 K J P) → coT K (119 + 3 * rest.length) (cb m p) I P)
    (hM : ∀ Gb, I1 Gb → ∀ I P K, MR Gb k lim ((m, p, s, l) :: rest) n1 z1 th ko1 Q1 I → I 155 65 = 0 → (∀ J s', SM Gb k lim ((m, p, s', l) :: rest) n1 z1 J → tM (nI kd) I J → dnK K m p (cb m p) p0 rest.length 0 J P) → w_X10_done (nI m) (nI p) (nI (cb m p)) (nI p0) I P (fun v5 I5 P5 => dnK K m p (cb m p) p0 rest.length v5 I5 P5)) : Trn Pl cb hd hn nm X lim I0 I1 k wv ph ((m, p, s, l) :: rest) n z th ko Q := by
  obtain ⟨t1, t2, t3, t4, t5, t6, t7, t8⟩ := hT
  obtain ⟨⟨u1, u2, u3, u4⟩, hl, uz, kp, goL, goM⟩ := hPk
  have t8' := t8
  obtain ⟨N1, N2, N3, N4, N5, N6⟩ := t8
  have j2 := u3 2 (by omega) (by omega) (by omega)
  refine thr_trn (n := n1) (z := z1) (kd := kd) (m := m) (p := p) (l := l) (rest := rest) (L := L) (a := nI p0) (b := nI m) hC hkd hm hp2 hv (by rw [j2]; exact t4) (by rw [j2]; exact t5) t1 t8' (by omega) (by omega) (by omega) (fun q _ => (u4 _ (by omega)).2) (fun r hr => ?_) (fun d r' hd hr' => ?_) (fun I P K h kk => ?_) (fun Gb hGb I P K h kk => ?_)
  · rw [u3 _ (by omega) (by omega) (by omega)]; exact N6 r (by omega)
  · have := ufn_mono (X := X) (n := n) (n' := n1) 24 (fun q _ => (u4 _ (by omega)).1)
    rw [t7]; unfold phi
    rw [u1]; omega
  · show w_X2_takeTurn (119 + 3 * (rest.length + 1 - 1)) I P K
    rw [Nat.add_sub_cancel]
    refine goL I P K h (fun I2 h2 h16 => hL I2 P K h2 h16 (fun J s' hJ t => kk J s' hJ t.1 (by rw [t.2.1]; exact h16) t.2.2.1 ⟨?_, ?_, ?_, ?_⟩))
    · rw [t.2.2.2 4 (by omega)]; exact h2.2.2.1.1
    · rw [t.2.2.2 5 (by omega)]; exact h2.2.2.1.2.1
    · rw [t.2.2.2 9 (by omega)]; exact h2.2.2.1.2.2.1
    · rw [t.2.2.2 10 (by omega)]; exact h2.2.2.1.2.2.2
  · refine goM Gb hGb I P K h (fun I2 h2 h65 => hM Gb hGb I2 P K h2 h65 (fun J s' hJ t => ?_))
    unfold dnK
    refine zin (by rw [t.1]; first | omega | decide | (simp (maxSteps := 400000) (disch := omega) only [q_lit, q_neg, nI_ltI, nI_leI, nI_eq, nI_add, pk_mul, pk_sub, nI_clamp, vp_q, zu_same, zu_nc, zu_nj, ng_lt, ng_le, ng_gt, ng_ge, ng_eq, ng_qe, ng_ee, ng_add, not_false_eq_true, not_true_eq_false, ne_eq]; done) | (simp (maxSteps := 400000) (disch := omega) only [q_lit, q_neg, nI_ltI, nI_leI, nI_eq, nI_add, pk_mul, pk_sub, nI_clamp, vp_q, zu_same, zu_nc, zu_nj, ng_lt, ng_le, ng_gt, ng_ge, ng_eq, ng_qe, ng_ee, ng_add, not_false_eq_true, not_true_eq_false, ne_eq]; omega)) (kk _ s' (SM_aux hJ (fun c j a b => ?_)) ?_ ?_ ?_ ?_)
    · rw [zu_ne (by omega), zu_ne (by omega)]
    · rw [zu_nj (by omega), zu_nj (by omega)]; exact t.1
    · rw [zu_nj (by omega), zu_same]
    · rw [zu_same]
    · rw [zu_nj (by omega), zu_nj (by omega), t.2.1 52 (by omega)]; exact h2.2.1
end
