/-! PURE 84: RUN: a turn that throws; OLD, FAULT, AGAIN; the jump of a PAD -/
def tl4 (k : Nat) (J : zI) : Prop := J (93 + 5 * k) 4 = -1 ∧ J (93 + 5 * k) 5 = 0 ∧ J (93 + 5 * k) 9 = -1 ∧ J (93 + 5 * k) 10 = -1
section
variable {I0 I Gb : zI} {I1 : zI → Prop} {k lim kp nm : Nat} {wv wt hn ln ar X Y : nuN} {cb hd B ho og : Nat → Nat → Nat} {xq : Nat → Int32} {Pl : PlT} {n n2 : nuN} {z z2 : nuZ} {P : zP}
theorem j134_u {kd f : Nat} {K : zI → zP → Prop} {J : zI} (hkd : 1 ≤ kd ∧ kd ≤ 105) (t10 : J 114 10 = nI kd) (h : l_X2_unwind_10 K f (nI kd) (zu J 114 10 0) P) : j_X2_takeTurn_134 K J P := by
  unfold j_X2_takeTurn_134 w_X2_unwind
  rw [t10]
  exact zin (by first | omega | decide | (simp (maxSteps := 400000) (disch := omega) only [q_lit, q_neg, nI_ltI, nI_leI, nI_eq, nI_add, pk_mul, pk_sub, nI_clamp, vp_q, zu_same, zu_nc, zu_nj, ng_lt, ng_le, ng_gt, ng_ge, ng_eq, ng_qe, ng_ee, ng_add, not_false_eq_true, not_true_eq_false, ne_eq]; done) | (simp (maxSteps := 400000) (disch := omega) only [q_lit, q_neg, nI_ltI, nI_leI, nI_eq, nI_add, pk_mul, pk_sub, nI_clamp, vp_q, zu_same, zu_nc, zu_nj, ng_lt, ng_le, ng_gt, ng_ge, ng_eq, ng_qe, ng_ee, ng_add, not_false_eq_true, not_true_eq_false, ne_eq]; omega)) ⟨f, h⟩
theorem L_thrC {kd m p : Nat} {s' : List Va} {l : Nat → Va} {rest fs' : List Frm} {K : zI → zP → Prop} {J : zI} {a b : Int32} (ou : ∀ s, OuC I0 I1 k lim kd wv ((m, p, s, l) :: rest) n z fs' n2 z2) (hkd : 1 ≤ kd ∧ kd ≤ 105) (hJ : SL I0 k lim wv ((m, p, s', l) :: rest) n z J P) (t10 : J 114 10 = nI kd) (t11 : J 114 11 = a) (t12 : J 114 12 = b) (tl : tl4 k J) (kk : ∀ J2, LR I0 k lim wv fs' n2 z2 (some (a, b)) none (fun _ => False) J2 P → K J2 P) : j_X2_takeTurn_134 K J P := by
  have hk := hJ.1.1
  refine j134_u hkd t10 ((ou s').1 (zu J 114 10 0) P K (SL_aux hJ (fun c j q => zu_ne (by omega))) (fun J2 hJ2 g => kk J2 ⟨hJ2, ?_, ⟨?_, ?_, ?_, ?_⟩, fun a' b' e => ?_, fun kc ov q e _ => by cases e⟩))
  · rw [g.1 10 (by omega), zu_same]
  · rw [g.2 4 (by omega), zu_nc (by omega)]; exact tl.1
  · rw [g.2 5 (by omega), zu_nc (by omega)]; exact tl.2.1
  · rw [g.2 9 (by omega), zu_nc (by omega)]; exact tl.2.2.1
  · rw [g.2 10 (by omega), zu_nc (by omega)]; exact tl.2.2.2
  · injection e with e
    injection e with e1 e2
    rw [g.1 11 (by omega), g.1 12 (by omega), zu_nj (by omega), zu_nj (by omega), ← e1, ← e2]
    exact ⟨t11, t12⟩
theorem L_thrE {kd m p : Nat} {s' : List Va} {l : Nat → Va} {rest : List Frm} {K : zI → zP → Prop} {J : zI} {a b : Int32} (ou : ∀ s, OuE I0 I1 k lim kd wv ((m, p, s, l) :: rest) n z n2 z2) (hkd : 1 ≤ kd ∧ kd ≤ 105) (hJ : SL I0 k lim wv ((m, p, s', l) :: rest) n z J P) (t10 : J 114 10 = nI kd) (t11 : J 114 11 = a) (t12 : J 114 12 = b) (kk : ∀ J2, LE I0 k lim wv [] n2 z2 1 (nI kd) a b J2 P → K J2 P) : j_X2_takeTurn_134 K J P := by
  refine j134_u hkd t10 ((ou s').1 (zu J 114 10 0) P K (SL_aux hJ (fun c j q => zu_ne (by omega))) (fun J2 hJ2 g => kk J2 ⟨hJ2, g.1, g.2.1, ?_, ?_⟩))
  · rw [g.2.2.1, zu_nj (by omega)]; exact t11
  · rw [g.2.2.2, zu_nj (by omega)]; exact t12
theorem M_thrC {kd m p : Nat} {s' : List Va} {l : Nat → Va} {rest fs' : List Frm} {K : zI → zP → Prop} {J : zI} {a b : Int32} (hGb : I1 Gb) (ou : ∀ s, OuC I0 I1 k lim kd wv ((m, p, s, l) :: rest) n z fs' n2 z2) (hJ : SM Gb k lim ((m, p, s', l) :: rest) n z J) (t65 : J 155 65 = nI kd) (t66 : J 155 66 = b) (t67 : J 155 67 = a) (t52 : J 155 52 = -1) (kk : ∀ J2, MR Gb k lim fs' n2 z2 (some (a, b)) none (fun _ => False) J2 → K J2 P) : w_X10_isThrown J P K := by
  unfold w_X10_isThrown
  refine ⟨_, (ou s').2 Gb hGb J P K hJ t65 (fun J2 hJ2 g => kk J2 ⟨hJ2, by rw [g.1 52 (by omega)]; exact t52, fun a' b' e => ?_, fun kc ov q e _ => by cases e⟩)⟩
  injection e with e
  injection e with e1 e2
  rw [g.1 67 (by omega), g.1 66 (by omega), ← e1, ← e2]
  exact ⟨t67, t66⟩
theorem M_thrE {kd m p : Nat} {s' : List Va} {l : Nat → Va} {rest : List Frm} {K : zI → zP → Prop} {J : zI} {a b : Int32} (hGb : I1 Gb) (ou : ∀ s, OuE I0 I1 k lim kd wv ((m, p, s, l) :: rest) n z n2 z2) (hJ : SM Gb k lim ((m, p, s', l) :: rest) n z J) (t65 : J 155 65 = nI kd) (t66 : J 155 66 = b) (t67 : J 155 67 = a) (kk : ∀ J2, ME Gb k lim [] n2 z2 1 (nI kd) a b J2 → K J2 P) : w_X10_isThrown J P K := by
  unfold w_X10_isThrown
  refine ⟨_, (ou s').2 Gb hGb J P K hJ t65 (fun J2 hJ2 g => kk J2 ⟨hJ2, g.1, Or.inr (Or.inl ⟨rfl, ?_, ?_, ?_⟩)⟩)⟩
  · rw [g.2 65 (by omega)]; exact t65
  · rw [g.2 67 (by omega)]; exact t67
  · rw [g.2 66 (by omega)]; exact t66
/-- whatever throws: the turn is done -/
theorem thr_trn {kd m p ph : Nat} {l : Nat → Va} {rest fs0 : List Frm} {L : Nat → Nat} {n0 : nuN} {z0 : nuZ} {th : Th} {ko : Ko} {Q : Nat → Prop} {a b : Int32} (hC : Cg I0 I1 k wv wt hn ln ar X Y cb hd B ho og xq kp nm) (hkd : 1 ≤ kd ∧ kd ≤ 105) (hm : m < nm) (hp : p < 1000) (hv : Hcv Pl hd hn m p L) (hl : TyL (n 2) l L) (hrest : ∀ x, x ∈ rest → FcI Pl cb hd hn nm (n 2) x) (h12 : rest.length < 12) (hN : Num lim ph n0) (b0 : n 0 ≤ lim) (b2 : n 2 ≤ 30) (b4 : n 4 ≤ n0 4 + 300) (b5 : ∀ q, q < 24 → n (50 + q) ≤ n0 (50 + q) + 1) (b50 : ∀ r, r < n 2 → n (10 + r) ≤ 50) (hph : ∀ d r, d ≤ rest.length + 1 → r < 98 → phi X lim d n r < ph)
    (goL : ∀ I P K, LR I0 k lim wv fs0 n0 z0 th ko Q I P → (∀ J s', SL I0 k lim wv ((m, p, s', l) :: rest) n z J P → J 114 10 = nI kd → J 114 11 = a → J 114 12 = b → tl4 k J → j_X2_takeTurn_134 K J P) → w_X2_takeTurn (119 + 3 * (fs0.length - 1)) I P K)
    (goM : ∀ Gb, I1 Gb → ∀ I P K, MR Gb k lim fs0 n0 z0 th ko Q I → (∀ J s', SM Gb k lim ((m, p, s', l) :: rest) n z J → J 155 65 = nI kd → J 155 66 = b → J 155 67 = a → J 155 52 = -1 → w_X10_isThrown J P K) → w_X10_step I P K) : Trn Pl cb hd hn nm X lim I0 I1 k wv ph fs0 n0 z0 th ko Q := by
  rcases thr_ok (z := z) (l := l) hC hkd hm hp hv hl hrest h12 hN b0 b2 b4 b5 b50 hph with ⟨fs', n', z', ou, inv⟩ | ⟨n', z', ou⟩
  · obtain ⟨ph', hlt, hI⟩ := inv (some (a, b)) (by simp)
    exact Or.inl ⟨ph', fs', n', z', _, _, _, hlt, hI, fun I P K h kk => goL I P K h (fun J s' hJ t10 t11 t12 tl => L_thrC ou hkd hJ t10 t11 t12 tl (fun J2 h2 => kk J2 P h2)), fun Gb hGb I P K h kk => goM Gb hGb I P K h (fun J s' hJ t65 t66 t67 t52 => M_thrC hGb ou hJ t65 t66 t67 t52 kk)⟩
  · exact Or.inr ⟨[], n', z', 1, nI kd, a, b, by decide, fun I P K h kk => goL I P K h (fun J s' hJ t10 t11 t12 _ => L_thrE ou hkd hJ t10 t11 t12 (fun J2 h2 => kk J2 P h2)), fun Gb hGb I P K h kk => goM Gb hGb I P K h (fun J s' hJ t65 t66 t67 _ => M_thrE hGb ou hJ t65 t66 t67 kk)⟩
theorem stc_u {c b : Nat} {s : List Va} {kc kc' : Kc} (h30 : n 2 ≤ 30) (hz : ∀ r, r < n 2 → n (10 + r) ≤ 50) (h : stc c b s n kc) (h' : stc c b s n kc') : kc = kc' := by
  rcases h with ⟨e, ek⟩ | ⟨e, y, i, r, t, es, hr, hi, ek⟩
  · rcases h' with ⟨e', ek'⟩ | ⟨e', -⟩
    · rw [ek, ek']
    · omega
  · rcases h' with ⟨e', -⟩ | ⟨e', y', i', r', t', es', hr', hi', ek'⟩
    · omega
    · rw [es] at es'
      injection es' with _ es'
      injection es' with ex es'
      injection es' with er _
      have ex := Sum.inl.inj ex
      obtain rfl : r = r' := Sum.inr.inj er
      have := hz r hr
      have : i = i' := (nI_eq (by omega) (by omega)).mp ex
      rw [ek, ek', this]
theorem ko_ex {c b : Nat} {s : List Va} (h30 : n 2 ≤ 30) (hz : ∀ r, r < n 2 → n (10 + r) ≤ 50) : ∃ ko' : Ko, (∀ kc, stc c b s n kc → ko' = some (kc, kcv kc z)) ∧ ∀ kc ov, ko' = some (kc, ov) → stc c b s n kc ∧ ov = kcv kc z := by
  by_cases h : ∃ kc, stc c b s n kc
  · obtain ⟨kc, hk⟩ := h
    refine ⟨some (kc, kcv kc z), fun kc' h' => by rw [stc_u h30 hz hk h'], fun kc' ov e => ?_⟩
    injection e with e
    injection e with e1 e2
    subst e1
    exact ⟨hk, e2.symm⟩
  · exact ⟨none, fun kc hk => absurd ⟨kc, hk⟩ h, fun kc ov e => by cases e⟩
/-- the reference looks for the INSTRUCTION that is ahead -/
theorem M_lkO {m p0 c0 b0 q : Nat} {s : List Va} {l : Nat → Va} {p' : Nat} {fs : List Frm} {K : zI → zP → Prop} (hm : m < 6) (hq : q < 24) (h : SM Gb k lim ((m, p', s, l) :: fs) n z I) (hc : CdM Gb k wv cb ln m) (hw : wv m = 1) (hog : ∀ i, i < ln m → Gb 178 (1000 * m + i) = oM (og m i)) (hst : stf c0 b0 s n) (kk : ∀ J, SM Gb k lim ((m, p', s, l) :: fs) n z J → sV I J → (∀ c j, 205 ≤ c ∧ c ≤ 207 → j ≠ q → J c j = I c j) → (∀ kc, stc c0 b0 s n kc → kcM kc n q J ∧ J 205 q = kcv kc z) → K J P) : ∀ j p, p + 2 * j < ln m → og m (p + 2 * j) = p0 + 1 → cb m (p + 2 * j) = c0 → (c0 = 35 → p + 2 * j + 1 < ln m ∧ cb m (p + 2 * j + 1) = b0) → p0 < 400 → (∀ i, i < j → og m (p + 2 * i) = 0 ∧ (cb m (p + 2 * i) = 48 ∨ cb m (p + 2 * i) = 51 ∨ cb m (p + 2 * i) = 53 ∨ cb m (p + 2 * i) = 56)) → l_X10_oldWoven_3 K (j + 1) (nI m) (nI q) (nI p) I P := by
  have lnm : ln m ≤ 1000 := by have := hc.2.2.1; rw [if_neg (by omega)] at this; exact this
  have cd : ∀ i, i < ln m → I 176 (1000 * m + i) = nI (cb m i) := fun i hi => by rw [M_s0 h (by unfold rcM; omega)]; exact (hc.2.2.2 i hi).2.2 hw
  have cg : ∀ i, i < ln m → I 178 (1000 * m + i) = oM (og m i) := fun i hi => by rw [M_s0 h (by unfold rcM; omega)]; exact hog i hi
  intro j
  induction j with
  | zero =>
    intro p h1 h2 h3 h4 h5 _
    rw [Nat.mul_zero, Nat.add_zero] at h1 h2 h3 h4
    have v : vp_in (nI (1000 * m + p)) 6000 := vp_in_nI (by omega) (by decide)
    rw [l_X10_oldWoven_3, e1000, nI_clamp (by omega), cg p h1, cd p h1, h2, oM_s, h3]
    refine ⟨v, zin (by first | omega | decide | (simp (maxSteps := 400000) (disch := omega) only [q_lit, q_neg, nI_ltI, nI_leI, nI_eq, nI_add, pk_mul, pk_sub, nI_clamp, vp_q, zu_same, zu_nc, zu_nj, ng_lt, ng_le, ng_gt, ng_ge, ng_eq, ng_qe, ng_ee, ng_add, not_false_eq_true, not_true_eq_false, ne_eq]; done) | (simp (maxSteps := 400000) (disch := omega) only [q_lit, q_neg, nI_ltI, nI_leI, nI_eq, nI_add, pk_mul, pk_sub, nI_clamp, vp_q, zu_same, zu_nc, zu_nj, ng_lt, ng_le, ng_gt, ng_ge, ng_eq, ng_qe, ng_ee, ng_add, not_false_eq_true, not_true_eq_false, ne_eq]; omega)) ⟨v, v, ?_⟩⟩
    by_cases e : c0 = 35
    · obtain ⟨h6, h7⟩ := h4 e
      refine zip (by rw [e]; rfl) ?_
      unfold j_X10_oldWoven_95
      rw [nI_1, nI_clamp (by omega), show 1000 * m + p + 1 = 1000 * m + (p + 1) by omega, cd _ h6, h7]
      exact ⟨vp_in_nI (by omega) (by decide), M_old hq (by omega) h (fun _ => rfl) hst kk⟩
    · have c256 := (hc.2.2.2 p h1).1
      refine zin (by first | omega | decide | (simp (maxSteps := 400000) (disch := omega) only [q_lit, q_neg, nI_ltI, nI_leI, nI_eq, nI_add, pk_mul, pk_sub, nI_clamp, vp_q, zu_same, zu_nc, zu_nj, ng_lt, ng_le, ng_gt, ng_ge, ng_eq, ng_qe, ng_ee, ng_add, not_false_eq_true, not_true_eq_false, ne_eq]; done) | (simp (maxSteps := 400000) (disch := omega) only [q_lit, q_neg, nI_ltI, nI_leI, nI_eq, nI_add, pk_mul, pk_sub, nI_clamp, vp_q, zu_same, zu_nc, zu_nj, ng_lt, ng_le, ng_gt, ng_ge, ng_eq, ng_qe, ng_ee, ng_add, not_false_eq_true, not_true_eq_false, ne_eq]; omega)) ?_
      unfold j_X10_oldWoven_95
      rw [show nI (1000 * m + p) + 0 = nI (1000 * m + p) from by rw [q_lit 0, nI_add]; rfl]
      exact ⟨v, M_old hq (by omega) h (fun e' => absurd e' e) hst kk⟩
  | succ j ih =>
    intro p h1 h2 h3 h4 h5 h6
    have v : vp_in (nI (1000 * m + p)) 6000 := vp_in_nI (by omega) (by decide)
    obtain ⟨o, oc⟩ := h6 0 (by omega)
    rw [Nat.mul_zero, Nat.add_zero] at o oc
    have es : p + 2 * (j + 1) = p + 2 + 2 * j := by omega
    rw [es] at h1 h2 h3 h4
    have nx := ih (p + 2) h1 h2 h3 h4 h5 (fun i hi => by
      have := h6 (i + 1) (by omega)
      rw [show p + 2 * (i + 1) = p + 2 + 2 * i by omega] at this
      exact this)
    rw [l_X10_oldWoven_3, e1000, nI_clamp (by omega), cg p (by omega), cd p (by omega), o, v_sizeOf]
    refine ⟨v, zip rfl ⟨v, ?_⟩⟩
    have sz : szI (nI (cb m p)) 0 = nI 2 := by rcases oc with e | e | e | e <;> rw [e] <;> decide
    rw [sz, nI_add]; exact nx
theorem tW_53 {m p ph r : Nat} {s : List Va} {l : Nat → Va} {rest : List Frm} {S : List Nat} {L : Nat → Nat} {zn : Zn} {th : Th} {ko : Ko} {Q : Nat → Prop} {p0 c0 b0 sp : Nat} (hC : Cg I0 I1 k wv wt hn ln ar X Y cb hd B ho og xq kp nm) (hPl : PlOk Pl I0 wv hn ln ar cb hd B ho og kp nm) (hT : Top Pl cb hd hn nm X lim ph m p s l rest S L r zn n z th ko Q) (hm : m < nm) (hp : p < ln m) (hw : wv m = 1) (hp1 : p + 1 < ln m) (hq : cb m (p + 1) < kp) (ec : cb m p = 53) (hR : Rch ln cb ho og m p p0 sp) (h1 : cb m sp = c0) (h2 : c0 = 35 → sp + 1 < ln m ∧ cb m (sp + 1) = b0 ∧ b0 < 8) (h3 : c0 = 35 ∨ c0 = 39) (h4 : c0 = 39 → ∃ S', S = 1 :: 1 :: 2 :: S') (h5 : c0 = 35 → p0 + 1 < 400) (h6 : I0 (21 + 12 * m) p0 = nI c0) (h7 : c0 = 35 → I0 (21 + 12 * m) (p0 + 1) = nI b0) (nx : Nxt Pl m (p + 2) S L r (fun z' => z'.1 = 2 ∧ z'.2.1 = c0 ∧ z'.2.2.1 = b0 ∧ ∀ q, z'.2.2.2 q → q = cb m (p + 1) ∨ (zn.1 = 2 ∧ zn.2.1 = c0 ∧ zn.2.2.1 = b0 ∧ zn.2.2.2 q))) : Trn Pl cb hd hn nm X lim I0 I1 k wv ph ((m, p, s, l) :: rest) n z th ko Q := by
  obtain ⟨t1, t2, t3, t4, t5, t6, t7, t8⟩ := hT
  obtain ⟨c1, c2, c3, c4⟩ := Cg_m hC hm hp
  have hps := Nx_p hPl nx
  have k24 := hC.2.2.1
  have hm6 : m < 6 := by have := hC.1.1; omega
  obtain ⟨r1, r2, j, r3, r4, r5, r6⟩ := hR
  have hst : stf c0 b0 s n := by
    rcases h3 with e | e
    · exact Or.inl ⟨e, (h2 e).2.2⟩
    · obtain ⟨S', eS⟩ := h4 e
      subst eS
      obtain ⟨y, s1, e1, q1⟩ := TyS_i t3
      obtain ⟨x, s2, e2, q2⟩ := TyS_i q1
      obtain ⟨w, s3, e3, q3, -⟩ := TyS_r q2
      exact Or.inr ⟨e, Sum.inl y, x, w, s3, by rw [e1, e2, e3], q3⟩
  obtain ⟨ko', k1, k2⟩ := ko_ex (z := z) (c := c0) (b := b0) (s := s) t8.2.2.1 t8.2.2.2.2.2
  obtain ⟨ph', hlt, hI⟩ := Inv_mk (X := X) (n := n) (n' := n) (z' := z) (th := th) (ko := ko') (Q := fun q => q = cb m (p + 1) ∨ (zn.1 = 2 ∧ zn.2.1 = c0 ∧ zn.2.2.1 = b0 ∧ zn.2.2.2 q)) (s' := s) (l' := l) (rest := rest) (cb := cb) (hd := hd) (hn := hn) (nm := nm) t8 nx (fun r' hr' => by rw [t7]; unfold phi; omega) t3 t4 t5 t1 (fun zn' hz' => ⟨fun e => by have := hz'.1; omega, hz'.2.2.2, fun _ _ kc hkc => k1 kc (by rw [hz'.2.1, hz'.2.2.1] at hkc; exact hkc), fun e => by have := hz'.1; omega⟩) t8.1 t8.2.2.1 (by omega) (fun q _ => by omega) t8.2.2.2.2.2
  refine Or.inl ⟨ph', _, n, z, th, ko', _, hlt, hI, fun I P K h kk => ?_, fun Gb hGb I P K h kk => ?_⟩
  · show w_X2_takeTurn (119 + 3 * (rest.length + 1 - 1)) I P K
    rw [Nat.add_sub_cancel]
    refine L_front (cb := cb) (ho := ho) h.1 c1 hp c3 (fun _ _ _ => ?_) (fun e => by omega)
    have h' := LR_16 (x := oM (ho m p)) h
    refine L_wop h'.1 c1 hp1 (by omega) (by omega) ?_
    unfold ldB
    rw [if_neg (by omega), if_neg (by omega), if_neg (by omega), if_neg (by omega), if_neg (by omega), if_pos ec]
    refine L_keep h'.1 (p0 := p0) (by rw [zu_same, r1, oM_s]) r2 h5 h6 h7 hst (fun J hJ g hk => L_190 (sz := 2) hJ (by rw [g.1 10 (by omega) (by omega) (by omega)]; exact h'.2.1) (by omega) (by omega) hps (fun J2 hJ2 g2 => kk J2 P (LR_kp h' hJ2 (sK_t g (sK_w g2)) (fun kc ov q e _ => ?_))))
    obtain ⟨a1, a2⟩ := k2 kc ov e
    obtain ⟨a3, a4⟩ := hk kc a1
    exact ⟨kcL_c a3 (fun _ _ => rfl) (g2.1 13 (by omega)), by rw [g2.1 14 (by omega), a2]; exact a4⟩
  · refine M_front (cb := cb) (og := og) h.1 (c2 Gb hGb) hp (c4 Gb hGb) (fun _ _ => ?_) (fun e => absurd (show 48 ≤ cb m p ∧ cb m p ≤ 58 by omega) e)
    refine M_said (sz := 2) h.1 (c2 Gb hGb) hw hp1 (by omega) (by omega) (by omega) hps (fun J hJ g => ?_)
    unfold sdB
    rw [if_neg (by omega), if_neg (by omega), if_neg (by omega), if_neg (by omega), if_neg (by omega), if_pos ec]
    unfold w_X10_oldWoven
    subst r3
    refine ⟨_, M_lkO (og := og) (c0 := c0) (b0 := b0) (p0 := p0) hm6 (by omega) hJ (c2 Gb hGb) hw (fun i hi => ((hC.2.2.2.2.2.1 m hm).2 (by omega) i hi).2 Gb hGb) hst (fun J2 hJ2 g2 o2 hk => kk J2 (MR_kp h hJ2 (sV_t (sV_w g) g2) (fun kc ov q e hQ => ?_))) j p r4 r5 h1 (fun e => ⟨(h2 e).1, (h2 e).2.1⟩) r2 r6⟩
    obtain ⟨a1, a2⟩ := k2 kc ov e
    by_cases eq : q = cb m (p + 1)
    · subst eq
      rw [a2]
      exact hk kc a1
    · rcases hQ with e' | ⟨z1, z2', z3, z4⟩
      · exact absurd e' eq
      · have old := t6.2.2.1 z1 ⟨q, z4⟩ kc (by rw [z2', z3]; exact a1)
        obtain ⟨a3, a4⟩ := h.2.2.2 kc _ q old (t6.2.1 q z4)
        have o3 : ∀ c, 205 ≤ c ∧ c ≤ 207 → J2 c q = I c q := fun c hc => by rw [o2 c q hc eq]; exact g.2 c q hc
        exact ⟨kcM_q a3 (o3 206 (by omega)) (o3 207 (by omega)), by rw [o3 205 (by omega), a2]; exact a4⟩
end
