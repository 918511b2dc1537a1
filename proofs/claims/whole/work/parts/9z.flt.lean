/-! PURE 85: RUN: turns at FAULT, AGAIN and at the jump of a PAD -/
section
variable {I0 I Gb : zI} {I1 : zI → Prop} {k lim kp nm : Nat} {wv wt hn ln ar X Y : nuN} {cb hd B ho og : Nat → Nat → Nat} {xq : Nat → Int32} {Pl : PlT} {n n2 : nuN} {z z2 : nuZ} {P : zP}
theorem phi_m {d r : Nat} {n' : nuN} (h0 : n' 0 = n 0) (h : ∀ q, q < 24 → n (50 + q) ≤ n' (50 + q)) : phi X lim d n' r ≤ phi X lim d n r := by
  have := ufn_mono (X := X) (n := n) (n' := n') 24 h
  unfold phi
  rw [h0]; omega
/-- the reference looks for the INSTRUCTION whose FAULT throws -/
theorem M_lkF {m p0 q Yq pp : Nat} {s : List Va} {l : Nat → Va} {p' : Nat} {fs : List Frm} {K : zI → zP → Prop} (hm : m < 6) (hq : q < 24) (hpp : pp < 1000) (h : SM Gb k lim ((m, p', s, l) :: fs) n z I) (hc : CdM Gb k wv cb ln m) (hw : wv m = 1) (hog : ∀ i, i < ln m → Gb 178 (1000 * m + i) = oM (og m i)) (hY : Gb 174 q = nI Yq) (kk : ∀ J, SM Gb k lim ((m, pp, s, l) :: fs) n z J → J 155 65 = nI Yq → J 155 66 = nI m → J 155 67 = nI p0 → J 155 52 = I 155 52 → w_X10_isThrown J P (fun I6 P6 => K I6 P6)) : ∀ j p, p + 2 * j < ln m → og m (p + 2 * j) = p0 + 1 → p0 < 400 → (∀ i, i < j → og m (p + 2 * i) = 0 ∧ (cb m (p + 2 * i) = 48 ∨ cb m (p + 2 * i) = 51 ∨ cb m (p + 2 * i) = 53 ∨ cb m (p + 2 * i) = 56)) → l_X10_faultWoven_12 K (j + 1) (nI m) (nI pp) (nI q) (nI p) I P := by
  have lnm : ln m ≤ 1000 := by have := hc.2.2.1; rw [if_neg (by omega)] at this; exact this
  have cd : ∀ i, i < ln m → I 176 (1000 * m + i) = nI (cb m i) := fun i hi => by rw [M_s0 h (by unfold rcM; omega)]; exact (hc.2.2.2 i hi).2.2 hw
  have cg : ∀ i, i < ln m → I 178 (1000 * m + i) = oM (og m i) := fun i hi => by rw [M_s0 h (by unfold rcM; omega)]; exact hog i hi
  have cY : I 174 q = nI Yq := by rw [M_s0 h (by unfold rcM; omega)]; exact hY
  obtain ⟨hf, e1⟩ := M_f1 h
  have v1 : vp_in (nI fs.length) 12 := vp_in_nI hf (by decide)
  intro j
  induction j with
  | zero =>
    intro p h1 h2 h5 _
    rw [Nat.mul_zero, Nat.add_zero] at h1 h2
    have v : vp_in (nI (1000 * m + p)) 6000 := vp_in_nI (by omega) (by decide)
    have c2 := cg p h1
    rw [h2, oM_s] at c2
    rw [l_X10_faultWoven_12, e1000, nI_clamp (by omega), e1, nI_clamp (by omega), nI_clamp (by omega), c2]
    refine ⟨v, zin (by first | omega | decide | (simp (maxSteps := 400000) (disch := omega) only [q_lit, q_neg, nI_ltI, nI_leI, nI_eq, nI_add, pk_mul, pk_sub, nI_clamp, vp_q, zu_same, zu_nc, zu_nj, ng_lt, ng_le, ng_gt, ng_ge, ng_eq, ng_qe, ng_ee, ng_add, not_false_eq_true, not_true_eq_false, ne_eq]; done) | (simp (maxSteps := 400000) (disch := omega) only [q_lit, q_neg, nI_ltI, nI_leI, nI_eq, nI_add, pk_mul, pk_sub, nI_clamp, vp_q, zu_same, zu_nc, zu_nj, ng_lt, ng_le, ng_gt, ng_ge, ng_eq, ng_qe, ng_ee, ng_add, not_false_eq_true, not_true_eq_false, ne_eq]; omega)) ⟨v1, vp_in_nI hq (by decide), v, kk _ (SM_aux (M_place h hpp) (fun c j a b => ?_)) ?_ ?_ ?_ ?_⟩⟩
    · rw [zu_ne (by omega), zu_ne (by omega), zu_ne (by omega)]
    · rw [zu_nj (by omega), zu_nj (by omega), zu_same, zu_nc (by omega)]; exact cY
    · rw [zu_nj (by omega), zu_same]
    · rw [zu_same, zu_nc (by omega), zu_nc (by omega), zu_nc (by omega)]; exact c2
    · rw [zu_nj (by omega), zu_nj (by omega), zu_nj (by omega), zu_nc (by omega)]
  | succ j ih =>
    intro p h1 h2 h5 h6
    have v : vp_in (nI (1000 * m + p)) 6000 := vp_in_nI (by omega) (by decide)
    obtain ⟨o, oc⟩ := h6 0 (by omega)
    rw [Nat.mul_zero, Nat.add_zero] at o oc
    have es : p + 2 * (j + 1) = p + 2 + 2 * j := by omega
    rw [es] at h1 h2
    have nx := ih (p + 2) h1 h2 h5 (fun i hi => by
      have := h6 (i + 1) (by omega)
      rw [show p + 2 * (i + 1) = p + 2 + 2 * i by omega] at this
      exact this)
    rw [l_X10_faultWoven_12, e1000, nI_clamp (by omega), cg p (by omega), cd p (by omega), o, v_sizeOf]
    refine ⟨v, zip rfl ⟨v, ?_⟩⟩
    have sz : szI (nI (cb m p)) 0 = nI 2 := by rcases oc with e | e | e | e <;> rw [e] <;> decide
    rw [sz, nI_add]; exact nx
theorem L_190t {kd f : Nat} {K : zI → zP → Prop} {J : zI} {x : Int32} (hkd : 1 ≤ kd ∧ kd ≤ 105) (t10 : J 114 10 = nI kd) (kk : j_X2_takeTurn_134 K J P) : j_X2_doWovenOp_190 (fun I8 P8 => j_X2_takeTurn_134 K I8 P8) f x J P := by
  unfold j_X2_doWovenOp_190
  rw [t10]
  exact zin (by first | omega | decide | (simp (maxSteps := 400000) (disch := omega) only [q_lit, q_neg, nI_ltI, nI_leI, nI_eq, nI_add, pk_mul, pk_sub, nI_clamp, vp_q, zu_same, zu_nc, zu_nj, ng_lt, ng_le, ng_gt, ng_ge, ng_eq, ng_qe, ng_ee, ng_add, not_false_eq_true, not_true_eq_false, ne_eq]; done) | (simp (maxSteps := 400000) (disch := omega) only [q_lit, q_neg, nI_ltI, nI_leI, nI_eq, nI_add, pk_mul, pk_sub, nI_clamp, vp_q, zu_same, zu_nc, zu_nj, ng_lt, ng_le, ng_gt, ng_ge, ng_eq, ng_qe, ng_ee, ng_add, not_false_eq_true, not_true_eq_false, ne_eq]; omega)) kk
theorem tW_56 {m p ph r : Nat} {s : List Va} {l : Nat → Va} {rest : List Frm} {S : List Nat} {L : Nat → Nat} {zn : Zn} {th : Th} {ko : Ko} {Q : Nat → Prop} {p0 sp : Nat} (hC : Cg I0 I1 k wv wt hn ln ar X Y cb hd B ho og xq kp nm) (hPl : PlOk Pl I0 wv hn ln ar cb hd B ho og kp nm) (hT : Top Pl cb hd hn nm X lim ph m p s l rest S L r zn n z th ko Q) (hm : m < nm) (hp : p < ln m) (hp2 : p < 1000) (hr : r < 98) (hw : wv m = 1) (hp1 : p + 1 < ln m) (hq : cb m (p + 1) < kp) (ec : cb m p = 56) (h6 : B 0 (cb m (p + 1)) = 6) (hR : Rch ln cb ho og m p p0 sp) (hv : Hcv Pl hd hn m p L) (nx : Nxt Pl m (p + 2) S L r zOk) : Trn Pl cb hd hn nm X lim I0 I1 k wv ph ((m, p, s, l) :: rest) n z th ko Q := by
  obtain ⟨t1, t2, t3, t4, t5, t6, t7, t8⟩ := hT
  obtain ⟨c1, c2, c3, c4⟩ := Cg_m hC hm hp
  have hps := Nx_p hPl nx
  have k24 := hC.2.2.1
  have hm6 : m < 6 := by have := hC.1.1; omega
  have hn0 := (hC.1.2.2 m hm).1
  obtain ⟨x1, x2, x3⟩ := hC.2.2.2.2.1 _ hq
  obtain ⟨x4, x5, x6, x7, x8, x9⟩ := x3 h6
  rw [x4] at x1
  obtain ⟨r1, r2, j, r3, r4, r5, r6⟩ := hR
  have N5 := t8.2.2.2.2.1 (cb m (p + 1)) (by omega)
  have b30 : n (50 + cb m (p + 1)) < 2 ^ 30 := by omega
  have le5 : ∀ q, n (50 + q) ≤ up1 n (50 + cb m (p + 1)) (n (50 + cb m (p + 1)) + 1) (50 + q) := fun q => by
    by_cases e : q = cb m (p + 1)
    · rw [e, up1_s]; omega
    · rw [up1_n (by omega)]; exact Nat.le_refl _
  have ge5 : ∀ q, up1 n (50 + cb m (p + 1)) (n (50 + cb m (p + 1)) + 1) (50 + q) ≤ n (50 + q) + 1 := fun q => by
    by_cases e : q = cb m (p + 1)
    · rw [e, up1_s]; exact Nat.le_refl _
    · rw [up1_n (by omega)]; omega
  have lo : ∀ i, i < 50 → up1 n (50 + cb m (p + 1)) (n (50 + cb m (p + 1)) + 1) i = n i := fun i hi => up1_n (by omega)
  have sz50 : ∀ r, r < up1 n (50 + cb m (p + 1)) (n (50 + cb m (p + 1)) + 1) 2 → up1 n (50 + cb m (p + 1)) (n (50 + cb m (p + 1)) + 1) (10 + r) ≤ 50 := fun r hr => by
    rw [lo 2 (by omega)] at hr
    have := t8.2.2.1
    rw [lo _ (by omega)]; exact t8.2.2.2.2.2 r hr
  by_cases ef : n (50 + cb m (p + 1)) + 1 = X (cb m (p + 1))
  · refine thr_trn (n := up1 n (50 + cb m (p + 1)) (n (50 + cb m (p + 1)) + 1)) (z := z) (kd := Y (cb m (p + 1))) (m := m) (p := p) (l := l) (rest := rest) (L := L) (a := nI p0) (b := nI m) hC ⟨x8, by omega⟩ hm hp2 hv (by rw [lo 2 (by omega)]; exact t4) (by rw [lo 2 (by omega)]; exact t5) t1 t8 (by rw [lo 0 (by omega)]; exact t8.1) (by rw [lo 2 (by omega)]; exact t8.2.2.1) (by rw [lo 4 (by omega)]; omega) (fun q _ => ge5 q) sz50 (fun d r' hd hr' => ?_) (fun I P K h kk => ?_) (fun Gb hGb I P K h kk => ?_)
    · have := ufn_lt (X := X) (n := n) (n' := up1 n (50 + cb m (p + 1)) (n (50 + cb m (p + 1)) + 1)) (f := cb m (p + 1)) 24 (fun q _ => le5 q) (by omega) (by omega) (by rw [up1_s]; omega)
      rw [t7]; unfold phi
      rw [lo 0 (by omega)]; omega
    · show w_X2_takeTurn (119 + 3 * (rest.length + 1 - 1)) I P K
      rw [Nat.add_sub_cancel]
      refine L_front (cb := cb) (ho := ho) h.1 c1 hp c3 (fun _ _ _ => ?_) (fun e => by omega)
      have h' := LR_16 (x := oM (ho m p)) h
      refine L_wop h'.1 c1 hp1 (by omega) (by omega) ?_
      unfold ldB
      rw [if_neg (by omega), if_neg (by omega), if_neg (by omega), if_neg (by omega), if_neg (by omega), if_neg (by omega), if_neg (by omega), if_pos ec]
      refine L_pf (by omega) h'.1 hn0 x1 x5 x6 b30 (fun _ J hJ t => L_190t ⟨x8, by omega⟩ t.1 (kk J s hJ t.1 ?_ t.2.2.1 ⟨?_, ?_, ?_, ?_⟩)) (fun e => absurd ef e)
      · rw [t.2.1, zu_same, r1, oM_s]
      · rw [t.2.2.2 4 (by omega)]; exact h'.2.2.1.1
      · rw [t.2.2.2 5 (by omega)]; exact h'.2.2.1.2.1
      · rw [t.2.2.2 9 (by omega)]; exact h'.2.2.1.2.2.1
      · rw [t.2.2.2 10 (by omega)]; exact h'.2.2.1.2.2.2
    · refine M_front (cb := cb) (og := og) h.1 (c2 Gb hGb) hp (c4 Gb hGb) (fun _ _ => ?_) (fun e => absurd (show 48 ≤ cb m p ∧ cb m p ≤ 58 by omega) e)
      refine M_said (sz := 2) h.1 (c2 Gb hGb) hw hp1 (by omega) (by omega) (by omega) hps (fun J hJ g => ?_)
      unfold sdB
      rw [if_neg (by omega), if_neg (by omega), if_neg (by omega), if_neg (by omega), if_neg (by omega), if_neg (by omega), if_neg (by omega), if_pos ec]
      unfold w_X10_faultWoven
      subst r3
      refine M_pf (by omega) hJ (by rw [x2 Gb hGb, x4]) x5 b30 (fun _ J2 hJ2 g2 => zin (by decide) ⟨_, M_lkF (og := og) (p0 := p0) hm6 (by omega) hp2 hJ2 (c2 Gb hGb) hw (fun i hi => ((hC.2.2.2.2.2.1 m hm).2 (by omega) i hi).2 Gb hGb) (x7 Gb hGb) (fun J3 hJ3 u1 u2 u3 u4 => kk J3 s hJ3 u1 u2 u3 ?_) j p r4 r5 r2 r6⟩) (fun e => absurd ef e)
      rw [u4, g2.1 52 (by omega), g.1 52 (by omega)]; exact h.2.1
  · obtain ⟨ph', hlt, hI⟩ := Inv_mk (X := X) (n := n) (n' := up1 n (50 + cb m (p + 1)) (n (50 + cb m (p + 1)) + 1)) (z' := z) (th := th) (ko := none) (Q := fun _ => False) (s' := s) (l' := l) (rest := rest) (cb := cb) (hd := hd) (hn := hn) (nm := nm) t8 nx (fun r' hr' => by
        have := phi_m (X := X) (lim := lim) (d := rest.length + 1) (r := r') (n := n) (n' := up1 n (50 + cb m (p + 1)) (n (50 + cb m (p + 1)) + 1)) (lo 0 (by omega)) (fun q _ => le5 q)
        rw [t7]; unfold phi at this ⊢; omega) (by rw [lo 2 (by omega)]; exact t3) (by rw [lo 2 (by omega)]; exact t4) (by rw [lo 2 (by omega)]; exact t5) t1 (fun _ hz => Zin_ok hz) (by rw [lo 0 (by omega)]; exact t8.1) (by rw [lo 2 (by omega)]; exact t8.2.2.1) (by rw [lo 4 (by omega)]; omega) (fun q _ => ge5 q) sz50
    refine Or.inl ⟨ph', _, _, z, th, none, _, hlt, hI, fun I P K h kk => ?_, fun Gb hGb I P K h kk => ?_⟩
    · show w_X2_takeTurn (119 + 3 * (rest.length + 1 - 1)) I P K
      rw [Nat.add_sub_cancel]
      refine L_front (cb := cb) (ho := ho) h.1 c1 hp c3 (fun _ _ _ => ?_) (fun e => by omega)
      have h' := LR_16 (x := oM (ho m p)) h
      refine L_wop h'.1 c1 hp1 (by omega) (by omega) ?_
      unfold ldB
      rw [if_neg (by omega), if_neg (by omega), if_neg (by omega), if_neg (by omega), if_neg (by omega), if_neg (by omega), if_neg (by omega), if_pos ec]
      refine L_pf (by omega) h'.1 hn0 x1 x5 x6 b30 (fun e => absurd e ef) (fun _ J hJ g => ?_)
      exact L_190 (sz := 2) hJ (by rw [g.1 10 (by omega)]; exact h'.2.1) (by omega) (by omega) hps (fun J2 hJ2 g2 => kk J2 P (LR_nx h' hJ2 (sK_w (sL_t g g2))))
    · refine M_front (cb := cb) (og := og) h.1 (c2 Gb hGb) hp (c4 Gb hGb) (fun _ _ => ?_) (fun e => absurd (show 48 ≤ cb m p ∧ cb m p ≤ 58 by omega) e)
      refine M_said (sz := 2) h.1 (c2 Gb hGb) hw hp1 (by omega) (by omega) (by omega) hps (fun J hJ g => ?_)
      unfold sdB
      rw [if_neg (by omega), if_neg (by omega), if_neg (by omega), if_neg (by omega), if_neg (by omega), if_neg (by omega), if_neg (by omega), if_pos ec]
      unfold w_X10_faultWoven
      exact M_pf (by omega) hJ (by rw [x2 Gb hGb, x4]) x5 b30 (fun e => absurd e ef) (fun _ J2 hJ2 g2 => zip rfl (kk J2 (MR_nx h hJ2 (sV_w (sM_t g g2)))))
theorem M_take0 {f t : Nat} {x : Int32} {K : Int32 → zI → zP → Prop} (hf : f < 12) (ht : t < 10) (e1 : I 155 54 - 1 = nI f) (e2 : I 198 f = nI (t + 1)) (e3 : I 200 (12 * f + t) = x) (kk : K x (zu I 198 f (nI t)) P) : w_X10_take I P K := by
  have v1 : vp_in (nI f) 12 := vp_in_nI hf (by decide)
  have e4 : nI (t + 1) - 1 = nI t := by rw [← nq1, pk_sub (by omega)]; rfl
  unfold w_X10_take
  rw [e1, nI_clamp (by omega), e2, e4, zu_nc (a := 155) (by omega), e1, nI_clamp (by omega), zu_same, e12, nI_clamp (by omega), zu_nc (a := 200) (by omega), e3]
  exact ⟨v1, v1, v1, vp_in_nI (by omega) (by decide), kk⟩
theorem M_58 {m p kd : Nat} {l : Nat → Va} {fs : List Frm} {K : zI → zP → Prop} (h : SM Gb k lim ((m, p, [Sum.inl (nI kd)], l) :: fs) n z I) (kk : ∀ J, (∀ c j, ¬ blkF fs.length c j → ¬ (c = 155 ∧ j = 65) → J c j = I c j) → J 155 65 = nI kd → w_X10_leaves J P (fun I9 P9 => K I9 P9)) : w_X10_said (nI m) (nI p) (nI 58) I P K := by
  obtain ⟨hf, e1⟩ := M_f1 h
  obtain ⟨-, hm, hp4, -⟩ := M_pl h
  obtain ⟨q1, q2, q3, q4, q5, q6, q7, q8⟩ := h.2.2.2.1.1
  have v1 : vp_in (nI fs.length) 12 := vp_in_nI hf (by decide)
  unfold w_X10_said
  refine zip rfl ?_
  unfold j_X10_said_22
  rw [e1000, show nI (1000 * m + p) + 0 = nI (1000 * m + p) from by rw [q_lit 0, nI_add]; rfl, e1, nI_clamp (n := fs.length) (by omega), v_sizeOf]
  refine ⟨vp_in_nI (by omega) (by decide), v1, zin (by decide) (zin (by decide) (zin (by decide) (zin (by decide) (zin (by decide) (zin (by decide) (zin (by decide) (zin (by decide) (zin (by decide) (zin (by decide) ?_)))))))))⟩
  refine M_take0 (f := fs.length) (t := 0) (x := nI kd) hf (by omega) (by rw [zu_nc (by omega)]; exact e1) (by rw [zu_nc (by omega)]; exact q5) (by rw [zu_nc (by omega)]; exact q7.1) ?_
  refine kk _ (fun c j a b => ?_) zu_same
  unfold blkF at a
  rw [zu_ne (by omega), zu_ne (by omega), zu_ne (by omega)]
theorem SM_drp {x : Frm} {fs : List Frm} {J : zI} (h : SM Gb k lim (x :: fs) n z I) (g : ∀ c j, ¬ blkF fs.length c j → ¬ (c = 155 ∧ (j = 52 ∨ j = 54 ∨ j = 65)) → J c j = I c j) (e : J 155 54 = nI fs.length) : SM Gb k lim fs n z J := by
  obtain ⟨h1, h2, h3, h4, h5, h6⟩ := h
  rw [List.length_cons] at h2
  exact ⟨ScM_c h1 (fun c j a => g c j (by unfold rcM at a; unfold blkF; omega) (by unfold rcM at a; omega)), by omega, e, FsM_c h4.2 (fun f c j hf a => g c j (by unfold blkF at a ⊢; omega) (by unfold blkF at a; omega)), MmM_c h5 (fun c j a => g c j (by unfold blkF; omega) (by omega)), TaM_c h6 (fun c j a => g c j (by unfold blkF; omega) (by omega))⟩
theorem tW_58 {m p ph r : Nat} {s : List Va} {l : Nat → Va} {rest : List Frm} {S : List Nat} {L : Nat → Nat} {zn : Zn} {th : Th} {ko : Ko} {Q : Nat → Prop} (hC : Cg I0 I1 k wv wt hn ln ar X Y cb hd B ho og xq kp nm) (hT : Top Pl cb hd hn nm X lim ph m p s l rest S L r zn n z th ko Q) (hm : m < nm) (hp : p < ln m) (hw : wv m = 1) (ec : cb m p = 58) (hz : zn.1 = 1) : Trn Pl cb hd hn nm X lim I0 I1 k wv ph ((m, p, s, l) :: rest) n z th ko Q := by
  obtain ⟨t1, t2, t3, t4, t5, t6, t7, t8⟩ := hT
  obtain ⟨c1, c2, c3, c4⟩ := Cg_m hC hm hp
  obtain ⟨hth, kd, k1, k2, es⟩ := t6.1 hz
  subst es
  obtain ⟨⟨a, b⟩, eth⟩ := Option.ne_none_iff_exists'.mp hth
  have LL : ∀ I P K, LR I0 k lim wv ((m, p, [Sum.inl (nI kd)], l) :: rest) n z th ko Q I P → (∀ J, SL I0 k lim wv rest n z J P → J 114 10 = nI kd → J 114 11 = a → J 114 12 = b → tl4 k J → j_X2_takeTurn_134 K J P) → w_X2_takeTurn (119 + 3 * rest.length) I P K := fun I P K h kk => by
    have hk := h.1.1.1
    refine L_front (cb := cb) (ho := ho) h.1 c1 hp c3 (fun _ _ _ => ?_) (fun e => by omega)
    have h' := LR_16 (x := oM (ho m p)) h
    obtain ⟨e, hf, hm6, -⟩ := L_pl h'.1
    unfold w_X2_doWovenOp
    rw [ec]
    refine ⟨shF hf, L_operA h'.1 c1 (fun v => zin (by decide) (zin (by decide) (zin (by decide) (zin (by decide) (zin (by decide) (zin (by decide) (zin (by decide) (zin (by decide) (zin (by decide) (zin (by decide) (L_pop h'.1 (fun J hJ g => ?_))))))))))))⟩
    have e9 : J 114 9 - 1 = nI rest.length := by
      have := hJ.2.2.1
      rw [List.length_cons] at this
      rw [this, ← nq1, pk_sub (by omega)]; rfl
    rw [show lv (Sum.inl (nI kd)) = nI kd from rfl, e9]
    have g' : ∀ c, c = 114 ∨ c = 93 + 5 * k → ∀ j, J c j = zu I 114 16 (oM (ho m p)) c j := fun c hc j => g c j (by omega)
    have hJ2 := SL_aux (J := zu (zu J 114 10 (nI kd)) 114 9 (nI rest.length)) (SL_drop hJ) (fun c j q => by
      by_cases e' : c = 114 ∧ j = 9
      · obtain ⟨rfl, rfl⟩ := e'
        rw [zu_same, zu_same]
      · rw [zu_ne (by omega), zu_ne (by omega), zu_ne (by omega)])
    refine L_190t ⟨k1, k2⟩ (by rw [zu_nj (by omega), zu_same]) (kk _ hJ2 (by rw [zu_nj (by omega), zu_same]) ?_ ?_ ⟨?_, ?_, ?_, ?_⟩)
    · rw [zu_nj (by omega), zu_nj (by omega), g' 114 (by omega)]; exact (h'.2.2.2.1 a b eth).1
    · rw [zu_nj (by omega), zu_nj (by omega), g' 114 (by omega)]; exact (h'.2.2.2.1 a b eth).2
    · rw [zu_nc (by omega), zu_nc (by omega), g' _ (by omega)]; exact h'.2.2.1.1
    · rw [zu_nc (by omega), zu_nc (by omega), g' _ (by omega)]; exact h'.2.2.1.2.1
    · rw [zu_nc (by omega), zu_nc (by omega), g' _ (by omega)]; exact h'.2.2.1.2.2.1
    · rw [zu_nc (by omega), zu_nc (by omega), g' _ (by omega)]; exact h'.2.2.1.2.2.2
  have MM : ∀ Gb, I1 Gb → ∀ I P K, MR Gb k lim ((m, p, [Sum.inl (nI kd)], l) :: rest) n z th ko Q I → (∀ J, (∀ c j, ¬ blkF rest.length c j → ¬ (c = 155 ∧ j = 65) → J c j = I c j) → J 155 65 = nI kd → w_X10_leaves J P (fun I9 P9 => K I9 P9)) → w_X10_step I P K := fun Gb hGb I P K h kk => by
    refine M_front (cb := cb) (og := og) h.1 (c2 Gb hGb) hp (c4 Gb hGb) (fun _ _ => ?_) (fun e => absurd (show 48 ≤ cb m p ∧ cb m p ≤ 58 by omega) e)
    rw [ec]
    exact M_58 h.1 kk
  cases rest with
  | nil =>
    refine Or.inr ⟨[], n, z, 1, nI kd, a, b, by decide, fun I P K h kk => ?_, fun Gb hGb I P K h kk => ?_⟩
    · refine LL I P K h (fun J hJ t10 t11 t12 tl => j134_u (f := 1) ⟨k1, k2⟩ t10 (L_unw0 (SL_aux hJ (fun c j q => zu_ne (by omega))) (fun J2 hJ2 g => kk J2 P ⟨hJ2, g.1, g.2.1, ?_, ?_⟩)))
      · rw [g.2.2.1, zu_nj (by omega)]; exact t11
      · rw [g.2.2.2, zu_nj (by omega)]; exact t12
    · refine MM Gb hGb I P K h (fun J g u => ?_)
      obtain ⟨hf, e1⟩ := M_f1 h.1
      have e2 : J 155 54 - 1 = 0 := by rw [g 155 54 (by unfold blkF; omega) (by omega), e1]; rfl
      unfold w_X10_leaves
      refine zip e2 (kk _ ⟨SM_drp h.1 (fun c j a b => ?_) ?_, zu_same, Or.inr (Or.inl ⟨rfl, ?_, ?_, ?_⟩)⟩)
      · rw [zu_ne (by omega), zu_ne (by omega)]; exact g c j a (by omega)
      · rw [zu_nj (by omega), zu_same, e2]; rfl
      · rw [zu_nj (by omega), zu_nj (by omega)]; exact u
      · rw [zu_nj (by omega), zu_nj (by omega), g 155 67 (by unfold blkF; omega) (by omega)]; exact (h.2.2.1 a b eth).1
      · rw [zu_nj (by omega), zu_nj (by omega), g 155 66 (by unfold blkF; omega) (by omega)]; exact (h.2.2.1 a b eth).2
  | cons x rest' =>
    obtain ⟨m', p', s', l'⟩ := x
    obtain ⟨L', S', f1, f2, f3, f4, f5, f6, f7, f8⟩ := t5 _ (List.mem_cons_self ..)
    dsimp only at f1 f2 f3 f4 f5 f6 f7 f8
    rw [List.length_cons] at t1 t7
    refine thr_trn (n := n) (z := z) (kd := kd) (m := m') (p := p') (l := l') (rest := rest') (L := L') (a := a) (b := b) hC ⟨k1, k2⟩ f1 (by omega) f4 f8 (fun x hx => t5 x (List.mem_cons_of_mem _ hx)) (by omega) t8 t8.1 t8.2.2.1 (by omega) (fun q _ => by omega) t8.2.2.2.2.2 (fun d r' hd hr' => ?_) (fun I P K h kk => ?_) (fun Gb hGb I P K h kk => ?_)
    · rw [t7]; unfold phi; omega
    · exact LL I P K h (fun J hJ t10 t11 t12 tl => kk J s' hJ t10 t11 t12 tl)
    · refine MM Gb hGb I P K h (fun J g u => ?_)
      obtain ⟨hf, e1⟩ := M_f1 h.1
      have e2 : J 155 54 - 1 = nI (rest'.length + 1) := by rw [g 155 54 (by unfold blkF; omega) (by omega), e1]; rfl
      unfold w_X10_leaves
      rw [e2]
      rw [List.length_cons] at hf
      refine zin (by first | omega | decide | (simp (maxSteps := 400000) (disch := omega) only [q_lit, q_neg, nI_ltI, nI_leI, nI_eq, nI_add, pk_mul, pk_sub, nI_clamp, vp_q, zu_same, zu_nc, zu_nj, ng_lt, ng_le, ng_gt, ng_ge, ng_eq, ng_qe, ng_ee, ng_add, not_false_eq_true, not_true_eq_false, ne_eq]; done) | (simp (maxSteps := 400000) (disch := omega) only [q_lit, q_neg, nI_ltI, nI_leI, nI_eq, nI_add, pk_mul, pk_sub, nI_clamp, vp_q, zu_same, zu_nc, zu_nj, ng_lt, ng_le, ng_gt, ng_ge, ng_eq, ng_qe, ng_ee, ng_add, not_false_eq_true, not_true_eq_false, ne_eq]; omega)) (kk _ s' (SM_drp h.1 (fun c j a b => ?_) ?_) ?_ ?_ ?_ ?_)
      · rw [zu_ne (by omega)]; exact g c j a (by omega)
      · rw [zu_same]; rfl
      · rw [zu_nj (by omega)]; exact u
      · rw [zu_nj (by omega), g 155 66 (by unfold blkF; omega) (by omega)]; exact (h.2.2.1 a b eth).2
      · rw [zu_nj (by omega), g 155 67 (by unfold blkF; omega) (by omega)]; exact (h.2.2.1 a b eth).1
      · rw [zu_nj (by omega), g 155 52 (by unfold blkF; omega) (by omega)]; exact h.2.1
theorem tJ {m p ph r t : Nat} {s : List Va} {l : Nat → Va} {rest : List Frm} {S : List Nat} {L : Nat → Nat} {zn : Zn} {th : Th} {ko : Ko} {Q : Nat → Prop} (hC : Cg I0 I1 k wv wt hn ln ar X Y cb hd B ho og xq kp nm) (hT : Top Pl cb hd hn nm X lim ph m p s l rest S L r zn n z th ko Q) (hm : m < nm) (hp : p < ln m) (hw : wv m = 1) (hho : ho m p = 0) (hog : og m p = 0) (hc : (cb m p = 20 ∧ p + 1 < ln m) ∨ (cb m p = 84 ∧ p + 2 < ln m)) (ht : t < 1000) (htg : tgv cb m p 0 = nI t) (nx : Nxt Pl m t S L r zOk) : Trn Pl cb hd hn nm X lim I0 I1 k wv ph ((m, p, s, l) :: rest) n z th ko Q := by
  obtain ⟨t1, t2, t3, t4, t5, t6, t7, t8⟩ := hT
  obtain ⟨c1, c2, c3, c4⟩ := Cg_m hC hm hp
  have hm6 : m < 6 := by have := hC.1.1; omega
  have hj : isSt (cb m p) ∨ isLg (cb m p) := by unfold isSt isLg; omega
  have h1 : isSt (cb m p) → p + 1 < ln m := fun _ => by omega
  have h2 : isLg (cb m p) → p + 2 < ln m := fun e => by unfold isLg at e; omega
  obtain ⟨ph', hlt, hI⟩ := Inv_mk (X := X) (n := n) (n' := n) (z' := z) (th := th) (ko := none) (Q := fun _ => False) (s' := s) (l' := l) (rest := rest) (cb := cb) (hd := hd) (hn := hn) (nm := nm) t8 nx (fun r' hr' => by rw [t7]; unfold phi; omega) t3 t4 t5 t1 (fun _ hz => Zin_ok hz) t8.1 t8.2.2.1 (by omega) (fun q _ => by omega) t8.2.2.2.2.2
  refine Or.inl ⟨ph', _, n, z, th, none, _, hlt, hI, fun I P K h kk => ?_, fun Gb hGb I P K h kk => ?_⟩
  · show w_X2_takeTurn (119 + 3 * (rest.length + 1 - 1)) I P K
    rw [Nat.add_sub_cancel]
    refine L_front (cb := cb) (ho := ho) h.1 c1 hp c3 (fun _ _ _ => by omega) (fun _ => ?_)
    have h' := LR_16 (x := oM (ho m p)) h
    obtain ⟨e, hf, -, -⟩ := L_pl h'.1
    unfold j_X2_takeTurn_48
    refine zip (by rw [zu_same, hho]; rfl) ⟨shF hf, L_code h'.1 c1 ?_⟩
    rw [e]
    refine L_ta (i := 0) hm6 h'.1 c1 hp (by omega) h1 h2 (fun e' => by omega) ?_
    rw [htg]
    unfold j_X2_takeTurn_134
    have g : sL k (zu I 114 16 (oM (ho m p))) (zu (zu I 114 16 (oM (ho m p))) (119 + 3 * rest.length) 5 (nI t)) := ⟨fun j _ => zu_nc (by omega), fun j _ => zu_nc (by have := h.1.1.1; omega)⟩
    exact zip (by rw [g.1 10 (by omega)]; exact h'.2.1) (kk _ P (LR_nx h' (L_place h'.1 ht) (sK_w g)))
  · refine M_front (cb := cb) (og := og) h.1 (c2 Gb hGb) hp (c4 Gb hGb) (fun _ _ => by omega) (fun _ => ?_)
    obtain ⟨hf, e1⟩ := M_f1 h.1
    unfold j_X10_step_74
    refine zip (by rw [hog]; rfl) (M_jt hm6 h.1 (c2 Gb hGb) hp hj h1 h2 ?_)
    rw [e1, nI_clamp (by omega), htg]
    exact ⟨vp_in_nI hf (by decide), kk _ (MR_nx h (M_place h.1 ht) (fun j _ => zu_nc (by omega)))⟩
end
