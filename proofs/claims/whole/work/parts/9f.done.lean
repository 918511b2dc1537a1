/-! PURE 65: RUN: one INSTRUCTION that stays in its FRAME, on both sides -/
theorem L_size {I0 I : zI} {k lim m p : Nat} {wv n ln : nuN} {cb : Nat → Nat → Nat} {z : nuZ} {fs : List Frm} {P : zP} {K : Int32 → zI → zP → Prop} (hm : m < 6) (h : SL I0 k lim wv fs n z I P) (hc : CdL I0 wv cb ln m) (hp : p < ln m) (h3 : cb m p = 33 → p + 1 < ln m) (kk : K (nI (opz (cb m p) (cb m (p + 1)))) I P) : w_X9_sizeAt (cc wv m) (nI p) I P K := by
  have c256 := (hc.2.2 p hp).1
  unfold w_X9_sizeAt w_X9_tableSize
  unfold opz at kk
  refine L_byt hm h hc hp ?_
  by_cases e : cb m p = 33
  · rw [if_pos e] at kk
    refine zip (by rw [e]; rfl) ?_
    rw [nI_1]
    refine L_byt hm h hc (h3 e) ?_
    rw [show (4 : Int32) = nI 4 from rfl, show (2 : Int32) = nI 2 from rfl, pk_mul, nI_add]
    exact kk
  · rw [if_neg e] at kk
    exact zin (fun q => e (nI_inj (by omega) (by decide) q)) (s_fx c256 kk)
/-- which target a TABLE takes -/
def tbI (nb : Nat) (x : Int32) (ti : Nat) : Prop := (∃ v, v < nb ∧ x = nI v ∧ ti = v + 1) ∨ ((∀ v, v < nb → x ≠ nI v) ∧ ti = 0)
theorem tb_ex (nb : Nat) (x : Int32) (h : nb ≤ 16) : ∃ ti, tbI nb x ti ∧ ti ≤ nb := by
  rcases ix_cases x (n := nb) (by omega) with ⟨v, hv, e⟩ | hno
  · exact ⟨v + 1, Or.inl ⟨v, hv, e, rfl⟩, by omega⟩
  · refine ⟨0, Or.inr ⟨fun v hv e => ?_, rfl⟩, by omega⟩
    subst e
    rcases hno with q | q
    · rw [show (0 : Int32) = nI 0 from rfl, nI_ltI (by omega) (by omega)] at q; omega
    · rw [nI_leI (by omega) (by omega)] at q; omega
theorem Lo_tab {I0 I : zI} {k lim m p ti t nx : Nat} {wv n ln : nuN} {cb : Nat → Nat → Nat} {z : nuZ} {s' : List Va} {l : Nat → Va} {fs : List Frm} {P : zP} {K : Int32 → zI → zP → Prop} {x : Int32} (h : SL I0 k lim wv ((m, p, Sum.inl x :: s', l) :: fs) n z I P) (hc : CdL I0 wv cb ln m) (hp : p < ln m) (ho : cb m p = 33) (hnb : cb m (p + 1) ≤ 16) (h3 : p + 4 + 2 * cb m (p + 1) ≤ ln m) (hti : tbI (cb m (p + 1)) x ti) (ht : tgv cb m p ti = nI t) (kk : ∀ J, SL I0 k lim wv ((m, p, s', l) :: fs) n z J P → sL k I J → K (nI t) J P) : w_X2_whereJumped (119 + 3 * fs.length) (nI 33) (nI nx) I P K := by
  obtain ⟨e, hf, hm, -⟩ := L_pl h
  have hk := h.1.1
  unfold w_X2_whereJumped
  refine ⟨shF hf, L_code h hc (zip (by decide) (L_pop h (fun J hJ g => ?_)))⟩
  simp only [lv_i]
  obtain ⟨e', -, -, -⟩ := L_pl hJ
  have fin : ∀ i, i ≤ cb m (p + 1) → i = ti → w_X9_targetAt (cc wv m) (J (119 + 3 * fs.length) 5) (nI i) J P (fun v3 I3 P3 => K v3 I3 P3) := fun i hi ei => by
    rw [e']
    refine L_ta hm hJ hc hp (Or.inr (Or.inr ho)) (fun q => by unfold isSt at q; omega) (fun q => by unfold isLg at q; omega) (fun _ => by omega) ?_
    rw [ei, ht]
    exact kk J hJ (sL_f hk g)
  rcases hti with ⟨v, hv, ev, rfl⟩ | ⟨no, rfl⟩
  · rw [ev]
    refine zin (by first | omega | decide | (simp (maxSteps := 400000) (disch := omega) only [q_lit, q_neg, nI_ltI, nI_leI, nI_eq, nI_add, pk_mul, pk_sub, nI_clamp, vp_q, zu_same, zu_nc, zu_nj, ng_lt, ng_le, ng_gt, ng_ge, ng_eq, ng_qe, ng_ee, ng_add, not_false_eq_true, not_true_eq_false, ne_eq]; done) | (simp (maxSteps := 400000) (disch := omega) only [q_lit, q_neg, nI_ltI, nI_leI, nI_eq, nI_add, pk_mul, pk_sub, nI_clamp, vp_q, zu_same, zu_nc, zu_nj, ng_lt, ng_le, ng_gt, ng_ge, ng_eq, ng_qe, ng_ee, ng_add, not_false_eq_true, not_true_eq_false, ne_eq]; omega)) (L_oper hJ hc (by omega) (zin (by first | omega | decide | (simp (maxSteps := 400000) (disch := omega) only [q_lit, q_neg, nI_ltI, nI_leI, nI_eq, nI_add, pk_mul, pk_sub, nI_clamp, vp_q, zu_same, zu_nc, zu_nj, ng_lt, ng_le, ng_gt, ng_ge, ng_eq, ng_qe, ng_ee, ng_add, not_false_eq_true, not_true_eq_false, ne_eq]; done) | (simp (maxSteps := 400000) (disch := omega) only [q_lit, q_neg, nI_ltI, nI_leI, nI_eq, nI_add, pk_mul, pk_sub, nI_clamp, vp_q, zu_same, zu_nc, zu_nj, ng_lt, ng_le, ng_gt, ng_ge, ng_eq, ng_qe, ng_ee, ng_add, not_false_eq_true, not_true_eq_false, ne_eq]; omega)) ?_))
    unfold j_X2_whereJumped_37
    rw [nI_1]
    exact ⟨shF hf, zin (by decide) (fin (v + 1) (by omega) rfl)⟩
  · have z36 : j_X2_whereJumped_36 K (119 + 3 * fs.length) (cc wv m) x J P := by
      unfold j_X2_whereJumped_36 j_X2_whereJumped_37
      exact ⟨shF hf, zip rfl (fin 0 (by omega) rfl)⟩
    by_cases q : x < 0
    · exact zip q z36
    · refine zin q (L_oper hJ hc (by omega) ?_)
      by_cases q2 : nI (cb m (p + 1)) ≤ x
      · exact zip q2 z36
      · exfalso
        rcases ix_cases x (n := cb m (p + 1)) (by omega) with ⟨v, hv, e⟩ | hno
        · exact no v hv e
        · exact hno.elim q q2
theorem M_jmp33 : ¬ (isSt 33 ∨ isLg 33) := by unfold isSt isLg; omega
theorem Mo_tab {I0 I : zI} {k lim m p ti t : Nat} {wv n ln : nuN} {cb : Nat → Nat → Nat} {z : nuZ} {s' : List Va} {l : Nat → Va} {fs : List Frm} {P : zP} {K : Int32 → zI → zP → Prop} {x y : Int32} (h : SM I0 k lim ((m, p, Sum.inl x :: s', l) :: fs) n z I) (hc : CdM I0 k wv cb ln m) (hp : p < ln m) (ho : cb m p = 33) (hnb : cb m (p + 1) ≤ 16) (h3 : p + 4 + 2 * cb m (p + 1) ≤ ln m) (hti : tbI (cb m (p + 1)) x ti) (ht : tgv cb m p ti = nI t) (ht2 : t < 1000) (kk : ∀ J, SM I0 k lim ((m, t, s', l) :: fs) n z J → sM I J → K 0 J P) : w_X10_done (nI m) (nI p) (nI 33) y I P K := by
  obtain ⟨hf, hm, -, -⟩ := M_pl h
  unfold w_X10_done j_X10_done_20
  rw [nI_1]
  refine zip (by decide) (M_oct hm h hc (by omega) ?_)
  refine s_msz (c := 33) (by decide) (Or.inl (by decide)) (s_mjpF (c := 33) (by decide) M_jmp33 (zip rfl (zip (by decide) (M_take h (fun J hJ g => M_oct hm hJ hc (by omega) ?_)))))
  simp only [mv_i]
  have fin : ∀ (s0 : Int32) (i : Nat), s0 = nI i → i ≤ cb m (p + 1) → i = ti → j_X10_done_86 K (nI m) (nI p) s0 J P := fun s0 i es hi ei => by
    unfold j_X10_done_86
    obtain ⟨-, e1⟩ := M_f1 hJ
    have e5 : nI p + 2 + 2 * nI i = nI (p + 2 + 2 * i) := by rw [show (2 : Int32) = nI 2 from rfl, pk_mul, nI_add, nI_add]
    have e6 : nI p + 3 + 2 * nI i = nI (p + 2 + 2 * i + 1) := by rw [show (2 : Int32) = nI 2 from rfl, show (3 : Int32) = nI 3 from rfl, pk_mul, nI_add, nI_add]; congr 1; omega
    rw [es, e5, e6]
    refine M_oct hm hJ hc (by omega) (M_oct hm hJ hc (by omega) (s_ms16 (hc.2.2.2 _ (by omega)).1 (hc.2.2.2 _ (by omega)).1 ?_))
    have et : nI p + sb16 (cb m (p + 2 + 2 * i)) (cb m (p + 2 + 2 * i + 1)) = nI t := by
      rw [← ht, ei]; unfold tgv; rw [if_pos ho]
    rw [et, e1, nI_clamp (by omega)]
    exact ⟨vp_in_nI hf (by decide), kk _ (M_place hJ ht2) (sM_t (sM_f g) ⟨fun j _ => zu_nc (by omega), fun c j _ => zu_nc (by omega)⟩)⟩
  rcases hti with ⟨v, hv, ev, rfl⟩ | ⟨no, rfl⟩
  · refine M_inr (by omega) (fun i _ _ => zin (by decide) ?_) (fun no => absurd ev (no v hv))
    rw [ev, nI_1]
    exact fin _ (v + 1) rfl (by omega) rfl
  · exact M_inr (by omega) (fun i ei hi => absurd ei (no i hi)) (fun _ => zip rfl (fin 0 0 rfl (by omega) rfl))
/-- the reference's done() of a plain op -/
theorem Md_pl {I0 I Gb : zI} {I1 : zI → Prop} {k lim m p c : Nat} {wv n n' ln : nuN} {cb : Nat → Nat → Nat} {z z' : nuZ} {s s' : List Va} {l l' : Nat → Va} {fs : List Frm} {P : zP} {K : Int32 → zI → zP → Prop} {y : Int32} (hGb : I1 Gb) (h : SM Gb k lim ((m, p, s, l) :: fs) n z I) (h65 : I 155 65 = 0) (hc : c < 44) (hx : ¬ (20 ≤ c ∧ c ≤ 33) ∧ c ≠ 40 ∧ c ≠ 42) (hp : p + fxz c < 1000) (ex : ExO I0 I1 k lim wv ln cb m p c s l fs n z s' l' n' z') (kk : ∀ J, SM Gb k lim ((m, p + fxz c, s', l') :: fs) n' z' J → sM I J → K 0 J P) : w_X10_done (nI m) (nI p) (nI c) y I P K := by
  obtain ⟨hf, hm, -, -⟩ := M_pl h
  have fl := fxz_le c
  unfold w_X10_done j_X10_done_20
  refine zin (by first | omega | decide | (simp (maxSteps := 400000) (disch := omega) only [q_lit, q_neg, nI_ltI, nI_leI, nI_eq, nI_add, pk_mul, pk_sub, nI_clamp, vp_q, zu_same, zu_nc, zu_nj, ng_lt, ng_le, ng_gt, ng_ge, ng_eq, ng_qe, ng_ee, ng_add, not_false_eq_true, not_true_eq_false, ne_eq]; done) | (simp (maxSteps := 400000) (disch := omega) only [q_lit, q_neg, nI_ltI, nI_leI, nI_eq, nI_add, pk_mul, pk_sub, nI_clamp, vp_q, zu_same, zu_nc, zu_nj, ng_lt, ng_le, ng_gt, ng_ge, ng_eq, ng_qe, ng_ee, ng_add, not_false_eq_true, not_true_eq_false, ne_eq]; omega)) (s_msz0 (by omega) (Or.inl hc) (by omega) (s_mjpF (by omega) (by unfold isSt isLg; omega) (zip rfl (zin (by first | omega | decide | (simp (maxSteps := 400000) (disch := omega) only [q_lit, q_neg, nI_ltI, nI_leI, nI_eq, nI_add, pk_mul, pk_sub, nI_clamp, vp_q, zu_same, zu_nc, zu_nj, ng_lt, ng_le, ng_gt, ng_ge, ng_eq, ng_qe, ng_ee, ng_add, not_false_eq_true, not_true_eq_false, ne_eq]; done) | (simp (maxSteps := 400000) (disch := omega) only [q_lit, q_neg, nI_ltI, nI_leI, nI_eq, nI_add, pk_mul, pk_sub, nI_clamp, vp_q, zu_same, zu_nc, zu_nj, ng_lt, ng_le, ng_gt, ng_ge, ng_eq, ng_qe, ng_ee, ng_add, not_false_eq_true, not_true_eq_false, ne_eq]; omega)) (zin (by first | omega | decide | (simp (maxSteps := 400000) (disch := omega) only [q_lit, q_neg, nI_ltI, nI_leI, nI_eq, nI_add, pk_mul, pk_sub, nI_clamp, vp_q, zu_same, zu_nc, zu_nj, ng_lt, ng_le, ng_gt, ng_ge, ng_eq, ng_qe, ng_ee, ng_add, not_false_eq_true, not_true_eq_false, ne_eq]; done) | (simp (maxSteps := 400000) (disch := omega) only [q_lit, q_neg, nI_ltI, nI_leI, nI_eq, nI_add, pk_mul, pk_sub, nI_clamp, vp_q, zu_same, zu_nc, zu_nj, ng_lt, ng_le, ng_gt, ng_ge, ng_eq, ng_qe, ng_ee, ng_add, not_false_eq_true, not_true_eq_false, ne_eq]; omega)) (zin (by first | omega | decide | (simp (maxSteps := 400000) (disch := omega) only [q_lit, q_neg, nI_ltI, nI_leI, nI_eq, nI_add, pk_mul, pk_sub, nI_clamp, vp_q, zu_same, zu_nc, zu_nj, ng_lt, ng_le, ng_gt, ng_ge, ng_eq, ng_qe, ng_ee, ng_add, not_false_eq_true, not_true_eq_false, ne_eq]; done) | (simp (maxSteps := 400000) (disch := omega) only [q_lit, q_neg, nI_ltI, nI_leI, nI_eq, nI_add, pk_mul, pk_sub, nI_clamp, vp_q, zu_same, zu_nc, zu_nj, ng_lt, ng_le, ng_gt, ng_ge, ng_eq, ng_qe, ng_ee, ng_add, not_false_eq_true, not_true_eq_false, ne_eq]; omega)) (ex.2 Gb hGb I P _ h h65 (fun J hJ g => ?_))))))))
  obtain ⟨-, e1⟩ := M_f1 hJ
  rw [e1, nI_clamp (by omega), nI_add]
  refine zip (by rw [g.1 65 (by omega)]; exact h65) ⟨vp_in_nI hf (by decide), kk _ (M_place hJ hp) (sM_t g ⟨fun j _ => zu_nc (by omega), fun c j _ => zu_nc (by omega)⟩)⟩
theorem Md_th {I0 I Gb : zI} {I1 : zI → Prop} {k lim m p c kd : Nat} {wv n ln : nuN} {cb : Nat → Nat → Nat} {z : nuZ} {s : List Va} {l : Nat → Va} {fs : List Frm} {P : zP} {K : Int32 → zI → zP → Prop} {y : Int32} (hGb : I1 Gb) (h : SM Gb k lim ((m, p, s, l) :: fs) n z I) (h65 : I 155 65 = 0) (hc : c < 44) (hx : ¬ (20 ≤ c ∧ c ≤ 33) ∧ c ≠ 40 ∧ c ≠ 42) (ex : ExT I0 I1 k lim wv ln cb m p c s l fs n z kd) (kk : ∀ J s', SM Gb k lim ((m, p, s', l) :: fs) n z J → tM (nI kd) I J → K 0 J P) : w_X10_done (nI m) (nI p) (nI c) y I P K := by
  obtain ⟨hf, hm, hp, -⟩ := M_pl h
  obtain ⟨k1, k2, -, ex2⟩ := ex
  unfold w_X10_done j_X10_done_20
  refine zin (by first | omega | decide | (simp (maxSteps := 400000) (disch := omega) only [q_lit, q_neg, nI_ltI, nI_leI, nI_eq, nI_add, pk_mul, pk_sub, nI_clamp, vp_q, zu_same, zu_nc, zu_nj, ng_lt, ng_le, ng_gt, ng_ge, ng_eq, ng_qe, ng_ee, ng_add, not_false_eq_true, not_true_eq_false, ne_eq]; done) | (simp (maxSteps := 400000) (disch := omega) only [q_lit, q_neg, nI_ltI, nI_leI, nI_eq, nI_add, pk_mul, pk_sub, nI_clamp, vp_q, zu_same, zu_nc, zu_nj, ng_lt, ng_le, ng_gt, ng_ge, ng_eq, ng_qe, ng_ee, ng_add, not_false_eq_true, not_true_eq_false, ne_eq]; omega)) (s_msz0 (by omega) (Or.inl hc) (by omega) (s_mjpF (by omega) (by unfold isSt isLg; omega) (zip rfl (zin (by first | omega | decide | (simp (maxSteps := 400000) (disch := omega) only [q_lit, q_neg, nI_ltI, nI_leI, nI_eq, nI_add, pk_mul, pk_sub, nI_clamp, vp_q, zu_same, zu_nc, zu_nj, ng_lt, ng_le, ng_gt, ng_ge, ng_eq, ng_qe, ng_ee, ng_add, not_false_eq_true, not_true_eq_false, ne_eq]; done) | (simp (maxSteps := 400000) (disch := omega) only [q_lit, q_neg, nI_ltI, nI_leI, nI_eq, nI_add, pk_mul, pk_sub, nI_clamp, vp_q, zu_same, zu_nc, zu_nj, ng_lt, ng_le, ng_gt, ng_ge, ng_eq, ng_qe, ng_ee, ng_add, not_false_eq_true, not_true_eq_false, ne_eq]; omega)) (zin (by first | omega | decide | (simp (maxSteps := 400000) (disch := omega) only [q_lit, q_neg, nI_ltI, nI_leI, nI_eq, nI_add, pk_mul, pk_sub, nI_clamp, vp_q, zu_same, zu_nc, zu_nj, ng_lt, ng_le, ng_gt, ng_ge, ng_eq, ng_qe, ng_ee, ng_add, not_false_eq_true, not_true_eq_false, ne_eq]; done) | (simp (maxSteps := 400000) (disch := omega) only [q_lit, q_neg, nI_ltI, nI_leI, nI_eq, nI_add, pk_mul, pk_sub, nI_clamp, vp_q, zu_same, zu_nc, zu_nj, ng_lt, ng_le, ng_gt, ng_ge, ng_eq, ng_qe, ng_ee, ng_add, not_false_eq_true, not_true_eq_false, ne_eq]; omega)) (zin (by first | omega | decide | (simp (maxSteps := 400000) (disch := omega) only [q_lit, q_neg, nI_ltI, nI_leI, nI_eq, nI_add, pk_mul, pk_sub, nI_clamp, vp_q, zu_same, zu_nc, zu_nj, ng_lt, ng_le, ng_gt, ng_ge, ng_eq, ng_qe, ng_ee, ng_add, not_false_eq_true, not_true_eq_false, ne_eq]; done) | (simp (maxSteps := 400000) (disch := omega) only [q_lit, q_neg, nI_ltI, nI_leI, nI_eq, nI_add, pk_mul, pk_sub, nI_clamp, vp_q, zu_same, zu_nc, zu_nj, ng_lt, ng_le, ng_gt, ng_ge, ng_eq, ng_qe, ng_ee, ng_add, not_false_eq_true, not_true_eq_false, ne_eq]; omega)) (ex2 Gb hGb I P _ h h65 (fun J s' hJ g => ?_))))))))
  obtain ⟨-, e1⟩ := M_f1 hJ
  rw [e1, nI_clamp (by omega)]
  refine zin (by rw [g.1]; first | omega | decide | (simp (maxSteps := 400000) (disch := omega) only [q_lit, q_neg, nI_ltI, nI_leI, nI_eq, nI_add, pk_mul, pk_sub, nI_clamp, vp_q, zu_same, zu_nc, zu_nj, ng_lt, ng_le, ng_gt, ng_ge, ng_eq, ng_qe, ng_ee, ng_add, not_false_eq_true, not_true_eq_false, ne_eq]; done) | (simp (maxSteps := 400000) (disch := omega) only [q_lit, q_neg, nI_ltI, nI_leI, nI_eq, nI_add, pk_mul, pk_sub, nI_clamp, vp_q, zu_same, zu_nc, zu_nj, ng_lt, ng_le, ng_gt, ng_ge, ng_eq, ng_qe, ng_ee, ng_add, not_false_eq_true, not_true_eq_false, ne_eq]; omega)) ⟨vp_in_nI hf (by decide), kk _ s' (M_place hJ hp) ⟨by rw [zu_nc (by omega)]; exact g.1, fun j q => by rw [zu_nc (by omega)]; exact g.2.1 j q, fun c j q => by rw [zu_nc (by omega)]; exact g.2.2 c j q⟩⟩
/-- the loom's doInstruction() of a plain op -/
theorem Ld_pl {I0 I : zI} {I1 : zI → Prop} {k lim m p c : Nat} {wv n n' ln : nuN} {cb : Nat → Nat → Nat} {z z' : nuZ} {s s' : List Va} {l l' : Nat → Va} {fs : List Frm} {P : zP} {K : zI → zP → Prop} (h : SL I0 k lim wv ((m, p, s, l) :: fs) n z I P) (hL : CdL I0 wv cb ln m) (hpl : p < ln m) (hcb : cb m p = c) (hc : c < 44) (hx : ¬ (20 ≤ c ∧ c ≤ 33) ∧ c ≠ 40 ∧ c ≠ 42) (ex : ExO I0 I1 k lim wv ln cb m p c s l fs n z s' l' n' z') (kk : ∀ J, SL I0 k lim wv ((m, p, s', l') :: fs) n' z' J P → sL k I J → j_X2_doInstruction_110 K (119 + 3 * fs.length) (nI (p + fxz c)) J P) : w_X2_doInstruction (119 + 3 * fs.length) (nI c) I P K := by
  obtain ⟨e, hf, hm, hp⟩ := L_pl h
  have ex1 := ex.1 I P (fun J Q => j_X2_doInstruction_110 K (119 + 3 * fs.length) (nI (p + fxz c)) J Q) h kk
  unfold coL at ex1
  unfold w_X2_doInstruction
  have eo : opz (cb m p) (cb m (p + 1)) = fxz c := by rw [hcb]; unfold opz; rw [if_neg (by omega)]
  refine ⟨shF hf, L_code h hL ?_⟩
  rw [e]
  refine L_size hm h hL hpl (fun q => by omega) ?_
  rw [eo, nI_add]
  by_cases c8 : c ≤ 8
  · rw [if_pos c8] at ex1
    exact zin (by first | omega | decide | (simp (maxSteps := 400000) (disch := omega) only [q_lit, q_neg, nI_ltI, nI_leI, nI_eq, nI_add, pk_mul, pk_sub, nI_clamp, vp_q, zu_same, zu_nc, zu_nj, ng_lt, ng_le, ng_gt, ng_ge, ng_eq, ng_qe, ng_ee, ng_add, not_false_eq_true, not_true_eq_false, ne_eq]; done) | (simp (maxSteps := 400000) (disch := omega) only [q_lit, q_neg, nI_ltI, nI_leI, nI_eq, nI_add, pk_mul, pk_sub, nI_clamp, vp_q, zu_same, zu_nc, zu_nj, ng_lt, ng_le, ng_gt, ng_ge, ng_eq, ng_qe, ng_ee, ng_add, not_false_eq_true, not_true_eq_false, ne_eq]; omega)) ex1
  · rw [if_neg c8] at ex1
    refine zip (by first | omega | decide | (simp (maxSteps := 400000) (disch := omega) only [q_lit, q_neg, nI_ltI, nI_leI, nI_eq, nI_add, pk_mul, pk_sub, nI_clamp, vp_q, zu_same, zu_nc, zu_nj, ng_lt, ng_le, ng_gt, ng_ge, ng_eq, ng_qe, ng_ee, ng_add, not_false_eq_true, not_true_eq_false, ne_eq]; done) | (simp (maxSteps := 400000) (disch := omega) only [q_lit, q_neg, nI_ltI, nI_leI, nI_eq, nI_add, pk_mul, pk_sub, nI_clamp, vp_q, zu_same, zu_nc, zu_nj, ng_lt, ng_le, ng_gt, ng_ge, ng_eq, ng_qe, ng_ee, ng_add, not_false_eq_true, not_true_eq_false, ne_eq]; omega)) ?_
    by_cases c19 : c ≤ 19
    · rw [if_pos c19] at ex1
      exact zin (by first | omega | decide | (simp (maxSteps := 400000) (disch := omega) only [q_lit, q_neg, nI_ltI, nI_leI, nI_eq, nI_add, pk_mul, pk_sub, nI_clamp, vp_q, zu_same, zu_nc, zu_nj, ng_lt, ng_le, ng_gt, ng_ge, ng_eq, ng_qe, ng_ee, ng_add, not_false_eq_true, not_true_eq_false, ne_eq]; done) | (simp (maxSteps := 400000) (disch := omega) only [q_lit, q_neg, nI_ltI, nI_leI, nI_eq, nI_add, pk_mul, pk_sub, nI_clamp, vp_q, zu_same, zu_nc, zu_nj, ng_lt, ng_le, ng_gt, ng_ge, ng_eq, ng_qe, ng_ee, ng_add, not_false_eq_true, not_true_eq_false, ne_eq]; omega)) ex1
    · rw [if_neg c19] at ex1
      refine zip (by first | omega | decide | (simp (maxSteps := 400000) (disch := omega) only [q_lit, q_neg, nI_ltI, nI_leI, nI_eq, nI_add, pk_mul, pk_sub, nI_clamp, vp_q, zu_same, zu_nc, zu_nj, ng_lt, ng_le, ng_gt, ng_ge, ng_eq, ng_qe, ng_ee, ng_add, not_false_eq_true, not_true_eq_false, ne_eq]; done) | (simp (maxSteps := 400000) (disch := omega) only [q_lit, q_neg, nI_ltI, nI_leI, nI_eq, nI_add, pk_mul, pk_sub, nI_clamp, vp_q, zu_same, zu_nc, zu_nj, ng_lt, ng_le, ng_gt, ng_ge, ng_eq, ng_qe, ng_ee, ng_add, not_false_eq_true, not_true_eq_false, ne_eq]; omega)) (zip (by first | omega | decide | (simp (maxSteps := 400000) (disch := omega) only [q_lit, q_neg, nI_ltI, nI_leI, nI_eq, nI_add, pk_mul, pk_sub, nI_clamp, vp_q, zu_same, zu_nc, zu_nj, ng_lt, ng_le, ng_gt, ng_ge, ng_eq, ng_qe, ng_ee, ng_add, not_false_eq_true, not_true_eq_false, ne_eq]; done) | (simp (maxSteps := 400000) (disch := omega) only [q_lit, q_neg, nI_ltI, nI_leI, nI_eq, nI_add, pk_mul, pk_sub, nI_clamp, vp_q, zu_same, zu_nc, zu_nj, ng_lt, ng_le, ng_gt, ng_ge, ng_eq, ng_qe, ng_ee, ng_add, not_false_eq_true, not_true_eq_false, ne_eq]; omega)) ?_)
      by_cases c41 : c = 41
      · rw [if_pos c41] at ex1
        exact zip (by rw [c41]; rfl) ex1
      · rw [if_neg c41] at ex1
        exact zin (by first | omega | decide | (simp (maxSteps := 400000) (disch := omega) only [q_lit, q_neg, nI_ltI, nI_leI, nI_eq, nI_add, pk_mul, pk_sub, nI_clamp, vp_q, zu_same, zu_nc, zu_nj, ng_lt, ng_le, ng_gt, ng_ge, ng_eq, ng_qe, ng_ee, ng_add, not_false_eq_true, not_true_eq_false, ne_eq]; done) | (simp (maxSteps := 400000) (disch := omega) only [q_lit, q_neg, nI_ltI, nI_leI, nI_eq, nI_add, pk_mul, pk_sub, nI_clamp, vp_q, zu_same, zu_nc, zu_nj, ng_lt, ng_le, ng_gt, ng_ge, ng_eq, ng_qe, ng_ee, ng_add, not_false_eq_true, not_true_eq_false, ne_eq]; omega)) ex1
theorem Ld_th {I0 I : zI} {I1 : zI → Prop} {k lim m p c kd : Nat} {wv n ln : nuN} {cb : Nat → Nat → Nat} {z : nuZ} {s : List Va} {l : Nat → Va} {fs : List Frm} {P : zP} {K : zI → zP → Prop} (h : SL I0 k lim wv ((m, p, s, l) :: fs) n z I P) (hL : CdL I0 wv cb ln m) (hpl : p < ln m) (hcb : cb m p = c) (hc : c < 44) (hx : ¬ (20 ≤ c ∧ c ≤ 33) ∧ c ≠ 40 ∧ c ≠ 42) (ex : ExT I0 I1 k lim wv ln cb m p c s l fs n z kd) (kk : ∀ J s', SL I0 k lim wv ((m, p, s', l) :: fs) n z J P → tL k m (nI kd) I J → K J P) : w_X2_doInstruction (119 + 3 * fs.length) (nI c) I P K := by
  obtain ⟨e, hf, hm, hp⟩ := L_pl h
  obtain ⟨q1, q2, ex2, -⟩ := ex
  have ex1 := ex2 I P (fun J Q => j_X2_doInstruction_110 K (119 + 3 * fs.length) (nI (p + fxz c)) J Q) h (fun J s' hJ t => by
    unfold j_X2_doInstruction_110
    exact zin (by rw [t.1]; first | omega | decide | (simp (maxSteps := 400000) (disch := omega) only [q_lit, q_neg, nI_ltI, nI_leI, nI_eq, nI_add, pk_mul, pk_sub, nI_clamp, vp_q, zu_same, zu_nc, zu_nj, ng_lt, ng_le, ng_gt, ng_ge, ng_eq, ng_qe, ng_ee, ng_add, not_false_eq_true, not_true_eq_false, ne_eq]; done) | (simp (maxSteps := 400000) (disch := omega) only [q_lit, q_neg, nI_ltI, nI_leI, nI_eq, nI_add, pk_mul, pk_sub, nI_clamp, vp_q, zu_same, zu_nc, zu_nj, ng_lt, ng_le, ng_gt, ng_ge, ng_eq, ng_qe, ng_ee, ng_add, not_false_eq_true, not_true_eq_false, ne_eq]; omega)) (kk J s' hJ t))
  unfold coL at ex1
  unfold w_X2_doInstruction
  have eo : opz (cb m p) (cb m (p + 1)) = fxz c := by rw [hcb]; unfold opz; rw [if_neg (by omega)]
  refine ⟨shF hf, L_code h hL ?_⟩
  rw [e]
  refine L_size hm h hL hpl (fun q => by omega) ?_
  rw [eo, nI_add]
  by_cases c8 : c ≤ 8
  · rw [if_pos c8] at ex1
    exact zin (by first | omega | decide | (simp (maxSteps := 400000) (disch := omega) only [q_lit, q_neg, nI_ltI, nI_leI, nI_eq, nI_add, pk_mul, pk_sub, nI_clamp, vp_q, zu_same, zu_nc, zu_nj, ng_lt, ng_le, ng_gt, ng_ge, ng_eq, ng_qe, ng_ee, ng_add, not_false_eq_true, not_true_eq_false, ne_eq]; done) | (simp (maxSteps := 400000) (disch := omega) only [q_lit, q_neg, nI_ltI, nI_leI, nI_eq, nI_add, pk_mul, pk_sub, nI_clamp, vp_q, zu_same, zu_nc, zu_nj, ng_lt, ng_le, ng_gt, ng_ge, ng_eq, ng_qe, ng_ee, ng_add, not_false_eq_true, not_true_eq_false, ne_eq]; omega)) ex1
  · rw [if_neg c8] at ex1
    refine zip (by first | omega | decide | (simp (maxSteps := 400000) (disch := omega) only [q_lit, q_neg, nI_ltI, nI_leI, nI_eq, nI_add, pk_mul, pk_sub, nI_clamp, vp_q, zu_same, zu_nc, zu_nj, ng_lt, ng_le, ng_gt, ng_ge, ng_eq, ng_qe, ng_ee, ng_add, not_false_eq_true, not_true_eq_false, ne_eq]; done) | (simp (maxSteps := 400000) (disch := omega) only [q_lit, q_neg, nI_ltI, nI_leI, nI_eq, nI_add, pk_mul, pk_sub, nI_clamp, vp_q, zu_same, zu_nc, zu_nj, ng_lt, ng_le, ng_gt, ng_ge, ng_eq, ng_qe, ng_ee, ng_add, not_false_eq_true, not_true_eq_false, ne_eq]; omega)) ?_
    by_cases c19 : c ≤ 19
    · rw [if_pos c19] at ex1
      exact zin (by first | omega | decide | (simp (maxSteps := 400000) (disch := omega) only [q_lit, q_neg, nI_ltI, nI_leI, nI_eq, nI_add, pk_mul, pk_sub, nI_clamp, vp_q, zu_same, zu_nc, zu_nj, ng_lt, ng_le, ng_gt, ng_ge, ng_eq, ng_qe, ng_ee, ng_add, not_false_eq_true, not_true_eq_false, ne_eq]; done) | (simp (maxSteps := 400000) (disch := omega) only [q_lit, q_neg, nI_ltI, nI_leI, nI_eq, nI_add, pk_mul, pk_sub, nI_clamp, vp_q, zu_same, zu_nc, zu_nj, ng_lt, ng_le, ng_gt, ng_ge, ng_eq, ng_qe, ng_ee, ng_add, not_false_eq_true, not_true_eq_false, ne_eq]; omega)) ex1
    · rw [if_neg c19] at ex1
      refine zip (by first | omega | decide | (simp (maxSteps := 400000) (disch := omega) only [q_lit, q_neg, nI_ltI, nI_leI, nI_eq, nI_add, pk_mul, pk_sub, nI_clamp, vp_q, zu_same, zu_nc, zu_nj, ng_lt, ng_le, ng_gt, ng_ge, ng_eq, ng_qe, ng_ee, ng_add, not_false_eq_true, not_true_eq_false, ne_eq]; done) | (simp (maxSteps := 400000) (disch := omega) only [q_lit, q_neg, nI_ltI, nI_leI, nI_eq, nI_add, pk_mul, pk_sub, nI_clamp, vp_q, zu_same, zu_nc, zu_nj, ng_lt, ng_le, ng_gt, ng_ge, ng_eq, ng_qe, ng_ee, ng_add, not_false_eq_true, not_true_eq_false, ne_eq]; omega)) (zip (by first | omega | decide | (simp (maxSteps := 400000) (disch := omega) only [q_lit, q_neg, nI_ltI, nI_leI, nI_eq, nI_add, pk_mul, pk_sub, nI_clamp, vp_q, zu_same, zu_nc, zu_nj, ng_lt, ng_le, ng_gt, ng_ge, ng_eq, ng_qe, ng_ee, ng_add, not_false_eq_true, not_true_eq_false, ne_eq]; done) | (simp (maxSteps := 400000) (disch := omega) only [q_lit, q_neg, nI_ltI, nI_leI, nI_eq, nI_add, pk_mul, pk_sub, nI_clamp, vp_q, zu_same, zu_nc, zu_nj, ng_lt, ng_le, ng_gt, ng_ge, ng_eq, ng_qe, ng_ee, ng_add, not_false_eq_true, not_true_eq_false, ne_eq]; omega)) ?_)
      by_cases c41 : c = 41
      · rw [if_pos c41] at ex1
        exact zip (by rw [c41]; rfl) ex1
      · rw [if_neg c41] at ex1
        exact zin (by first | omega | decide | (simp (maxSteps := 400000) (disch := omega) only [q_lit, q_neg, nI_ltI, nI_leI, nI_eq, nI_add, pk_mul, pk_sub, nI_clamp, vp_q, zu_same, zu_nc, zu_nj, ng_lt, ng_le, ng_gt, ng_ge, ng_eq, ng_qe, ng_ee, ng_add, not_false_eq_true, not_true_eq_false, ne_eq]; done) | (simp (maxSteps := 400000) (disch := omega) only [q_lit, q_neg, nI_ltI, nI_leI, nI_eq, nI_add, pk_mul, pk_sub, nI_clamp, vp_q, zu_same, zu_nc, zu_nj, ng_lt, ng_le, ng_gt, ng_ge, ng_eq, ng_qe, ng_ee, ng_add, not_false_eq_true, not_true_eq_false, ne_eq]; omega)) ex1
