/-! PURE 82: RUN: what woven INSTRUCTIONS say, on both sides -/
section
variable {I0 I Gb : zI} {I1 : zI → Prop} {k lim kp nm : Nat} {wv wt hn ln ar X Y : nuN} {cb hd B ho og : Nat → Nat → Nat} {xq : Nat → Int32} {Pl : PlT} {n n2 : nuN} {z z2 : nuZ} {P : zP}
theorem LR_16 {fs : List Frm} {th : Th} {ko : Ko} {Q : Nat → Prop} {x : Int32} (h : LR I0 k lim wv fs n z th ko Q I P) : LR I0 k lim wv fs n z th ko Q (zu I 114 16 x) P := by
  obtain ⟨h1, h2, ⟨h3, h4, h5, h6⟩, h7, h8⟩ := h
  have hk := h1.1.1
  refine ⟨SL_aux h1 (fun c j a => zu_ne (by omega)), by rw [zu_nj (by omega)]; exact h2, ⟨by rw [zu_nc (by omega)]; exact h3, by rw [zu_nc (by omega)]; exact h4, by rw [zu_nc (by omega)]; exact h5, by rw [zu_nc (by omega)]; exact h6⟩, fun a b e => by rw [zu_nj (by omega), zu_nj (by omega)]; exact h7 a b e, fun kc ov q e hq => ?_⟩
  obtain ⟨a, b⟩ := h8 kc ov q e hq
  exact ⟨kcL_c a (fun _ _ => rfl) (zu_nj (by omega)), by rw [zu_nj (by omega)]; exact b⟩
theorem LR_nx {fs fs' : List Frm} {th : Th} {ko : Ko} {Q : Nat → Prop} {J : zI} {R : zP} (h : LR I0 k lim wv fs n z th ko Q I P) (hJ : SL I0 k lim wv fs' n2 z2 J R) (g : sK k I J) : LR I0 k lim wv fs' n2 z2 th none (fun _ => False) J R := by
  obtain ⟨h1, h2, ⟨h3, h4, h5, h6⟩, h7, h8⟩ := h
  refine ⟨hJ, by rw [g.1 10 (by omega) (by omega) (by omega)]; exact h2, ⟨by rw [g.2 4 (by omega)]; exact h3, by rw [g.2 5 (by omega)]; exact h4, by rw [g.2 9 (by omega)]; exact h5, by rw [g.2 10 (by omega)]; exact h6⟩, fun a b e => by rw [g.1 11 (by omega) (by omega) (by omega), g.1 12 (by omega) (by omega) (by omega)]; exact h7 a b e, fun kc ov q e _ => by cases e⟩
theorem LR_kp {fs fs' : List Frm} {th : Th} {ko ko' : Ko} {Q Q' : Nat → Prop} {J : zI} {R : zP} (h : LR I0 k lim wv fs n z th ko Q I P) (hJ : SL I0 k lim wv fs' n2 z2 J R) (g : sK k I J) (hk : ∀ kc ov q, ko' = some (kc, ov) → Q' q → kcL kc n2 J ∧ J 114 14 = ov) : LR I0 k lim wv fs' n2 z2 th ko' Q' J R := by
  obtain ⟨a, b, c, d, -⟩ := LR_nx h hJ g
  exact ⟨a, b, c, d, hk⟩
theorem MR_nx {fs fs' : List Frm} {th : Th} {ko : Ko} {Q : Nat → Prop} {J : zI} (h : MR Gb k lim fs n z th ko Q I) (hJ : SM Gb k lim fs' n2 z2 J) (g : sV I J) : MR Gb k lim fs' n2 z2 th none (fun _ => False) J := by
  obtain ⟨h1, h2, h3, h4⟩ := h
  exact ⟨hJ, by rw [g 52 (by omega)]; exact h2, fun a b e => by rw [g 67 (by omega), g 66 (by omega)]; exact h3 a b e, fun kc ov q e _ => by cases e⟩
theorem MR_kp {fs fs' : List Frm} {th : Th} {ko ko' : Ko} {Q Q' : Nat → Prop} {J : zI} (h : MR Gb k lim fs n z th ko Q I) (hJ : SM Gb k lim fs' n2 z2 J) (g : sV I J) (hk : ∀ kc ov q, ko' = some (kc, ov) → Q' q → kcM kc n2 q J ∧ J 205 q = ov) : MR Gb k lim fs' n2 z2 th ko' Q' J := by
  obtain ⟨a, b, c, -⟩ := MR_nx h hJ g
  exact ⟨a, b, c, hk⟩
theorem L_190 {m p c sz : Nat} {s : List Va} {l : Nat → Va} {fs : List Frm} {K : zI → zP → Prop} {J : zI} (hJ : SL I0 k lim wv ((m, p, s, l) :: fs) n z J P) (h10 : J 114 10 = 0) (hsz : (c = 49 ∧ sz = 3) ∨ (c ≠ 49 ∧ sz = 2)) (hc : c < 256) (hps : p + sz < 1000) (kk : ∀ J2, SL I0 k lim wv ((m, p + sz, s, l) :: fs) n z J2 P → sL k J J2 → K J2 P) : j_X2_doWovenOp_190 (fun I8 P8 => j_X2_takeTurn_134 K I8 P8) (119 + 3 * fs.length) (nI c) J P := by
  obtain ⟨e, hf, hm, -⟩ := L_pl hJ
  have hk := hJ.1.1
  have fin : j_X2_takeTurn_134 K (zu J (119 + 3 * fs.length) 5 (nI (p + sz))) P := by
    unfold j_X2_takeTurn_134
    exact zip (by rw [zu_nc (by omega)]; exact h10) (kk _ (L_place hJ hps) ⟨fun j _ => zu_nc (by omega), fun j _ => zu_nc (by omega)⟩)
  unfold j_X2_doWovenOp_190
  refine zip h10 ⟨shF hf, ?_⟩
  rw [e]
  rcases hsz with ⟨a, b⟩ | ⟨a, b⟩
  · refine zip (by rw [a]; rfl) ?_
    rw [show nI p + 3 = nI (p + sz) from by rw [b, q_lit 3, nI_add]]; exact fin
  · refine zin (by first | omega | decide | (simp (maxSteps := 400000) (disch := omega) only [q_lit, q_neg, nI_ltI, nI_leI, nI_eq, nI_add, pk_mul, pk_sub, nI_clamp, vp_q, zu_same, zu_nc, zu_nj, ng_lt, ng_le, ng_gt, ng_ge, ng_eq, ng_qe, ng_ee, ng_add, not_false_eq_true, not_true_eq_false, ne_eq]; done) | (simp (maxSteps := 400000) (disch := omega) only [q_lit, q_neg, nI_ltI, nI_leI, nI_eq, nI_add, pk_mul, pk_sub, nI_clamp, vp_q, zu_same, zu_nc, zu_nj, ng_lt, ng_le, ng_gt, ng_ge, ng_eq, ng_qe, ng_ee, ng_add, not_false_eq_true, not_true_eq_false, ne_eq]; omega)) ?_
    rw [show nI p + 2 = nI (p + sz) from by rw [b, q_lit 2, nI_add]]; exact fin
/-- the loom's side, by the OP -/
def ldB (K : zI → zP → Prop) (k f c q v3 : Nat) (I : zI) (P : zP) : Prop :=
  if c = 48 then w_X6_addRecord (93 + 5 * k) (nI q) 0 I P (fun I7 P7 => j_X2_doWovenOp_190 K f (nI c) I7 P7)
  else if c = 49 then w_X6_addRecord (93 + 5 * k) (nI q) (nI v3) I P (fun I7 P7 => j_X2_doWovenOp_190 K f (nI c) I7 P7)
  else if c = 50 then w_X2_noteArguments f (nI q) I P (fun I7 P7 => j_X2_doWovenOp_190 K f (nI c) I7 P7)
  else if c = 51 ∨ c = 55 then w_X0_peek f 0 I P (fun v I6 P6 => w_X6_addRecord (93 + 5 * k) (nI q) v I6 P6 (fun I7 P7 => j_X2_doWovenOp_190 K f (nI c) I7 P7))
  else if c = 52 then w_X0_peek f 0 I P (fun v I6 P6 => w_X6_addRecord (93 + 5 * k) (nI q) (-v) I6 P6 (fun I7 P7 => j_X2_doWovenOp_190 K f (nI c) I7 P7))
  else if c = 53 then w_X2_keepOld f I P (fun I7 P7 => j_X2_doWovenOp_190 K f (nI c) I7 P7)
  else if c = 54 then w_X2_noteStore (nI q) I P (fun I7 P7 => j_X2_doWovenOp_190 K f (nI c) I7 P7)
  else if c = 56 then w_X2_passFault f (nI q) I P (fun I7 P7 => j_X2_doWovenOp_190 K f (nI c) I7 P7)
  else w_X2_replaceTop f (nI q) I P (fun I7 P7 => j_X2_doWovenOp_190 K f (nI c) I7 P7)
theorem L_wop {m p c : Nat} {s : List Va} {l : Nat → Va} {fs : List Frm} {K : zI → zP → Prop} (h : SL I0 k lim wv ((m, p, s, l) :: fs) n z I P) (hc : CdL I0 wv cb ln m) (hp : p + 1 < ln m) (h48 : 48 ≤ c ∧ c ≤ 57) (h49 : c = 49 → p + 2 < ln m) (kk : ldB K k (119 + 3 * fs.length) c (cb m (p + 1)) (cb m (p + 2)) I P) : w_X2_doWovenOp (119 + 3 * fs.length) (nI c) I P K := by
  obtain ⟨e, hf, hm, -⟩ := L_pl h
  have hk := h.1.1
  have y6 := h.1.2.2.2.1
  have pk : ∀ {K2 : Int32 → zI → zP → Prop}, w_X0_peek (119 + 3 * fs.length) 0 I P (fun v I6 P6 => K2 v I6 P6) → w_X0_peek (119 + 3 * fs.length) 0 I P K2 := fun q => q
  unfold w_X2_doWovenOp
  refine ⟨shF hf, L_oper h hc hp ?_⟩
  unfold ldB at kk
  obtain rfl | rfl | rfl | rfl | rfl | rfl | rfl | rfl | rfl | rfl : c = 48 ∨ c = 49 ∨ c = 50 ∨ c = 51 ∨ c = 52 ∨ c = 53 ∨ c = 54 ∨ c = 55 ∨ c = 56 ∨ c = 57 := by omega
  · rw [if_pos rfl] at kk
    exact zip rfl ⟨_, y6, shT hk, kk⟩
  · rw [if_neg (by decide), if_pos rfl] at kk
    refine zin (by decide) (zip rfl ⟨_, y6, L_code h hc ?_⟩)
    rw [e, show nI p + 2 = nI (p + 2) from by rw [q_lit 2, nI_add]]
    exact L_byt hm h hc (h49 rfl) ⟨shT hk, kk⟩
  · rw [if_neg (by decide), if_neg (by decide), if_pos rfl] at kk
    exact zin (by decide) (zin (by decide) (zip rfl kk))
  · rw [if_neg (by decide), if_neg (by decide), if_neg (by decide), if_pos (by decide)] at kk
    refine zin (by decide) (zin (by decide) (zin (by decide) (zip rfl ⟨_, y6, ?_⟩)))
    unfold w_X0_peek at kk ⊢
    simp only [shT hk, true_and] at kk ⊢
    exact kk
  · rw [if_neg (by decide), if_neg (by decide), if_neg (by decide), if_neg (by decide), if_pos rfl] at kk
    refine zin (by decide) (zin (by decide) (zin (by decide) (zin (by decide) (zip rfl ⟨_, y6, ?_⟩))))
    unfold w_X0_peek at kk ⊢
    simp only [shT hk, true_and] at kk ⊢
    exact kk
  · rw [if_neg (by decide), if_neg (by decide), if_neg (by decide), if_neg (by decide), if_neg (by decide), if_pos rfl] at kk
    exact zin (by decide) (zin (by decide) (zin (by decide) (zin (by decide) (zin (by decide) (zip rfl kk)))))
  · rw [if_neg (by decide), if_neg (by decide), if_neg (by decide), if_neg (by decide), if_neg (by decide), if_neg (by decide), if_pos rfl] at kk
    exact zin (by decide) (zin (by decide) (zin (by decide) (zin (by decide) (zin (by decide) (zin (by decide) (zip rfl kk))))))
  · rw [if_neg (by decide), if_neg (by decide), if_neg (by decide), if_pos (by decide)] at kk
    refine zin (by decide) (zin (by decide) (zin (by decide) (zin (by decide) (zin (by decide) (zin (by decide) (zin (by decide) (zip rfl ⟨_, y6, ?_⟩)))))))
    unfold w_X0_peek at kk ⊢
    simp only [shT hk, true_and] at kk ⊢
    exact kk
  · rw [if_neg (by decide), if_neg (by decide), if_neg (by decide), if_neg (by decide), if_neg (by decide), if_neg (by decide), if_neg (by decide), if_pos rfl] at kk
    exact zin (by decide) (zin (by decide) (zin (by decide) (zin (by decide) (zin (by decide) (zin (by decide) (zin (by decide) (zin (by decide) (zip rfl kk))))))))
  · rw [if_neg (by decide), if_neg (by decide), if_neg (by decide), if_neg (by decide), if_neg (by decide), if_neg (by decide), if_neg (by decide), if_neg (by decide)] at kk
    exact zin (by decide) (zin (by decide) (zin (by decide) (zin (by decide) (zin (by decide) (zin (by decide) (zin (by decide) (zin (by decide) (zin (by decide) (zip rfl kk)))))))))
/-- the reference's side, by the OP -/
def sdB (K : zI → zP → Prop) (c m p q v3 : Nat) (I : zI) (P : zP) : Prop :=
  if c = 48 then w_X10_tell (nI q) 0 I P K
  else if c = 49 then w_X10_tell (nI q) (nI v3) I P K
  else if c = 50 then w_X10_tellArguments (nI q) (nI m) I P K
  else if c = 51 ∨ c = 55 then w_X10_top 0 I P (fun v I6 P6 => w_X10_tell (nI q) v I6 P6 K)
  else if c = 52 then w_X10_top 0 I P (fun v I6 P6 => w_X10_tell (nI q) (-v) I6 P6 K)
  else if c = 53 then w_X10_oldWoven (nI m) (nI p) (nI q) I P K
  else if c = 54 then w_X10_tellStore (nI q) I P K
  else if c = 56 then w_X10_faultWoven (nI m) (nI p) (nI q) I P K
  else w_X10_replace (nI q) I P K
theorem M_said {m p c sz : Nat} {s : List Va} {l : Nat → Va} {fs : List Frm} {K : zI → zP → Prop} (h : SM Gb k lim ((m, p, s, l) :: fs) n z I) (hc : CdM Gb k wv cb ln m) (hw : wv m = 1) (hp : p + 1 < ln m) (h48 : 48 ≤ c ∧ c ≤ 57) (h49 : c = 49 → p + 2 < ln m) (hsz : (c = 49 ∧ sz = 3) ∨ (c ≠ 49 ∧ sz = 2)) (hps : p + sz < 1000) (kk : ∀ J, SM Gb k lim ((m, p + sz, s, l) :: fs) n z J → sM I J → sdB K c m p (cb m (p + 1)) (cb m (p + 2)) J P) : w_X10_said (nI m) (nI p) (nI c) I P K := by
  obtain ⟨hf, e1⟩ := M_f1 h
  obtain ⟨-, hm, hp4, -⟩ := M_pl h
  have v1 : vp_in (nI fs.length) 12 := vp_in_nI hf (by decide)
  have lnm : ln m ≤ 1000 := by have := hc.2.2.1; rw [if_neg (by omega)] at this; exact this
  have b1 : I 176 (1000 * m + p + 1) = nI (cb m (p + 1)) := by rw [M_s0 h (by unfold rcM; omega)]; exact (hc.2.2.2 (p + 1) hp).2.2 hw
  have b2 : c = 49 → I 176 (1000 * m + p + 2) = nI (cb m (p + 2)) := fun e => by rw [M_s0 h (by unfold rcM; omega)]; exact (hc.2.2.2 (p + 2) (h49 e)).2.2 hw
  have k2 := kk _ (M_place h hps) ⟨fun j _ => zu_nc (by omega), fun c j _ => zu_nc (by omega)⟩
  have n58 : ¬ nI c = 58 := by first | omega | decide | (simp (maxSteps := 400000) (disch := omega) only [q_lit, q_neg, nI_ltI, nI_leI, nI_eq, nI_add, pk_mul, pk_sub, nI_clamp, vp_q, zu_same, zu_nc, zu_nj, ng_lt, ng_le, ng_gt, ng_ge, ng_eq, ng_qe, ng_ee, ng_add, not_false_eq_true, not_true_eq_false, ne_eq]; done) | (simp (maxSteps := 400000) (disch := omega) only [q_lit, q_neg, nI_ltI, nI_leI, nI_eq, nI_add, pk_mul, pk_sub, nI_clamp, vp_q, zu_same, zu_nc, zu_nj, ng_lt, ng_le, ng_gt, ng_ge, ng_eq, ng_qe, ng_ee, ng_add, not_false_eq_true, not_true_eq_false, ne_eq]; omega)
  unfold w_X10_said
  refine zin n58 ?_
  unfold j_X10_said_22
  rw [e1000, nI_1, nI_clamp (by omega), b1, e1, nI_clamp (by omega), v_sizeOf]
  refine ⟨vp_in_nI (by omega) (by decide), v1, ?_⟩
  unfold sdB at k2
  obtain rfl | rfl | rfl | rfl | rfl | rfl | rfl | rfl | rfl | rfl : c = 48 ∨ c = 49 ∨ c = 50 ∨ c = 51 ∨ c = 52 ∨ c = 53 ∨ c = 54 ∨ c = 55 ∨ c = 56 ∨ c = 57 := by omega
  · obtain rfl : sz = 2 := by omega
    rw [if_pos rfl] at k2
    rw [show szI (nI 48) 0 = nI 2 from by decide, nI_add]
    exact zip rfl k2
  · obtain rfl : sz = 3 := by omega
    rw [if_neg (by decide), if_pos rfl, ← b2 rfl] at k2
    rw [show szI (nI 49) 0 = nI 3 from by decide, nI_add, show nI (1000 * m + p) + 2 = nI (1000 * m + p + 2) from by rw [q_lit 2, nI_add], nI_clamp (by omega), zu_nc (a := 176) (by omega)]
    exact zin (by decide) (zip rfl ⟨vp_in_nI (by omega) (by decide), k2⟩)
  · obtain rfl : sz = 2 := by omega
    rw [if_neg (by decide), if_neg (by decide), if_pos rfl] at k2
    rw [show szI (nI 50) 0 = nI 2 from by decide, nI_add]
    exact zin (by decide) (zin (by decide) (zip rfl k2))
  · obtain rfl : sz = 2 := by omega
    rw [if_neg (by decide), if_neg (by decide), if_neg (by decide), if_pos (by decide)] at k2
    rw [show szI (nI 51) 0 = nI 2 from by decide, nI_add]
    exact zin (by decide) (zin (by decide) (zin (by decide) (zip rfl k2)))
  · obtain rfl : sz = 2 := by omega
    rw [if_neg (by decide), if_neg (by decide), if_neg (by decide), if_neg (by decide), if_pos rfl] at k2
    rw [show szI (nI 52) 0 = nI 2 from by decide, nI_add]
    exact zin (by decide) (zin (by decide) (zin (by decide) (zin (by decide) (zip rfl k2))))
  · obtain rfl : sz = 2 := by omega
    rw [if_neg (by decide), if_neg (by decide), if_neg (by decide), if_neg (by decide), if_neg (by decide), if_pos rfl] at k2
    rw [show szI (nI 53) 0 = nI 2 from by decide, nI_add]
    exact zin (by decide) (zin (by decide) (zin (by decide) (zin (by decide) (zin (by decide) (zip rfl k2)))))
  · obtain rfl : sz = 2 := by omega
    rw [if_neg (by decide), if_neg (by decide), if_neg (by decide), if_neg (by decide), if_neg (by decide), if_neg (by decide), if_pos rfl] at k2
    rw [show szI (nI 54) 0 = nI 2 from by decide, nI_add]
    exact zin (by decide) (zin (by decide) (zin (by decide) (zin (by decide) (zin (by decide) (zin (by decide) (zip rfl k2))))))
  · obtain rfl : sz = 2 := by omega
    rw [if_neg (by decide), if_neg (by decide), if_neg (by decide), if_pos (by decide)] at k2
    rw [show szI (nI 55) 0 = nI 2 from by decide, nI_add]
    exact zin (by decide) (zin (by decide) (zin (by decide) (zin (by decide) (zin (by decide) (zin (by decide) (zin (by decide) (zip rfl k2)))))))
  · obtain rfl : sz = 2 := by omega
    rw [if_neg (by decide), if_neg (by decide), if_neg (by decide), if_neg (by decide), if_neg (by decide), if_neg (by decide), if_neg (by decide), if_pos rfl] at k2
    rw [show szI (nI 56) 0 = nI 2 from by decide, nI_add]
    exact zin (by decide) (zin (by decide) (zin (by decide) (zin (by decide) (zin (by decide) (zin (by decide) (zin (by decide) (zin (by decide) (zip rfl k2))))))))
  · obtain rfl : sz = 2 := by omega
    rw [if_neg (by decide), if_neg (by decide), if_neg (by decide), if_neg (by decide), if_neg (by decide), if_neg (by decide), if_neg (by decide), if_neg (by decide)] at k2
    rw [show szI (nI 57) 0 = nI 2 from by decide, nI_add]
    exact zin (by decide) (zin (by decide) (zin (by decide) (zin (by decide) (zin (by decide) (zin (by decide) (zin (by decide) (zin (by decide) (zin (by decide) (zip rfl k2)))))))))
end
