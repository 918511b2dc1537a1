/-! PURE 81: RUN: what is thrown keeps the invariant; a turn's front -/
section
variable {I0 I Gb : zI} {I1 : zI → Prop} {k lim kp nm : Nat} {wv wt hn ln ar X Y : nuN} {cb hd B ho og : Nat → Nat → Nat} {xq : Nat → Int32} {Pl : PlT} {n n2 : nuN} {z z2 : nuZ} {P : zP}
theorem phi_c {d r : Nat} {n' : nuN} (h : ∀ i, i ≠ 4 → n' i = n i) : phi X lim d n' r = phi X lim d n r := by
  unfold phi
  rw [h 0 (by omega), ufn_eq 24 (fun q _ => h (50 + q) (by omega))]
theorem TyS_1 {a : Nat} {x : Int32} : TyS a [Sum.inl x] [1] := ⟨rfl, fun v hv => by
  rw [List.mem_singleton] at hv
  subst hv
  exact trivial⟩
theorem FcI_f {a : Nat} {x : Frm} (h : FcI Pl cb hd hn nm a x) : x.1 < nm ∧ x.2.1 < 1000 := by
  obtain ⟨L, rest, h1, h2, -⟩ := h
  exact ⟨h1, by omega⟩
theorem thr_ok {kd m p ph : Nat} {l : Nat → Va} {rest : List Frm} {L : Nat → Nat} {n0 : nuN} (hC : Cg I0 I1 k wv wt hn ln ar X Y cb hd B ho og xq kp nm) (hkd : 1 ≤ kd ∧ kd ≤ 105) (hm : m < nm) (hp : p < 1000) (hv : Hcv Pl hd hn m p L) (hl : TyL (n 2) l L) (hrest : ∀ x, x ∈ rest → FcI Pl cb hd hn nm (n 2) x) (h12 : rest.length < 12) (hN : Num lim ph n0) (b0 : n 0 ≤ lim) (b2 : n 2 ≤ 30) (b4 : n 4 ≤ n0 4 + 300) (b5 : ∀ q, q < 24 → n (50 + q) ≤ n0 (50 + q) + 1) (b50 : ∀ r, r < n 2 → n (10 + r) ≤ 50) (hph : ∀ d r, d ≤ rest.length + 1 → r < 98 → phi X lim d n r < ph) :
    (∃ fs' n' z', (∀ s, OuC I0 I1 k lim kd wv ((m, p, s, l) :: rest) n z fs' n' z') ∧ ∀ th : Th, th ≠ none → ∃ ph', ph' < ph ∧ Inv Pl cb hd hn nm X lim ph' fs' n' z' th none (fun _ => False)) ∨ (∃ n' z', ∀ s, OuE I0 I1 k lim kd wv ((m, p, s, l) :: rest) n z n' z') := by
  obtain ⟨N1, N2, N3, N4, N5⟩ := hN
  rcases uw_s (n := n) (z := z) (l := l) hC.1 hC.2.1 hkd hm hp (fun x hx => FcI_f (hrest x hx)) (by omega) (by omega) with ⟨m', p', l', rest', j, n', z', hw, hj, ou, r1, r2⟩ | ⟨n', z', ou, -, -⟩
  · refine Or.inl ⟨_, n', z', ou, fun th hth => ?_⟩
    have e2 : n' 2 = n 2 := r2 2 (by omega)
    have go : ∀ L', Nxt Pl m' (hd m' (4 * j + 2)) [1] L' 98 zNo → TyL (n 2) l' L' → (∀ x, x ∈ rest' → FcI Pl cb hd hn nm (n 2) x) → rest'.length ≤ rest.length → ∃ ph', ph' < ph ∧ Inv Pl cb hd hn nm X lim ph' ((m', hd m' (4 * j + 2), [Sum.inl (nI kd)], l') :: rest') n' z' th none (fun _ => False) := fun L' nx hl' hr' hle => by
      refine Inv_mk (n := n0) ⟨N1, N2, N3, N4, N5⟩ nx (fun r hr => by rw [phi_c r2]; exact hph _ r (by omega) hr) TyS_1 (by rw [e2]; exact hl') (by rw [e2]; exact hr') (by omega) (fun zn hz => ⟨fun _ => ⟨hth, kd, hkd.1, hkd.2, rfl⟩, fun q hq => absurd hq (hz q), fun _ ⟨q, hq⟩ => absurd hq (hz q), fun _ ⟨q, hq⟩ => absurd hq (hz q)⟩) (by rw [r2 0 (by omega)]; exact b0) (by rw [e2]; exact b2) (by omega) (fun q hq => by rw [r2 _ (by omega)]; exact b5 q hq) (fun r hr => by rw [r2 _ (by omega)]; exact b50 r (by rw [e2] at hr; exact hr))
    rcases hw with ⟨e1, e2', e3, e4⟩ | ⟨pre, s', e⟩
    · subst e1
      subst e2'
      subst e3
      subst e4
      exact go L (hv j kd hj.1 hj.2.1) hl hrest (Nat.le_refl _)
    · subst e
      obtain ⟨L', rs, f1, f2, f3, f4, f5, f6, f7, f8⟩ := hrest (m', p', s', l') (List.mem_append_right _ List.mem_cons_self)
      refine go L' (f4 j kd hj.1 hj.2.1) f8 (fun x hx => hrest x (List.mem_append_right _ (List.mem_cons_of_mem _ hx))) ?_
      rw [List.length_append, List.length_cons]; omega
  · exact Or.inr ⟨n', z', ou⟩
theorem oM_s {i : Nat} : oM (i + 1) = nI i := by unfold oM; rw [if_neg (by omega)]; rfl
theorem L_front {m p : Nat} {s : List Va} {l : Nat → Va} {fs : List Frm} {K : zI → zP → Prop} (h : SL I0 k lim wv ((m, p, s, l) :: fs) n z I P) (hc : CdL I0 wv cb ln m) (hp : p < ln m) (hho : (wv m = 0 → ho m p = p + 1) ∧ (wv m ≠ 0 → I0 (28 + 12 * m) p = oM (ho m p))) (kW : wv m = 1 → 48 ≤ cb m p → cb m p ≤ 58 → w_X2_doWovenOp (119 + 3 * fs.length) (nI (cb m p)) (zu I 114 16 (oM (ho m p))) P (fun I8 P8 => j_X2_takeTurn_134 K I8 P8)) (kE : (wv m = 0 ∨ cb m p < 48 ∨ 58 < cb m p) → j_X2_takeTurn_48 K (119 + 3 * fs.length) (nI (cb m p)) (zu I 114 16 (oM (ho m p))) P) : w_X2_takeTurn (119 + 3 * fs.length) I P K := by
  obtain ⟨e, hf, hm, hp1⟩ := L_pl h
  have hP := h.1.2.2.1
  obtain ⟨-, h2, h3, -⟩ := h.2.2.2.1.1
  dsimp only at h2 h3
  have w1 := hc.1
  have b256 := (hc.2.2 p hp).1
  have fin : (if ((zu I 114 16 (oM (ho m p))) (119 + 3 * fs.length) 4) = 0 then (j_X2_takeTurn_48 K (119 + 3 * fs.length) (nI (cb m p)) (zu I 114 16 (oM (ho m p))) P) else (if nI (cb m p) < 48 then (j_X2_takeTurn_48 K (119 + 3 * fs.length) (nI (cb m p)) (zu I 114 16 (oM (ho m p))) P) else (if 58 < nI (cb m p) then (j_X2_takeTurn_48 K (119 + 3 * fs.length) (nI (cb m p)) (zu I 114 16 (oM (ho m p))) P) else (w_X2_doWovenOp (119 + 3 * fs.length) (nI (cb m p)) (zu I 114 16 (oM (ho m p))) P (fun (I8 : zI) (P8 : zP) => (j_X2_takeTurn_134 K I8 P8)))))) := by
    rw [zu_nc (a := 119 + 3 * fs.length) (by omega), h3]
    by_cases e0 : wv m = 0
    · exact zip (by rw [e0]; rfl) (kE (Or.inl e0))
    · refine zin (by first | omega | decide | (simp (maxSteps := 400000) (disch := omega) only [q_lit, q_neg, nI_ltI, nI_leI, nI_eq, nI_add, pk_mul, pk_sub, nI_clamp, vp_q, zu_same, zu_nc, zu_nj, ng_lt, ng_le, ng_gt, ng_ge, ng_eq, ng_qe, ng_ee, ng_add, not_false_eq_true, not_true_eq_false, ne_eq]; done) | (simp (maxSteps := 400000) (disch := omega) only [q_lit, q_neg, nI_ltI, nI_leI, nI_eq, nI_add, pk_mul, pk_sub, nI_clamp, vp_q, zu_same, zu_nc, zu_nj, ng_lt, ng_le, ng_gt, ng_ge, ng_eq, ng_qe, ng_ee, ng_add, not_false_eq_true, not_true_eq_false, ne_eq]; omega)) ?_
      by_cases q1 : cb m p < 48
      · exact zip (by first | omega | decide | (simp (maxSteps := 400000) (disch := omega) only [q_lit, q_neg, nI_ltI, nI_leI, nI_eq, nI_add, pk_mul, pk_sub, nI_clamp, vp_q, zu_same, zu_nc, zu_nj, ng_lt, ng_le, ng_gt, ng_ge, ng_eq, ng_qe, ng_ee, ng_add, not_false_eq_true, not_true_eq_false, ne_eq]; done) | (simp (maxSteps := 400000) (disch := omega) only [q_lit, q_neg, nI_ltI, nI_leI, nI_eq, nI_add, pk_mul, pk_sub, nI_clamp, vp_q, zu_same, zu_nc, zu_nj, ng_lt, ng_le, ng_gt, ng_ge, ng_eq, ng_qe, ng_ee, ng_add, not_false_eq_true, not_true_eq_false, ne_eq]; omega)) (kE (Or.inr (Or.inl q1)))
      · refine zin (by first | omega | decide | (simp (maxSteps := 400000) (disch := omega) only [q_lit, q_neg, nI_ltI, nI_leI, nI_eq, nI_add, pk_mul, pk_sub, nI_clamp, vp_q, zu_same, zu_nc, zu_nj, ng_lt, ng_le, ng_gt, ng_ge, ng_eq, ng_qe, ng_ee, ng_add, not_false_eq_true, not_true_eq_false, ne_eq]; done) | (simp (maxSteps := 400000) (disch := omega) only [q_lit, q_neg, nI_ltI, nI_leI, nI_eq, nI_add, pk_mul, pk_sub, nI_clamp, vp_q, zu_same, zu_nc, zu_nj, ng_lt, ng_le, ng_gt, ng_ge, ng_eq, ng_qe, ng_ee, ng_add, not_false_eq_true, not_true_eq_false, ne_eq]; omega)) ?_
        by_cases q2 : 58 < cb m p
        · exact zip (by first | omega | decide | (simp (maxSteps := 400000) (disch := omega) only [q_lit, q_neg, nI_ltI, nI_leI, nI_eq, nI_add, pk_mul, pk_sub, nI_clamp, vp_q, zu_same, zu_nc, zu_nj, ng_lt, ng_le, ng_gt, ng_ge, ng_eq, ng_qe, ng_ee, ng_add, not_false_eq_true, not_true_eq_false, ne_eq]; done) | (simp (maxSteps := 400000) (disch := omega) only [q_lit, q_neg, nI_ltI, nI_leI, nI_eq, nI_add, pk_mul, pk_sub, nI_clamp, vp_q, zu_same, zu_nc, zu_nj, ng_lt, ng_le, ng_gt, ng_ge, ng_eq, ng_qe, ng_ee, ng_add, not_false_eq_true, not_true_eq_false, ne_eq]; omega)) (kE (Or.inr (Or.inr q2)))
        · exact zin (by first | omega | decide | (simp (maxSteps := 400000) (disch := omega) only [q_lit, q_neg, nI_ltI, nI_leI, nI_eq, nI_add, pk_mul, pk_sub, nI_clamp, vp_q, zu_same, zu_nc, zu_nj, ng_lt, ng_le, ng_gt, ng_ge, ng_eq, ng_qe, ng_ee, ng_add, not_false_eq_true, not_true_eq_false, ne_eq]; done) | (simp (maxSteps := 400000) (disch := omega) only [q_lit, q_neg, nI_ltI, nI_leI, nI_eq, nI_add, pk_mul, pk_sub, nI_clamp, vp_q, zu_same, zu_nc, zu_nj, ng_lt, ng_le, ng_gt, ng_ge, ng_eq, ng_qe, ng_ee, ng_add, not_false_eq_true, not_true_eq_false, ne_eq]; omega)) (kW (by omega) (by omega) (by omega))
  unfold w_X2_takeTurn
  refine ⟨shF hf, L_code h hc ?_⟩
  rw [e]
  refine L_byt hm h hc hp ?_
  unfold w_X0_homePlace
  refine ⟨shF hf, ?_⟩
  by_cases e0 : wv m = 0
  · refine zip (by rw [h3, e0]; rfl) ?_
    rw [e, show nI p = oM (ho m p) from by rw [hho.1 e0, oM_s]]; exact fin
  · refine zin (by rw [h3]; first | omega | decide | (simp (maxSteps := 400000) (disch := omega) only [q_lit, q_neg, nI_ltI, nI_leI, nI_eq, nI_add, pk_mul, pk_sub, nI_clamp, vp_q, zu_same, zu_nc, zu_nj, ng_lt, ng_le, ng_gt, ng_ge, ng_eq, ng_qe, ng_ee, ng_add, not_false_eq_true, not_true_eq_false, ne_eq]; done) | (simp (maxSteps := 400000) (disch := omega) only [q_lit, q_neg, nI_ltI, nI_leI, nI_eq, nI_add, pk_mul, pk_sub, nI_clamp, vp_q, zu_same, zu_nc, zu_nj, ng_lt, ng_le, ng_gt, ng_ge, ng_eq, ng_qe, ng_ee, ng_add, not_false_eq_true, not_true_eq_false, ne_eq]; omega)) ⟨_, h2, shM hm, _, pM6 hP hm, shW hm, ?_⟩
    unfold w_X8_homeOf
    rw [e]
    refine zin (by first | omega | decide | (simp (maxSteps := 400000) (disch := omega) only [q_lit, q_neg, nI_ltI, nI_leI, nI_eq, nI_add, pk_mul, pk_sub, nI_clamp, vp_q, zu_same, zu_nc, zu_nj, ng_lt, ng_le, ng_gt, ng_ge, ng_eq, ng_qe, ng_ee, ng_add, not_false_eq_true, not_true_eq_false, ne_eq]; done) | (simp (maxSteps := 400000) (disch := omega) only [q_lit, q_neg, nI_ltI, nI_leI, nI_eq, nI_add, pk_mul, pk_sub, nI_clamp, vp_q, zu_same, zu_nc, zu_nj, ng_lt, ng_le, ng_gt, ng_ge, ng_eq, ng_qe, ng_ee, ng_add, not_false_eq_true, not_true_eq_false, ne_eq]; omega)) (zin (by first | omega | decide | (simp (maxSteps := 400000) (disch := omega) only [q_lit, q_neg, nI_ltI, nI_leI, nI_eq, nI_add, pk_mul, pk_sub, nI_clamp, vp_q, zu_same, zu_nc, zu_nj, ng_lt, ng_le, ng_gt, ng_ge, ng_eq, ng_qe, ng_ee, ng_add, not_false_eq_true, not_true_eq_false, ne_eq]; done) | (simp (maxSteps := 400000) (disch := omega) only [q_lit, q_neg, nI_ltI, nI_leI, nI_eq, nI_add, pk_mul, pk_sub, nI_clamp, vp_q, zu_same, zu_nc, zu_nj, ng_lt, ng_le, ng_gt, ng_ge, ng_eq, ng_qe, ng_ee, ng_add, not_false_eq_true, not_true_eq_false, ne_eq]; omega)) ⟨shW hm, _, pW1 hP hm, shW1 hm, by rw [zzW1 hm]; exact vp_in_nI hp1 (by decide), ?_⟩)
    rw [nI_clamp (by omega), L_s0 h (c := 28 + 12 * m) (by unfold rcL; omega), hho.2 e0]; exact fin
theorem M_front {m p : Nat} {s : List Va} {l : Nat → Va} {fs : List Frm} {K : zI → zP → Prop} (h : SM Gb k lim ((m, p, s, l) :: fs) n z I) (hc : CdM Gb k wv cb ln m) (hp : p < ln m) (hog : (wv m = 0 → og m p = p + 1) ∧ (wv m ≠ 0 → Gb 178 (1000 * m + p) = oM (og m p))) (kW : 48 ≤ cb m p → cb m p ≤ 58 → w_X10_said (nI m) (nI p) (nI (cb m p)) I P (fun I9 P9 => K I9 P9)) (kE : ¬ (48 ≤ cb m p ∧ cb m p ≤ 58) → j_X10_step_74 K (nI m) (nI p) (nI (cb m p)) (oM (og m p)) I P) : w_X10_step I P K := by
  obtain ⟨hf, e1⟩ := M_f1 h
  obtain ⟨hm, q2, q3, q4, -⟩ := h.2.2.2.1.1
  dsimp only at hm q2 q3 q4
  have v1 : vp_in (nI fs.length) 12 := vp_in_nI hf (by decide)
  have w1 := hc.1
  have b256 := (hc.2.2.2 p hp).1
  unfold w_X10_step
  rw [e1, nI_clamp (by omega), q2, q3]
  refine ⟨v1, v1, M_oct hm h hc hp ?_⟩
  by_cases hw : 48 ≤ cb m p ∧ cb m p ≤ 58
  · exact s_inNT (lo := 48) (hi := 58) ⟨by decide, by decide⟩ hw (zin (by decide) (kW hw.1 hw.2))
  · refine s_inNF (lo := 48) (hi := 58) ⟨by omega, by decide, by decide⟩ hw (zip rfl (M_rw hm h hc ?_))
    by_cases e0 : wv m = 0
    · have k2 := kE hw
      rw [hog.1 e0, oM_s] at k2
      exact zip (by rw [e0]; rfl) k2
    · refine zin (by first | omega | decide | (simp (maxSteps := 400000) (disch := omega) only [q_lit, q_neg, nI_ltI, nI_leI, nI_eq, nI_add, pk_mul, pk_sub, nI_clamp, vp_q, zu_same, zu_nc, zu_nj, ng_lt, ng_le, ng_gt, ng_ge, ng_eq, ng_qe, ng_ee, ng_add, not_false_eq_true, not_true_eq_false, ne_eq]; done) | (simp (maxSteps := 400000) (disch := omega) only [q_lit, q_neg, nI_ltI, nI_leI, nI_eq, nI_add, pk_mul, pk_sub, nI_clamp, vp_q, zu_same, zu_nc, zu_nj, ng_lt, ng_le, ng_gt, ng_ge, ng_eq, ng_qe, ng_ee, ng_add, not_false_eq_true, not_true_eq_false, ne_eq]; omega)) ?_
      rw [e1000, nI_clamp (by omega), M_s0 h (c := 178) (by unfold rcM; omega), hog.2 e0]
      exact ⟨vp_in_nI (by omega) (by decide), kE hw⟩
end
