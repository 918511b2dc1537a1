/-! PURE 55: weave over Rel -/
theorem Rel_w {n k m : Nat} {A : Nat → Nat → Nat → Nat} {B : Nat → Nat → Nat} {I J : zI} (hm : m < 6) (h : Rel n A k B I) (f : ∀ c j, ¬ (7 ≤ c ∧ c ≤ 18) → ¬ (189 ≤ c ∧ c ≤ 195) → ¬ (c = 155 ∧ (j = 42 ∨ j = 47 ∨ j = 48)) → ¬ blkW m c j → J c j = I c j) (hv : VW n A k B m J) : Rel n A k B J := by
  obtain ⟨g1, g2, g3, g4, g5, g6, g7, g8, g9⟩ := h
  have h6n := g4.1
  unfold blkW at f
  refine ⟨RTp_c g1 (fun c j q => f c j (by omega) (by omega) (by omega) (by omega)), by rw [f _ _ (by omega) (by omega) (by omega) (by omega), f _ _ (by omega) (by omega) (by omega) (by omega)]; exact g2, by rw [f _ _ (by omega) (by omega) (by omega) (by omega), f _ _ (by omega) (by omega) (by omega) (by omega)]; exact g3, RM_c g4 (f _ _ (by omega) (by omega) (by omega) (by omega)) (f _ _ (by omega) (by omega) (by omega) (by omega)) (fun m' hm' c j q => f c j (by unfold blkM at q; omega) (by unfold blkM at q; omega) (by unfold blkM at q; omega) (by unfold blkM at q; omega)), g5, fun m' hm' => by rw [f _ _ (by omega) (by omega) (by omega) (by omega)]; exact g6 m' hm', PB_c g7 (fun c j q => f c j (by omega) (by omega) (by omega) (by omega)), fun m' hm' => ?_, fun j hj => RT_c hj (g9 j hj) (fun c i q => f c i (by omega) (by omega) (by omega) (by omega))⟩
  by_cases e : m' = m
  · subst e; exact hv
  · exact VW_c (fun m hm => (g4.2.2.2 m hm).2.2) (g8 m' hm') (fun c j q => f c j (by unfold blkW at q; omega) (by unfold blkW at q; omega) (by unfold blkW at q; omega) (by unfold blkW at q; omega))
theorem WVo_of {A B F : Nat → Nat → Nat} {m w : Nat} {I : zI} (hT1 : TOT A m B w F ≤ 1000) (hF : FOK A m B w F) (e : grw A m B w F = F) (hL : LV A m B w F I) (hM : MV A m B w F I) : WVo A m B w F I := by
  obtain ⟨-, l6, l7, l8, l9, l10, lb, ls, lh, ll⟩ := hL
  obtain ⟨m77, m79, m85, m86, m75, mb, ms, mh, ml⟩ := hM
  refine ⟨hT1, hF.1, fun p q => (hF.2.1 p q).2.2, stl_g e, l6, m77, l7, m79, by rw [l8, m85], by rw [l9, m86], l10, m75, fun i hi => ⟨(lb i hi).1, (lb i hi).2, (mb i hi).1, (mb i hi).2⟩, fun p hp hz => ⟨(ls p hp hz).1, ms p hp hz, (ls p hp hz).2⟩, fun q hq => ?_, fun z => ?_⟩
  · obtain ⟨a0, a1, a2, a3⟩ := lh q hq
    obtain ⟨b0, b1, b2, b3⟩ := mh q hq
    exact ⟨a0, a1, a2, a3, b0, b1, b2, b3⟩
  · obtain ⟨a0, a1, a2, a3⟩ := ll z
    obtain ⟨b0, b1, b2, b3⟩ := ml z
    exact ⟨a0, a1, a2, a3, b0, b1, b2, b3⟩
theorem LV_c {A B F : Nat → Nat → Nat} {m w : Nat} {I J : zI} (h : LV A m B w F I) (f : ∀ c j, 26 + 12 * m ≤ c ∧ c ≤ 31 + 12 * m → J c j = I c j) : LV A m B w F J := by
  obtain ⟨l5, l6, l7, l8, l9, l10, lb, ls, lh, ll⟩ := h
  refine ⟨by rw [f _ _ (by omega)]; exact l5, by rw [f _ _ (by omega)]; exact l6, by rw [f _ _ (by omega)]; exact l7, by rw [f _ _ (by omega)]; exact l8, by rw [f _ _ (by omega)]; exact l9, by rw [f _ _ (by omega)]; exact l10, fun i hi => by rw [f _ _ (by omega), f _ _ (by omega)]; exact lb i hi, fun p hp hz => by rw [f _ _ (by omega), f _ _ (by omega)]; exact ls p hp hz, fun q hq => by rw [f _ _ (by omega), f _ _ (by omega), f _ _ (by omega), f _ _ (by omega)]; exact lh q hq, fun z => by rw [f _ _ (by omega), f _ _ (by omega), f _ _ (by omega), f _ _ (by omega)]; exact ll z⟩
theorem k_weave {a : Nat → Int32} {I : zI} {P : zP} (hP : PSt P) (h : RelE I P) : ok_weave a RelE I P := by
  obtain ⟨n, A, k, B, hR⟩ := h
  obtain ⟨hn, e1, e2⟩ := Rel_n hR
  unfold ok_weave w_X9_weave w_X10_weave
  rcases ix_cases (a 1) (n := n) (by omega) with ⟨m, hm, e⟩ | hno
  · rw [e]
    have hm6 : m < 6 := by omega
    have lp : P 19 (nI m).toNatClampNeg = some (20 + 12 * m) := by rw [nI_clamp (by omega)]; exact pM hP hm6
    obtain ⟨hB, hJ, hH, -⟩ := hR.2.2.2.2.1 m hm
    obtain ⟨hLI, hRI, -⟩ := hR.2.2.2.1.2.2.2 m hm
    obtain ⟨hk, p1, p2, p3⟩ := hR.2.2.2.2.2.2.1
    have hnum := hR.2.2.2.2.2.1 m hm6
    have hl := hB.2.2.2.2.1
    have h8 := hB.2.2.2.2.2.1
    have hC : CL (A m) m B k I := ⟨LM0_of hLI, hnum, hk, p1, fun q hq => by obtain ⟨a1, -, a3, -, a5, -⟩ := p3 q hq; exact ⟨a1, a3, a5⟩⟩
    have hQ : BQ (A m) m B k := fun q hq => by
      obtain ⟨-, -, -, -, -, -, -, -, b1, b2, b3, b4, b5, -⟩ := p3 q hq
      have w5 := (hR.2.2.2.1.2.2.2 (B 1 q) b2).2.2.2.2.2.2.1
      refine ⟨b1, by omega, by omega, fun z => ?_⟩
      rw [z] at b3 b4 b5
      exact ⟨b3, b4, b5⟩
    have hM0 := RM0_of hRI
    have hq0 : MQw B k I := ⟨hk, p2, fun q hq => by obtain ⟨-, a2, -, a4, -, a6, -⟩ := p3 q hq; exact ⟨a2, a4, a6⟩⟩
    refine s_isMT e1 hn hm (zin (by decide) ⟨vp_in_nI hm6 (by decide), _, lp, w_L hP hm6 hB hJ hH hC hQ (fun N J r f eN o => ?_)⟩)
    refine s_misMT (n := n) (by rw [f _ _ (by omega) (by omega)]; exact e2) hn hm (zin (by decide) (s_mrd hm6 hB hJ hH hQ (RM0_c hM0 (fun c j a b => f c j (by omega) (by omega))) (MQw_c hq0 (fun c j a => f c j (by omega) (by omega))) (fun N' J' f' hD eN' => ?_)))
    have ok := FOK_I (A := A m) (B := B) (m := m) (w := k) N
    rw [grI_u eN' eN] at hD
    generalize grI (A m) m B k N = F at hD eN o ok
    have bt := TOT_lt (A := A m) (B := B) (m := m) hk ok.1 hB.2.2.2.2.2.2.2.2.2.2 hl h8
    rw [hD.2.1]
    rcases o with ⟨o1, o2, o3⟩ | ⟨o1, o2, o3⟩
    · refine zip (by first | omega | decide | (simp (maxSteps := 400000) (disch := omega) only [q_lit, q_neg, nI_ltI, nI_leI, nI_eq, nI_add, pk_mul, pk_sub, nI_clamp, vp_q, zu_same, zu_nc, zu_nj, ng_lt, ng_le, ng_gt, ng_ge, ng_eq, ng_qe, ng_ee, ng_add, not_false_eq_true, not_true_eq_false, ne_eq]; done) | (simp (maxSteps := 400000) (disch := omega) only [q_lit, q_neg, nI_ltI, nI_leI, nI_eq, nI_add, pk_mul, pk_sub, nI_clamp, vp_q, zu_same, zu_nc, zu_nj, ng_lt, ng_le, ng_gt, ng_ge, ng_eq, ng_qe, ng_ee, ng_add, not_false_eq_true, not_true_eq_false, ne_eq]; omega)) (s_keep hm6 hB hH hQ ok o1 hD (fun J2 f2 mv => ⟨vp_in_nI hm6 (by decide), ?_⟩))
      rw [nI_clamp (by omega), mv.1]
      refine ⟨o2, n, A, k, B, Rel_w hm6 hR (fun c j q1 q2 q3 q4 => ?_) (Or.inr ⟨hm, ?_, k, F, Nat.le_refl _, WVo_of o1 ok eN (LV_c o3 (fun c j q => ?_)) mv⟩)⟩
      · unfold blkW at q4
        rw [f2 c j (by unfold blkV; omega), f' c j q2 q3]; exact f c j q1 (by omega)
      · rw [f2 _ _ (by unfold blkV; omega), f' _ _ (by omega) (by omega)]; exact o3.1
      · rw [f2 _ _ (by unfold blkV; omega), f' _ _ (by omega) (by omega)]
    · refine zin (by first | omega | decide | (simp (maxSteps := 400000) (disch := omega) only [q_lit, q_neg, nI_ltI, nI_leI, nI_eq, nI_add, pk_mul, pk_sub, nI_clamp, vp_q, zu_same, zu_nc, zu_nj, ng_lt, ng_le, ng_gt, ng_ge, ng_eq, ng_qe, ng_ee, ng_add, not_false_eq_true, not_true_eq_false, ne_eq]; done) | (simp (maxSteps := 400000) (disch := omega) only [q_lit, q_neg, nI_ltI, nI_leI, nI_eq, nI_add, pk_mul, pk_sub, nI_clamp, vp_q, zu_same, zu_nc, zu_nj, ng_lt, ng_le, ng_gt, ng_ge, ng_eq, ng_qe, ng_ee, ng_add, not_false_eq_true, not_true_eq_false, ne_eq]; omega)) ⟨o2, n, A, k, B, Rel_w hm6 hR (fun c j q1 q2 q3 q4 => by rw [f' c j q2 q3]; exact o3 c j q1) ?_⟩
      have hv := hR.2.2.2.2.2.2.2.1 m hm6
      exact VW_c (fun m hm => (hR.2.2.2.1.2.2.2 m hm).2.2) hv (fun c j q => by unfold blkW at q; rw [f' c j (by omega) (by omega)]; exact o3 c j (by omega))
  · exact s_isMF e1 hno (zip rfl (s_misMF e2 hn hno (zip rfl ⟨rfl, n, A, k, B, hR⟩)))
