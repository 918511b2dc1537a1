/-! PURE 42: probe over Rel -/
def adP (I : zI) (k : Nat) (x1 x2 x3 x4 x5 : Int32) : zI := zu (zu (zu (zu (zu (zu (zu (zu (zu (zu (zu (zu I 109 k x1) 110 k x2) 111 k x3) 112 k x4) 113 k x5) 108 5 (nI (k + 1))) 170 k x1) 171 k x2) 172 k x3) 173 k x4) 174 k x5) 155 17 (nI (k + 1))
theorem Rel_p {P : zP} {n k m s p : Nat} {x y : Int32} {A : Nat → Nat → Nat → Nat} {B : Nat → Nat → Nat} {I : zI} (h : Rel n A k B I) (hk : k < 24) (hm : m < n) (hs : s < 8) (hp : p < A m 0 2) (h2 : 0 < A m 2 p) (hf : fitP (A m) s p) (hw : wrg s x y) : RelE (adP I k (nI s) (nI m) (nI p) x y) P := by
  have fr : ∀ c j, ¬ (109 ≤ c ∧ c ≤ 113 ∧ j = k) → ¬ (c = 108 ∧ j = 5) → ¬ (170 ≤ c ∧ c ≤ 174 ∧ j = k) → ¬ (c = 155 ∧ j = 17) → adP I k (nI s) (nI m) (nI p) x y c j = I c j := fun c j q1 q2 q3 q4 => by
    unfold adP
    rw [zu_ne (by omega), zu_ne (by omega), zu_ne (by omega), zu_ne (by omega), zu_ne (by omega), zu_ne (by omega), zu_ne (by omega), zu_ne (by omega), zu_ne (by omega), zu_ne (by omega), zu_ne (by omega), zu_ne (by omega)]
  have v0 : adP I k (nI s) (nI m) (nI p) x y 108 5 = nI (k + 1) := by unfold adP; simp (maxSteps := 400000) (disch := omega) only [q_lit, q_neg, nI_ltI, nI_leI, nI_eq, nI_add, pk_mul, pk_sub, nI_clamp, vp_q, zu_same, zu_nc, zu_nj, ng_lt, ng_le, ng_gt, ng_ge, ng_eq, ng_qe, ng_ee, ng_add, not_false_eq_true, not_true_eq_false, ne_eq]
  have v1 : adP I k (nI s) (nI m) (nI p) x y 155 17 = nI (k + 1) := by unfold adP; simp (maxSteps := 400000) (disch := omega) only [q_lit, q_neg, nI_ltI, nI_leI, nI_eq, nI_add, pk_mul, pk_sub, nI_clamp, vp_q, zu_same, zu_nc, zu_nj, ng_lt, ng_le, ng_gt, ng_ge, ng_eq, ng_qe, ng_ee, ng_add, not_false_eq_true, not_true_eq_false, ne_eq]
  have a1 : adP I k (nI s) (nI m) (nI p) x y 109 k = nI s := by unfold adP; simp (maxSteps := 400000) (disch := omega) only [q_lit, q_neg, nI_ltI, nI_leI, nI_eq, nI_add, pk_mul, pk_sub, nI_clamp, vp_q, zu_same, zu_nc, zu_nj, ng_lt, ng_le, ng_gt, ng_ge, ng_eq, ng_qe, ng_ee, ng_add, not_false_eq_true, not_true_eq_false, ne_eq]
  have a2 : adP I k (nI s) (nI m) (nI p) x y 110 k = nI m := by unfold adP; simp (maxSteps := 400000) (disch := omega) only [q_lit, q_neg, nI_ltI, nI_leI, nI_eq, nI_add, pk_mul, pk_sub, nI_clamp, vp_q, zu_same, zu_nc, zu_nj, ng_lt, ng_le, ng_gt, ng_ge, ng_eq, ng_qe, ng_ee, ng_add, not_false_eq_true, not_true_eq_false, ne_eq]
  have a3 : adP I k (nI s) (nI m) (nI p) x y 111 k = nI p := by unfold adP; simp (maxSteps := 400000) (disch := omega) only [q_lit, q_neg, nI_ltI, nI_leI, nI_eq, nI_add, pk_mul, pk_sub, nI_clamp, vp_q, zu_same, zu_nc, zu_nj, ng_lt, ng_le, ng_gt, ng_ge, ng_eq, ng_qe, ng_ee, ng_add, not_false_eq_true, not_true_eq_false, ne_eq]
  have a4 : adP I k (nI s) (nI m) (nI p) x y 112 k = x := by unfold adP; simp (maxSteps := 400000) (disch := omega) only [q_lit, q_neg, nI_ltI, nI_leI, nI_eq, nI_add, pk_mul, pk_sub, nI_clamp, vp_q, zu_same, zu_nc, zu_nj, ng_lt, ng_le, ng_gt, ng_ge, ng_eq, ng_qe, ng_ee, ng_add, not_false_eq_true, not_true_eq_false, ne_eq]
  have a5 : adP I k (nI s) (nI m) (nI p) x y 113 k = y := by unfold adP; simp (maxSteps := 400000) (disch := omega) only [q_lit, q_neg, nI_ltI, nI_leI, nI_eq, nI_add, pk_mul, pk_sub, nI_clamp, vp_q, zu_same, zu_nc, zu_nj, ng_lt, ng_le, ng_gt, ng_ge, ng_eq, ng_qe, ng_ee, ng_add, not_false_eq_true, not_true_eq_false, ne_eq]
  have b1 : adP I k (nI s) (nI m) (nI p) x y 170 k = nI s := by unfold adP; simp (maxSteps := 400000) (disch := omega) only [q_lit, q_neg, nI_ltI, nI_leI, nI_eq, nI_add, pk_mul, pk_sub, nI_clamp, vp_q, zu_same, zu_nc, zu_nj, ng_lt, ng_le, ng_gt, ng_ge, ng_eq, ng_qe, ng_ee, ng_add, not_false_eq_true, not_true_eq_false, ne_eq]
  have b2 : adP I k (nI s) (nI m) (nI p) x y 171 k = nI m := by unfold adP; simp (maxSteps := 400000) (disch := omega) only [q_lit, q_neg, nI_ltI, nI_leI, nI_eq, nI_add, pk_mul, pk_sub, nI_clamp, vp_q, zu_same, zu_nc, zu_nj, ng_lt, ng_le, ng_gt, ng_ge, ng_eq, ng_qe, ng_ee, ng_add, not_false_eq_true, not_true_eq_false, ne_eq]
  have b3 : adP I k (nI s) (nI m) (nI p) x y 172 k = nI p := by unfold adP; simp (maxSteps := 400000) (disch := omega) only [q_lit, q_neg, nI_ltI, nI_leI, nI_eq, nI_add, pk_mul, pk_sub, nI_clamp, vp_q, zu_same, zu_nc, zu_nj, ng_lt, ng_le, ng_gt, ng_ge, ng_eq, ng_qe, ng_ee, ng_add, not_false_eq_true, not_true_eq_false, ne_eq]
  have b4 : adP I k (nI s) (nI m) (nI p) x y 173 k = x := by unfold adP; simp (maxSteps := 400000) (disch := omega) only [q_lit, q_neg, nI_ltI, nI_leI, nI_eq, nI_add, pk_mul, pk_sub, nI_clamp, vp_q, zu_same, zu_nc, zu_nj, ng_lt, ng_le, ng_gt, ng_ge, ng_eq, ng_qe, ng_ee, ng_add, not_false_eq_true, not_true_eq_false, ne_eq]
  have b5 : adP I k (nI s) (nI m) (nI p) x y 174 k = y := by unfold adP; simp (maxSteps := 400000) (disch := omega) only [q_lit, q_neg, nI_ltI, nI_leI, nI_eq, nI_add, pk_mul, pk_sub, nI_clamp, vp_q, zu_same, zu_nc, zu_nj, ng_lt, ng_le, ng_gt, ng_ge, ng_eq, ng_qe, ng_ee, ng_add, not_false_eq_true, not_true_eq_false, ne_eq]
  generalize adP I k (nI s) (nI m) (nI p) x y = J at fr v0 v1 a1 a2 a3 a4 a5 b1 b2 b3 b4 b5 ⊢
  obtain ⟨g1, g2, g3, g4, g5, g6, g7, g8, g9⟩ := h
  have h6n := g4.1
  have hWB := fun m hm => (g4.2.2.2 m hm).2.2
  refine ⟨n, A, k + 1, fun i q => if q = k then (if i = 0 then s else if i = 1 then m else p) else B i q, RTp_c g1 (fun c j q => fr c j (by omega) (by omega) (by omega) (by omega)), by rw [fr _ _ (by omega) (by omega) (by omega) (by omega), fr _ _ (by omega) (by omega) (by omega) (by omega)]; exact g2, by rw [fr _ _ (by omega) (by omega) (by omega) (by omega), fr _ _ (by omega) (by omega) (by omega) (by omega)]; exact g3, RM_c g4 (fr _ _ (by omega) (by omega) (by omega) (by omega)) (fr _ _ (by omega) (by omega) (by omega) (by omega)) (fun m' hm' c j q => fr c j (by unfold blkM at q; omega) (by unfold blkM at q; omega) (by unfold blkM at q; omega) (by unfold blkM at q; omega)), g5, fun m' hm' => by rw [fr _ _ (by omega) (by omega) (by omega) (by omega)]; exact g6 m' hm', ⟨by omega, v0, v1, fun q hq => ?_⟩, fun m' hm' => ?_, fun j hj => RT_c hj (g9 j hj) (fun c i q => fr c i (by omega) (by omega) (by omega) (by omega))⟩
  · dsimp only
    by_cases e : q = k
    · subst e
      simp only [if_true, if_false, Nat.one_ne_zero, show ¬ (2 : Nat) = 0 by decide, show ¬ (2 : Nat) = 1 by decide]
      refine ⟨a1, b1, a2, b2, a3, b3, by rw [a4, b4], by rw [a5, b5], hs, hm, hp, h2, hf, fun e6 => ?_⟩
      obtain ⟨w1, w2⟩ := hw e6
      have r1 : ∀ {z : Int32} {b : Nat}, b < 2 ^ 30 → 1 ≤ z ∧ z ≤ nI b → ∃ v, 1 ≤ v ∧ v ≤ b ∧ z = nI v := fun {z b} hb ⟨q1, q2⟩ => by
        rcases ix_cases z (n := b + 1) (by omega) with ⟨j, hj, ej⟩ | hno
        · subst ej
          rw [show (1 : Int32) = nI 1 from rfl, nI_leI (by omega) (by omega)] at q1
          exact ⟨j, q1, by omega, rfl⟩
        · rw [Int32.le_iff_toInt_le] at q1 q2
          rw [nI_toInt (by omega)] at q2
          have e1 : (1 : Int32).toInt = 1 := by decide
          have e0 : (0 : Int32).toInt = 0 := by decide
          rcases hno with z1 | z1
          · rw [Int32.lt_iff_toInt_lt] at z1; omega
          · rw [Int32.le_iff_toInt_le, nI_toInt (by omega)] at z1; omega
      obtain ⟨xv, x1, x2, x3⟩ := r1 (b := 1000) (by decide) w1
      obtain ⟨yv, y1, y2, y3⟩ := r1 (b := 100) (by decide) w2
      exact ⟨xv, yv, x1, x2, y1, y2, by rw [a4, x3], by rw [a5, y3]⟩
    · simp only [if_neg e]
      rw [fr 109 q (by omega) (by omega) (by omega) (by omega), fr 110 q (by omega) (by omega) (by omega) (by omega), fr 111 q (by omega) (by omega) (by omega) (by omega), fr 112 q (by omega) (by omega) (by omega) (by omega), fr 113 q (by omega) (by omega) (by omega) (by omega), fr 170 q (by omega) (by omega) (by omega) (by omega), fr 171 q (by omega) (by omega) (by omega) (by omega), fr 172 q (by omega) (by omega) (by omega) (by omega), fr 173 q (by omega) (by omega) (by omega) (by omega), fr 174 q (by omega) (by omega) (by omega) (by omega)]
      exact g7.2.2.2 q (by omega)
  · have := VW_c (I' := J) hWB (g8 m' hm') (fun c j q => fr c j (by unfold blkW at q; omega) (by unfold blkW at q; omega) (by unfold blkW at q; omega) (by unfold blkW at q; omega))
    rcases this with z | ⟨z1, z2, w, F, z3, z4⟩
    · exact Or.inl z
    · exact Or.inr ⟨z1, z2, w, F, by omega, WVo_B (fun i q hq => if_neg (by omega)) z4⟩
theorem k_probe {a : Nat → Int32} {I : zI} {P : zP} (hP : PSt P) (h : RelE I P) : ok_probe a RelE I P := by
  obtain ⟨n, A, k, B, hR⟩ := h
  obtain ⟨hn, e1, e2⟩ := Rel_n hR
  obtain ⟨hk, p1, p2, -⟩ := hR.2.2.2.2.2.2.1
  unfold ok_probe
  have same : RelE I P := ⟨n, A, k, B, hR⟩
  have in7 : ∀ {x : Int32} {K : Int32 → zI → zP → Prop}, K 0 I P → K 1 I P → w_X10_in x 0 7 I P K := fun {x K} q0 q1 => by
    rw [s_in]; split
    · exact q1
    · exact q0
  rcases ix_cases (a 2) (n := n) (by omega) with ⟨m, hm, e⟩ | hno
  · rw [e]
    have hm6 : m < 6 := by omega
    obtain ⟨hL, hM, hB⟩ := hR.2.2.2.1.2.2.2 m hm
    have h400 := hB.2.2.2.2.1
    have lp : P 19 (nI m).toNatClampNeg = some (20 + 12 * m) := by rw [nI_clamp (by omega)]; exact pM hP hm6
    -- the loom's beginning
    have bL : ∀ K : Int32 → zI → zP → Prop, w_X3_takesProbe (20 + 12 * m) (a 1) (a 3) I P (fun v7 I7 P7 => if v7 = 0 then K (-2) I7 P7 else if a 1 = 6 then (if a 4 < 1 then K (-2) I7 P7 else if 1000 < a 4 then K (-2) I7 P7 else if a 5 < 1 then K (-2) I7 P7 else if a 5 ≤ 100 then j_X9_probe_61 K (a 1) (nI m) (a 3) (a 4) (a 5) I7 P7 else K (-2) I7 P7) else j_X9_probe_61 K (a 1) (nI m) (a 3) (a 4) (a 5) I7 P7) → w_X9_probe (a 1) (nI m) (a 3) (a 4) (a 5) I P K := fun K q => by
      unfold w_X9_probe
      exact s_isMT e1 hn hm (zin (by decide) ⟨vp_in_nI hm6 (by decide), _, lp, shM hm6, q⟩)
    have nbg : (∀ K : Int32 → zI → zP → Prop, K 0 I P → w_X3_beginsAt (20 + 12 * m) (a 3) I P K) → (∀ K : Int32 → zI → zP → Prop, K 0 I P → w_X10_isBegin (nI m) (a 3) I P K) → w_X9_probe (a 1) (nI m) (a 3) (a 4) (a 5) I P (fun r I2 P2 => w_X10_probe (a 1) (nI m) (a 3) (a 4) (a 5) I2 P2 (fun r2 I3 P3 => r = r2 ∧ RelE I3 P3)) := fun q1 q2 => by
      refine bL _ ?_
      unfold w_X3_takesProbe
      refine ⟨shM hm6, q1 _ (zip rfl (zip rfl ?_))⟩
      unfold w_X10_probe
      exact in7 (zip rfl ⟨rfl, same⟩) (zin (by decide) (s_misMT e2 hn hm (zin (by decide) (q2 _ (zip rfl ⟨rfl, same⟩)))))
    rcases ix_cases (a 3) (n := A m 0 2) (by omega) with ⟨p, hp, e3⟩ | hno
    · by_cases h2 : A m 2 p = 0
      · exact nbg (fun K q => by rw [e3]; exact s_bgF hP hm6 hL hB hp h2 q) (fun K q => by rw [e3]; exact s_mbgF hm6 hM hB hp h2 q)
      · have h2' : 0 < A m 2 p := by omega
        refine bL _ ?_
        rw [e3]
        rcases ix_cases (a 1) (n := 8) (by decide) with ⟨s, hs, es⟩ | hno
        · rw [es]
          have inT : ∀ K2 : Int32 → zI → zP → Prop, K2 1 I P → w_X10_in (nI s) 0 7 I P K2 := fun K2 q => s_inT ⟨by first | omega | decide | (simp (maxSteps := 400000) (disch := omega) only [q_lit, q_neg, nI_ltI, nI_leI, nI_eq, nI_add, pk_mul, pk_sub, nI_clamp, vp_q, zu_same, zu_nc, zu_nj, ng_lt, ng_le, ng_gt, ng_ge, ng_eq, ng_qe, ng_ee, ng_add, not_false_eq_true, not_true_eq_false, ne_eq]; done) | (simp (maxSteps := 400000) (disch := omega) only [q_lit, q_neg, nI_ltI, nI_leI, nI_eq, nI_add, pk_mul, pk_sub, nI_clamp, vp_q, zu_same, zu_nc, zu_nj, ng_lt, ng_le, ng_gt, ng_ge, ng_eq, ng_qe, ng_ee, ng_add, not_false_eq_true, not_true_eq_false, ne_eq]; omega), by first | omega | decide | (simp (maxSteps := 400000) (disch := omega) only [q_lit, q_neg, nI_ltI, nI_leI, nI_eq, nI_add, pk_mul, pk_sub, nI_clamp, vp_q, zu_same, zu_nc, zu_nj, ng_lt, ng_le, ng_gt, ng_ge, ng_eq, ng_qe, ng_ee, ng_add, not_false_eq_true, not_true_eq_false, ne_eq]; done) | (simp (maxSteps := 400000) (disch := omega) only [q_lit, q_neg, nI_ltI, nI_leI, nI_eq, nI_add, pk_mul, pk_sub, nI_clamp, vp_q, zu_same, zu_nc, zu_nj, ng_lt, ng_le, ng_gt, ng_ge, ng_eq, ng_qe, ng_ee, ng_add, not_false_eq_true, not_true_eq_false, ne_eq]; omega)⟩ q
          have bad : ¬ (fitP (A m) s p ∧ wrg s (a 4) (a 5)) → w_X10_probe (nI s) (nI m) (nI p) (a 4) (a 5) I P (fun r2 I3 P3 => (-2 : Int32) = r2 ∧ RelE I3 P3) := fun z => by
            unfold w_X10_probe
            exact inT _ (zin (by decide) (s_misMT e2 hn hm (zin (by decide) (s_mbgT hm6 hM hB hp h2' (zin (by decide) (p_M hm6 hM hB hp hs (fun f w => absurd ⟨f, w⟩ z) (fun _ => zip rfl ⟨rfl, same⟩)))))))
          refine p_L hP hm6 hL hB hp h2' hs (fun f => zin (by decide) ?_) (fun f => zip rfl (bad (fun z => f z.1)))
          have good : wrg s (a 4) (a 5) → j_X9_probe_61 (fun r I2 P2 => w_X10_probe (nI s) (nI m) (nI p) (a 4) (a 5) I2 P2 (fun r2 I3 P3 => r = r2 ∧ RelE I3 P3)) (nI s) (nI m) (nI p) (a 4) (a 5) I P := fun w => by
            unfold j_X9_probe_61
            by_cases h24 : k = 24
            · refine zin (by rw [p1, h24]; decide) ?_
              unfold w_X10_probe
              exact inT _ (zin (by decide) (s_misMT e2 hn hm (zin (by decide) (s_mbgT hm6 hM hB hp h2' (zin (by decide) (p_M hm6 hM hB hp hs (fun _ _ => zin (by decide) (zip (by rw [p2, h24]; rfl) ⟨rfl, same⟩)) (fun z => absurd ⟨f, w⟩ z)))))))
            · have hk' : k < 24 := by omega
              refine zip (by rw [p1]; first | omega | decide | (simp (maxSteps := 400000) (disch := omega) only [q_lit, q_neg, nI_ltI, nI_leI, nI_eq, nI_add, pk_mul, pk_sub, nI_clamp, vp_q, zu_same, zu_nc, zu_nj, ng_lt, ng_le, ng_gt, ng_ge, ng_eq, ng_qe, ng_ee, ng_add, not_false_eq_true, not_true_eq_false, ne_eq]; done) | (simp (maxSteps := 400000) (disch := omega) only [q_lit, q_neg, nI_ltI, nI_leI, nI_eq, nI_add, pk_mul, pk_sub, nI_clamp, vp_q, zu_same, zu_nc, zu_nj, ng_lt, ng_le, ng_gt, ng_ge, ng_eq, ng_qe, ng_ee, ng_add, not_false_eq_true, not_true_eq_false, ne_eq]; omega)) (s_add hk' p1 ?_)
              have fin := Rel_p (P := P) hR hk' hm hs hp h2' f w
              unfold adP at fin
              have fr : ∀ c j, ¬ (109 ≤ c ∧ c ≤ 113 ∧ j = k) → ¬ (c = 108 ∧ j = 5) → zu (zu (zu (zu (zu (zu I 109 k (nI s)) 110 k (nI m)) 111 k (nI p)) 112 k (a 4)) 113 k (a 5)) 108 5 (nI (k + 1)) c j = I c j := fun c j q1 q2 => by
                rw [zu_ne (by omega), zu_ne (by omega), zu_ne (by omega), zu_ne (by omega), zu_ne (by omega), zu_ne (by omega)]
              generalize zu (zu (zu (zu (zu (zu I 109 k (nI s)) 110 k (nI m)) 111 k (nI p)) 112 k (a 4)) 113 k (a 5)) 108 5 (nI (k + 1)) = J at fr fin ⊢
              have hM' : RMI (A m) m J := RMI_c hB hM (fun c j q => fr c j (by unfold blkM at q; omega) (by unfold blkM at q; omega))
              exact s_madd hk' (by rw [fr _ _ (by omega) (by omega)]; exact p2) ⟨rfl, fin⟩ (fun K2 q => s_inT ⟨by first | omega | decide | (simp (maxSteps := 400000) (disch := omega) only [q_lit, q_neg, nI_ltI, nI_leI, nI_eq, nI_add, pk_mul, pk_sub, nI_clamp, vp_q, zu_same, zu_nc, zu_nj, ng_lt, ng_le, ng_gt, ng_ge, ng_eq, ng_qe, ng_ee, ng_add, not_false_eq_true, not_true_eq_false, ne_eq]; done) | (simp (maxSteps := 400000) (disch := omega) only [q_lit, q_neg, nI_ltI, nI_leI, nI_eq, nI_add, pk_mul, pk_sub, nI_clamp, vp_q, zu_same, zu_nc, zu_nj, ng_lt, ng_le, ng_gt, ng_ge, ng_eq, ng_qe, ng_ee, ng_add, not_false_eq_true, not_true_eq_false, ne_eq]; omega), by first | omega | decide | (simp (maxSteps := 400000) (disch := omega) only [q_lit, q_neg, nI_ltI, nI_leI, nI_eq, nI_add, pk_mul, pk_sub, nI_clamp, vp_q, zu_same, zu_nc, zu_nj, ng_lt, ng_le, ng_gt, ng_ge, ng_eq, ng_qe, ng_ee, ng_add, not_false_eq_true, not_true_eq_false, ne_eq]; done) | (simp (maxSteps := 400000) (disch := omega) only [q_lit, q_neg, nI_ltI, nI_leI, nI_eq, nI_add, pk_mul, pk_sub, nI_clamp, vp_q, zu_same, zu_nc, zu_nj, ng_lt, ng_le, ng_gt, ng_ge, ng_eq, ng_qe, ng_ee, ng_add, not_false_eq_true, not_true_eq_false, ne_eq]; omega)⟩ q) (fun K2 q => s_misMT (by rw [fr _ _ (by omega) (by omega)]; exact e2) hn hm q) (fun K2 q => s_mbgT hm6 hM' hB hp h2' q) (fun K2 q => p_M hm6 hM' hB hp hs (fun _ _ => q) (fun z => absurd ⟨f, w⟩ z))
          by_cases h6 : s = 6
          · refine zip (by rw [h6]; rfl) ?_
            by_cases c1 : a 4 < 1
            · exact zip c1 (bad (fun z => absurd c1 (Int32.not_lt.mpr (z.2 h6).1.1)))
            by_cases c2 : 1000 < a 4
            · exact zin c1 (zip c2 (bad (fun z => absurd c2 (Int32.not_lt.mpr (z.2 h6).1.2))))
            by_cases c3 : a 5 < 1
            · exact zin c1 (zin c2 (zip c3 (bad (fun z => absurd c3 (Int32.not_lt.mpr (z.2 h6).2.1)))))
            by_cases c4 : a 5 ≤ 100
            · exact zin c1 (zin c2 (zin c3 (zip c4 (good (fun _ => ⟨⟨Int32.not_lt.mp c1, Int32.not_lt.mp c2⟩, Int32.not_lt.mp c3, c4⟩)))))
            · exact zin c1 (zin c2 (zin c3 (zin c4 (bad (fun z => c4 (z.2 h6).2.2)))))
          · exact zin (by first | omega | decide | (simp (maxSteps := 400000) (disch := omega) only [q_lit, q_neg, nI_ltI, nI_leI, nI_eq, nI_add, pk_mul, pk_sub, nI_clamp, vp_q, zu_same, zu_nc, zu_nj, ng_lt, ng_le, ng_gt, ng_ge, ng_eq, ng_qe, ng_ee, ng_add, not_false_eq_true, not_true_eq_false, ne_eq]; done) | (simp (maxSteps := 400000) (disch := omega) only [q_lit, q_neg, nI_ltI, nI_leI, nI_eq, nI_add, pk_mul, pk_sub, nI_clamp, vp_q, zu_same, zu_nc, zu_nj, ng_lt, ng_le, ng_gt, ng_ge, ng_eq, ng_qe, ng_ee, ng_add, not_false_eq_true, not_true_eq_false, ne_eq]; omega)) (good (fun q => absurd q h6))
        · unfold w_X3_takesProbe
          have ne : ∀ j, j < 8 → a 1 ≠ nI j := fun j hj z => by
            rw [z] at hno
            rcases hno with q | q
            · exact nI_pos (by omega) q
            · rw [nI_leI (by omega) (by omega)] at q; omega
          refine ⟨shM hm6, s_bgT hP hm6 hL hB hp h2' (zin (by decide) ⟨_, pM1 hP hm6, shM1 hm6, by rw [zzM1 hm6]; exact vp_in_nI (by omega) (by decide), zin (ne 0 (by decide)) (zin (ne 1 (by decide)) (zin (ne 2 (by decide)) (zin (ne 3 (by decide)) (zin (ne 4 (by decide)) (zin (ne 5 (by decide)) (zin (ne 6 (by decide)) (zin (ne 7 (by decide)) (zip rfl ?_))))))))⟩)⟩
          unfold w_X10_probe
          exact s_inFx (b := 7) (by decide) hno (zip rfl ⟨rfl, same⟩)
    · exact nbg (fun K q => s_bgO hP hm6 hL hno q) (fun K q => s_mbgO hm6 hM hB hno q)
  · unfold w_X9_probe w_X10_probe
    exact s_isMF e1 hno (zip rfl (in7 (zip rfl ⟨rfl, same⟩) (zin (by decide) (s_misMF e2 hn hno (zip rfl ⟨rfl, same⟩)))))
