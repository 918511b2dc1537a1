/-! PURE 70: RUN: a new FRAME, a CALL, on both sides -/
def mxN (n : nuN) (d : Nat) : nuN := up1 n 1 (if n 1 < d then d else n 1)
theorem L_open {I0 I : zI} {k lim m : Nat} {wv n : nuN} {z : nuZ} {fs : List Frm} {P : zP} {K : Nat → zI → zP → Prop} (hm : m < 6) (h : SL I0 k lim wv fs n z I P) (hd : fs.length < 12) (hw : wv m = if k = 1 ∧ ¬ I0 (26 + 12 * m) 5 = 0 then 1 else 0) (kk : ∀ J Q, SL I0 k lim wv ((m, 0, [], fun _ => Sum.inl 0) :: fs) (mxN n (fs.length + 1)) z J Q → sL k I J → K (119 + 3 * fs.length) J Q) : w_X2_openFrame (20 + 12 * m) I P K := by
  obtain ⟨h1, h2, h3, h4, h5, h6⟩ := h
  have hk := h1.1
  have hP := h1.2.2.1
  obtain ⟨t1, t2, t3, t4, t5, t6, t7, t8, t9, t10, t11⟩ := h6
  have ed : (if 11 < (if (I 114 9) < 0 then 0 else (I 114 9)) then 11 else (if (I 114 9) < 0 then 0 else (I 114 9))) = nI fs.length := by
    rw [h3, if_neg (show ¬ nI fs.length < 0 by first | omega | decide | (simp (maxSteps := 400000) (disch := omega) only [q_lit, q_neg, nI_ltI, nI_leI, nI_eq, nI_add, pk_mul, pk_sub, nI_clamp, vp_q, zu_same, zu_nc, zu_nj, ng_lt, ng_le, ng_gt, ng_ge, ng_eq, ng_qe, ng_ee, ng_add, not_false_eq_true, not_true_eq_false, ne_eq]; done) | (simp (maxSteps := 400000) (disch := omega) only [q_lit, q_neg, nI_ltI, nI_leI, nI_eq, nI_add, pk_mul, pk_sub, nI_clamp, vp_q, zu_same, zu_nc, zu_nj, ng_lt, ng_le, ng_gt, ng_ge, ng_eq, ng_qe, ng_ee, ng_add, not_false_eq_true, not_true_eq_false, ne_eq]; omega)), if_neg (show ¬ (11 : Int32) < nI fs.length by first | omega | decide | (simp (maxSteps := 400000) (disch := omega) only [q_lit, q_neg, nI_ltI, nI_leI, nI_eq, nI_add, pk_mul, pk_sub, nI_clamp, vp_q, zu_same, zu_nc, zu_nj, ng_lt, ng_le, ng_gt, ng_ge, ng_eq, ng_qe, ng_ee, ng_add, not_false_eq_true, not_true_eq_false, ne_eq]; done) | (simp (maxSteps := 400000) (disch := omega) only [q_lit, q_neg, nI_ltI, nI_leI, nI_eq, nI_add, pk_mul, pk_sub, nI_clamp, vp_q, zu_same, zu_nc, zu_nj, ng_lt, ng_le, ng_gt, ng_ge, ng_eq, ng_qe, ng_ee, ng_add, not_false_eq_true, not_true_eq_false, ne_eq]; omega))]
  have go : ∀ x : Int32, x = nI (wv m) → j_X2_openFrame_46 K (nI fs.length) (119 + 3 * fs.length) x (20 + 12 * m) (119 + 3 * fs.length) I P := fun x hx => by
    unfold j_X2_openFrame_46 w_X0_begin
    have w01 : wv m = 0 ∨ wv m = 1 := by rw [hw]; split <;> omega
    have hP' : PSt (zu P (119 + 3 * fs.length) 3 (some (20 + 12 * m))) := pst_put hP (shF hd) (by decide +kernel)
    have y6 : zu P (119 + 3 * fs.length) 3 (some (20 + 12 * m)) 114 6 = some (93 + 5 * k) := by rw [zu_nc (by omega)]; exact h1.2.2.2.1
    refine ⟨shF hd, shF hd, ?_, _, pF0 hP' hd, s_fill (shF0 hd) (zzF0 hd) (by decide) ⟨_, y6, _, y6, shT hk, shT hk, ?_⟩⟩
    · rw [hx]; rcases w01 with q | q
      · rw [q]; exact zbo0
      · rw [q]; exact zbo1
    · have r8 : ∀ (X : zI), (∀ c j, ¬ (119 + 3 * fs.length ≤ c ∧ c ≤ 121 + 3 * fs.length) → X c j = I c j) → zu X 114 9 (nI (fs.length + 1)) (93 + 5 * k) 8 = nI (n 1) := fun X hX => by rw [zu_nc (by omega), hX _ _ (by omega)]; exact t7
      have fX : ∀ c j, ¬ (119 + 3 * fs.length ≤ c ∧ c ≤ 121 + 3 * fs.length) → flI (zu (zu (zu I (119 + 3 * fs.length) 4 x) (119 + 3 * fs.length) 5 0) (119 + 3 * fs.length) 2 0) (120 + 3 * fs.length) 12 0 c j = I c j := fun c j a => by rw [flI_out (by omega), zu_nc (by omega), zu_nc (by omega), zu_nc (by omega)]
      have gX : ∀ j, flI (zu (zu (zu I (119 + 3 * fs.length) 4 x) (119 + 3 * fs.length) 5 0) (119 + 3 * fs.length) 2 0) (120 + 3 * fs.length) 12 0 (119 + 3 * fs.length) j = zu (zu (zu I (119 + 3 * fs.length) 4 x) (119 + 3 * fs.length) 5 0) (119 + 3 * fs.length) 2 0 (119 + 3 * fs.length) j := fun j => flI_out (by omega)
      have lX : ∀ j, j < 12 → flI (zu (zu (zu I (119 + 3 * fs.length) 4 x) (119 + 3 * fs.length) 5 0) (119 + 3 * fs.length) 2 0) (120 + 3 * fs.length) 12 0 (120 + 3 * fs.length) j = 0 := fun j hj => flI_in hj
      generalize flI (zu (zu (zu I (119 + 3 * fs.length) 4 x) (119 + 3 * fs.length) 5 0) (119 + 3 * fs.length) 2 0) (120 + 3 * fs.length) 12 0 = X at fX gX lX ⊢
      rw [nI_1, r8 X fX]
      have em : (if nI (n 1) < nI (fs.length + 1) then nI (fs.length + 1) else nI (n 1)) = nI (if n 1 < fs.length + 1 then fs.length + 1 else n 1) := by
        by_cases q : n 1 < fs.length + 1
        · rw [if_pos q, if_pos (show nI (n 1) < nI (fs.length + 1) by first | omega | decide | (simp (maxSteps := 400000) (disch := omega) only [q_lit, q_neg, nI_ltI, nI_leI, nI_eq, nI_add, pk_mul, pk_sub, nI_clamp, vp_q, zu_same, zu_nc, zu_nj, ng_lt, ng_le, ng_gt, ng_ge, ng_eq, ng_qe, ng_ee, ng_add, not_false_eq_true, not_true_eq_false, ne_eq]; done) | (simp (maxSteps := 400000) (disch := omega) only [q_lit, q_neg, nI_ltI, nI_leI, nI_eq, nI_add, pk_mul, pk_sub, nI_clamp, vp_q, zu_same, zu_nc, zu_nj, ng_lt, ng_le, ng_gt, ng_ge, ng_eq, ng_qe, ng_ee, ng_add, not_false_eq_true, not_true_eq_false, ne_eq]; omega))]
        · rw [if_neg q, if_neg (show ¬ nI (n 1) < nI (fs.length + 1) by first | omega | decide | (simp (maxSteps := 400000) (disch := omega) only [q_lit, q_neg, nI_ltI, nI_leI, nI_eq, nI_add, pk_mul, pk_sub, nI_clamp, vp_q, zu_same, zu_nc, zu_nj, ng_lt, ng_le, ng_gt, ng_ge, ng_eq, ng_qe, ng_ee, ng_add, not_false_eq_true, not_true_eq_false, ne_eq]; done) | (simp (maxSteps := 400000) (disch := omega) only [q_lit, q_neg, nI_ltI, nI_leI, nI_eq, nI_add, pk_mul, pk_sub, nI_clamp, vp_q, zu_same, zu_nc, zu_nj, ng_lt, ng_le, ng_gt, ng_ge, ng_eq, ng_qe, ng_ee, ng_add, not_false_eq_true, not_true_eq_false, ne_eq]; omega))]
      rw [em]
      have G : ∀ c j, ¬ (119 + 3 * fs.length ≤ c ∧ c ≤ 121 + 3 * fs.length) → ¬ (c = 114 ∧ j = 9) → ¬ (c = 93 + 5 * k ∧ j = 8) → zu (zu X 114 9 (nI (fs.length + 1))) (93 + 5 * k) 8 (nI (if n 1 < fs.length + 1 then fs.length + 1 else n 1)) c j = I c j := fun c j a b d => by rw [zu_ne d, zu_ne b]; exact fX c j a
      have GX : ∀ c j, (119 + 3 * fs.length ≤ c ∧ c ≤ 121 + 3 * fs.length) → zu (zu X 114 9 (nI (fs.length + 1))) (93 + 5 * k) 8 (nI (if n 1 < fs.length + 1 then fs.length + 1 else n 1)) c j = X c j := fun c j a => by rw [zu_nc (by omega), zu_nc (by omega)]
      refine kk _ _ ⟨⟨hk, h1.2.1, hP', y6, fun c j a => by unfold rcL at a; rw [G c j (by omega) (by omega) (by omega)]; exact h1.2.2.2.2.1 c j (by unfold rcL; exact a), by rw [G _ _ (by omega) (by omega) (by omega)]; exact h1.2.2.2.2.2.1, by rw [G _ _ (by omega) (by omega) (by omega)]; exact h1.2.2.2.2.2.2⟩, by rw [List.length_cons]; omega, by rw [zu_nc (by omega), zu_same]; rfl, ⟨⟨hm, zu_same, ?_, ?_, (by show 0 < 1000; decide), ?_, Nat.zero_le _, trivial, fun q hq => ?_⟩, FsL_c h4 (fun c j a => G c j (by omega) (by omega) (by omega)) (fun f hf => zu_nc (by omega))⟩, ?_, ?_⟩ ⟨fun j q => G _ _ (by omega) (by omega) (by omega), fun j q => G _ _ (by omega) (by omega) (by omega)⟩
      · rw [GX _ _ (by omega), gX, zu_nj (by omega), zu_nj (by omega), zu_same]; exact hx
      · rw [GX _ _ (by omega), gX, zu_nj (by omega), zu_same]; rfl
      · rw [GX _ _ (by omega), gX, zu_same]; rfl
      · rw [GX _ _ (by omega), lX q hq]; rfl
      · obtain ⟨m0, m1, m2, m3⟩ := h5
        unfold mxN
        refine ⟨by rw [up1_n (by omega)]; exact m0, fun f hf => by rw [G _ _ (by omega) (by omega) (by omega)]; exact m1 f hf, fun r hr => ?_, fun q hq => by rw [G _ _ (by omega) (by omega) (by omega), up1_n (by omega)]; exact m3 q hq⟩
        rw [up1_n (by omega)] at hr
        rw [up1_n (by omega), G _ _ (by omega) (by omega) (by omega)]
        exact ⟨(m2 r hr).1, (m2 r hr).2.1, fun i hi => by rw [G _ _ (by omega) (by omega) (by omega)]; exact (m2 r hr).2.2 i hi⟩
      · unfold mxN
        refine ⟨by rw [up1_n (by omega)]; exact t1, by rw [up1_n (by omega)]; exact t2, by rw [up1_n (by omega)]; exact t3, by rw [up1_s]; split <;> omega, by rw [up1_n (by omega), G _ _ (by omega) (by omega) (by omega)]; exact t5, by rw [up1_n (by omega), G _ _ (by omega) (by omega) (by omega)]; exact t6, by rw [up1_s, zu_same], by rw [up1_n (by omega), G _ _ (by omega) (by omega) (by omega)]; exact t8, by rw [up1_n (by omega), G _ _ (by omega) (by omega) (by omega)]; exact t9, fun i hi => ?_, fun i hi hi2 => ?_⟩
        · rw [up1_n (by omega)] at hi
          rw [G _ _ (by omega) (by omega) (by omega)]; exact t10 i hi
        · rw [up1_n (by omega)] at hi
          rw [G _ _ (by omega) (by omega) (by omega), G _ _ (by omega) (by omega) (by omega)]; exact t11 i hi hi2
  unfold w_X2_openFrame
  rw [ed, nI_clamp (by omega), h1.2.2.2.2.2.1]
  refine ⟨vp_in_nI hd (by decide), _, pF hP hd, ?_⟩
  by_cases e1 : k = 1
  · refine zip (by rw [e1]; rfl) ⟨shM hm, _, pM6 hP hm, shW hm, ?_⟩
    rw [h1.2.2.2.2.1 (26 + 12 * m) 5 (by unfold rcL; omega)]
    by_cases e5 : I0 (26 + 12 * m) 5 = 0
    · refine zip e5 ?_
      unfold j_X2_openFrame_45
      exact go 0 (by rw [hw, if_neg (fun q => q.2 e5)]; rfl)
    · exact zin e5 (go 1 (by rw [hw, if_pos ⟨e1, e5⟩]; rfl))
  · refine zin (by first | omega | decide | (simp (maxSteps := 400000) (disch := omega) only [q_lit, q_neg, nI_ltI, nI_leI, nI_eq, nI_add, pk_mul, pk_sub, nI_clamp, vp_q, zu_same, zu_nc, zu_nj, ng_lt, ng_le, ng_gt, ng_ge, ng_eq, ng_qe, ng_ee, ng_add, not_false_eq_true, not_true_eq_false, ne_eq]; done) | (simp (maxSteps := 400000) (disch := omega) only [q_lit, q_neg, nI_ltI, nI_leI, nI_eq, nI_add, pk_mul, pk_sub, nI_clamp, vp_q, zu_same, zu_nc, zu_nj, ng_lt, ng_le, ng_gt, ng_ge, ng_eq, ng_qe, ng_ee, ng_add, not_false_eq_true, not_true_eq_false, ne_eq]; omega)) ?_
    unfold j_X2_openFrame_45
    exact go 0 (by rw [hw, if_neg (fun q => e1 q.1)]; rfl)
theorem M_open {I0 I : zI} {k lim m : Nat} {n : nuN} {z : nuZ} {fs : List Frm} {P : zP} {K : zI → zP → Prop} (hm : m < 6) (h : SM I0 k lim fs n z I) (hd : fs.length < 12) (kk : ∀ J, SM I0 k lim ((m, 0, [], fun _ => Sum.inl 0) :: fs) (mxN n (fs.length + 1)) z J → sM I J → (∀ j, J 200 j = I 200 j) → K J P) : w_X10_frame (nI m) I P K := by
  obtain ⟨h1, h2, h3, h4, h5, h6⟩ := h
  obtain ⟨t1, t2, t3, t4, t5, t6, t7, t8, t9, t10, t11⟩ := h6
  unfold w_X10_frame
  simp (disch := omega) only [h3, nI_clamp, zu_nc]
  have v : vp_in (nI fs.length) 12 := vp_in_nI hd (by decide)
  refine ⟨v, v, v, ?_⟩
  have lp : ∀ d i J, i + d = 12 → (∀ c j, ¬ (c = 199 ∧ 12 * fs.length ≤ j ∧ j < 12 * fs.length + i) → J c j = zu (zu (zu I 196 fs.length (nI m)) 197 fs.length 0) 198 fs.length 0 c j) → (∀ j, j < i → J 199 (12 * fs.length + j) = 0) → l_X10_frame_32 K (d + 1) (nI i) J P := by
    intro d
    induction d with
    | zero =>
      intro i J hi f g
      obtain rfl : i = 12 := by omega
      have y54 : J 155 54 = nI fs.length := by rw [f _ _ (by omega), zu_nc (by omega), zu_nc (by omega), zu_nc (by omega)]; exact h3
      have y55 : J 155 55 = nI (n 1) := by rw [f _ _ (by omega), zu_nc (by omega), zu_nc (by omega), zu_nc (by omega)]; exact t6
      rw [l_X10_frame_32, y54, y55, nI_1]
      refine zip (by decide) ?_
      have fin : ∀ x : Int32, x = nI (if n 1 < fs.length + 1 then fs.length + 1 else n 1) → K (zu (zu J 155 54 (nI (fs.length + 1))) 155 55 x) P := fun x hx => by
        have fr : ∀ c j, ¬ (c = 155 ∧ (j = 54 ∨ j = 55)) → ¬ blkF fs.length c j → zu (zu J 155 54 (nI (fs.length + 1))) 155 55 x c j = I c j := fun c j a b => by
          unfold blkF at b
          rw [zu_ne (by omega), zu_ne (by omega), f c j (by omega), zu_ne (by omega), zu_ne (by omega), zu_ne (by omega)]
        refine kk _ ⟨ScM_c h1 (fun c j a => fr c j (by unfold rcM at a; omega) (by unfold rcM at a; unfold blkF; omega)), by rw [List.length_cons]; omega, by rw [zu_nj (by omega), zu_same]; rfl, ⟨⟨hm, ?_, ?_, (by show 0 < 1000; decide), ?_, Nat.zero_le _, trivial, fun q hq => ?_⟩, FsM_c h4 (fun f' c j hf a => fr c j (by unfold blkF at a; omega) (by unfold blkF at a ⊢; omega))⟩, ?_, ?_⟩ ⟨fun j q => fr _ _ (by omega) (by unfold blkF; omega), fun c j q => fr _ _ (by omega) (by unfold blkF; omega)⟩ (fun j => ?_)
        · rw [zu_nc (by omega), zu_nc (by omega), f _ _ (by omega), zu_nc (by omega), zu_nc (by omega), zu_same]
        · rw [zu_nc (by omega), zu_nc (by omega), f _ _ (by omega), zu_nc (by omega), zu_same]; rfl
        · rw [zu_nc (by omega), zu_nc (by omega), f _ _ (by omega), zu_same]; rfl
        · rw [zu_nc (by omega), zu_nc (by omega), g q hq]; rfl
        · obtain ⟨m0, m0', m1, m2, m3⟩ := h5
          unfold mxN
          refine ⟨by rw [up1_n (by omega)]; exact m0, by rw [up1_n (by omega), fr _ _ (by omega) (by unfold blkF; omega)]; exact m0', fun f' hf => by rw [fr _ _ (by omega) (by unfold blkF; omega)]; exact m1 f' hf, fun r hr => ?_, fun q hq => by rw [fr _ _ (by omega) (by unfold blkF; omega), up1_n (by omega)]; exact m3 q hq⟩
          rw [up1_n (by omega)] at hr
          rw [up1_n (by omega), fr _ _ (by omega) (by unfold blkF; omega)]
          exact ⟨(m2 r hr).1, (m2 r hr).2.1, fun i hi => by rw [fr _ _ (by omega) (by unfold blkF; omega)]; exact (m2 r hr).2.2 i hi⟩
        · unfold mxN
          refine ⟨by rw [up1_n (by omega)]; exact t1, by rw [up1_n (by omega)]; exact t2, by rw [up1_n (by omega)]; exact t3, by rw [up1_s]; split <;> omega, by rw [up1_n (by omega), fr _ _ (by omega) (by unfold blkF; omega)]; exact t5, by rw [up1_s, zu_same]; exact hx, by rw [up1_n (by omega), fr _ _ (by omega) (by unfold blkF; omega)]; exact t7, by rw [up1_n (by omega), fr _ _ (by omega) (by unfold blkF; omega)]; exact t8, fun i hi => ?_, fun i hi hi2 => ?_, fun c j q1 q2 q3 q4 q5 => by rw [fr _ _ (by omega) (by unfold blkF; omega)]; exact t11 c j q1 q2 q3 q4 q5⟩
          · rw [up1_n (by omega)] at hi
            rw [fr _ _ (by omega) (by unfold blkF; omega)]; exact t9 i hi
          · rw [up1_n (by omega)] at hi
            rw [fr _ _ (by omega) (by unfold blkF; omega), fr _ _ (by omega) (by unfold blkF; omega)]; exact t10 i hi hi2
        · rw [zu_nc (by omega), zu_nc (by omega), f _ _ (by omega), zu_nc (by omega), zu_nc (by omega), zu_nc (by omega)]
      by_cases q : fs.length + 1 ≤ n 1
      · exact zip (by first | omega | decide | (simp (maxSteps := 400000) (disch := omega) only [q_lit, q_neg, nI_ltI, nI_leI, nI_eq, nI_add, pk_mul, pk_sub, nI_clamp, vp_q, zu_same, zu_nc, zu_nj, ng_lt, ng_le, ng_gt, ng_ge, ng_eq, ng_qe, ng_ee, ng_add, not_false_eq_true, not_true_eq_false, ne_eq]; done) | (simp (maxSteps := 400000) (disch := omega) only [q_lit, q_neg, nI_ltI, nI_leI, nI_eq, nI_add, pk_mul, pk_sub, nI_clamp, vp_q, zu_same, zu_nc, zu_nj, ng_lt, ng_le, ng_gt, ng_ge, ng_eq, ng_qe, ng_ee, ng_add, not_false_eq_true, not_true_eq_false, ne_eq]; omega)) (fin _ (by rw [if_neg (by omega)]))
      · exact zin (by first | omega | decide | (simp (maxSteps := 400000) (disch := omega) only [q_lit, q_neg, nI_ltI, nI_leI, nI_eq, nI_add, pk_mul, pk_sub, nI_clamp, vp_q, zu_same, zu_nc, zu_nj, ng_lt, ng_le, ng_gt, ng_ge, ng_eq, ng_qe, ng_ee, ng_add, not_false_eq_true, not_true_eq_false, ne_eq]; done) | (simp (maxSteps := 400000) (disch := omega) only [q_lit, q_neg, nI_ltI, nI_leI, nI_eq, nI_add, pk_mul, pk_sub, nI_clamp, vp_q, zu_same, zu_nc, zu_nj, ng_lt, ng_le, ng_gt, ng_ge, ng_eq, ng_qe, ng_ee, ng_add, not_false_eq_true, not_true_eq_false, ne_eq]; omega)) (fin _ (by rw [if_pos (by omega)]))
    | succ d ih =>
      intro i J hi f g
      have y54 : J 155 54 = nI fs.length := by rw [f _ _ (by omega), zu_nc (by omega), zu_nc (by omega), zu_nc (by omega)]; exact h3
      rw [l_X10_frame_32, y54, e12, nI_clamp (by omega)]
      refine zin (by first | omega | decide | (simp (maxSteps := 400000) (disch := omega) only [q_lit, q_neg, nI_ltI, nI_leI, nI_eq, nI_add, pk_mul, pk_sub, nI_clamp, vp_q, zu_same, zu_nc, zu_nj, ng_lt, ng_le, ng_gt, ng_ge, ng_eq, ng_qe, ng_ee, ng_add, not_false_eq_true, not_true_eq_false, ne_eq]; done) | (simp (maxSteps := 400000) (disch := omega) only [q_lit, q_neg, nI_ltI, nI_leI, nI_eq, nI_add, pk_mul, pk_sub, nI_clamp, vp_q, zu_same, zu_nc, zu_nj, ng_lt, ng_le, ng_gt, ng_ge, ng_eq, ng_qe, ng_ee, ng_add, not_false_eq_true, not_true_eq_false, ne_eq]; omega)) ⟨vp_in_nI (by omega) (by decide), ?_⟩
      rw [nI_1]
      refine ih (i + 1) _ (by omega) (fun c j a => ?_) (fun j hj => ?_)
      · rw [zu_ne (by omega)]; exact f c j (by omega)
      · by_cases e : j = i
        · rw [e, zu_same]
        · rw [zu_nj (by omega)]; exact g j (by omega)
  exact ⟨_, lp 12 0 _ (by omega) (fun c j _ => rfl) (fun j hj => absurd hj (by omega))⟩
