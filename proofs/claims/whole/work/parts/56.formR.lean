/-! PURE 17: the reference's FORM, whole -/
def tfR (m c j : Nat) : Prop := ((c = 157 ∨ c = 158 ∨ c = 159 ∨ c = 161) ∧ j = m) ∨ ((c = 160 ∨ c = 166) ∧ 400 * m ≤ j ∧ j < 400 * m + 400) ∨ ((162 ≤ c ∧ c ≤ 165) ∧ 8 * m ≤ j ∧ j < 8 * m + 8)
def FormM (b : Nat → Nat) (m : Nat) (I : zI) : Prop :=
  I 157 m = nI (b 0) ∧ I 158 m = nI (b 1) ∧ I 159 m = nI (256 * b 2 + b 3) ∧ I 161 m = nI (b (4 + (256 * b 2 + b 3))) ∧
  (∀ q, q < 256 * b 2 + b 3 → I 160 (400 * m + q) = nI (b (4 + q)) ∧ I 166 (400 * m + q) = if szo b q = 0 then 0 else 1) ∧
  (∀ k, k < b (4 + (256 * b 2 + b 3)) → I 162 (8 * m + k) = nI (hpt b (256 * b 2 + b 3) (4 * k)) ∧ I 163 (8 * m + k) = nI (hpt b (256 * b 2 + b 3) (4 * k + 1)) ∧ I 164 (8 * m + k) = nI (hpt b (256 * b 2 + b 3) (4 * k + 2)) ∧ I 165 (8 * m + k) = nI (hpt b (256 * b 2 + b 3) (4 * k + 3)))
def tk (c : Nat) : Prop := c = 162 ∨ c = 163 ∨ c = 164 ∨ c = 165
theorem l_rest {b : Nat → Nat} {len hc m t : Nat} {I0 : zI} {P : zP} {K : Int32 → zI → zP → Prop} (hm : m < 6) (hl : 4 + len + 1 + 7 * hc ≤ 600) (hh : hc ≤ 8) (h61 : I0 161 m = nI hc) (ht : 4 + len + 1 + 7 * hc ≤ t) (hb : ∀ j, j < t → b j < 256 ∧ I0 156 j = nI (b j))
    (k : ∀ I, (∀ c j, ¬ ((162 ≤ c ∧ c ≤ 165) ∧ 8 * m ≤ j ∧ j < 8 * m + 8) → I c j = I0 c j) → (∀ i, i < hc → I 162 (8 * m + i) = nI (hpt b len (4 * i)) ∧ I 163 (8 * m + i) = nI (hpt b len (4 * i + 1)) ∧ I 164 (8 * m + i) = nI (hpt b len (4 * i + 2)) ∧ I 165 (8 * m + i) = nI (hpt b len (4 * i + 3))) → K (-1) I P) :
    ∀ d h I, h + d = hc → (∀ c j, ¬ ((162 ≤ c ∧ c ≤ 165) ∧ 8 * m ≤ j ∧ j < 8 * m + 8) → I c j = I0 c j) → (∀ i, i < h → I 162 (8 * m + i) = nI (hpt b len (4 * i)) ∧ I 163 (8 * m + i) = nI (hpt b len (4 * i + 1)) ∧ I 164 (8 * m + i) = nI (hpt b len (4 * i + 2)) ∧ I 165 (8 * m + i) = nI (hpt b len (4 * i + 3))) → l_X10_rest_69 K (d + 1) (nI m) (nI (4 + len)) (nI h) I P := by
  intro d
  induction d with
  | zero =>
    intro h I hd h1 h2
    obtain rfl : h = hc := by omega
    rw [l_X10_rest_69]
    have e : I 161 m = nI h := by rw [h1 _ _ (by omega)]; exact h61
    have kk := k I h1 h2
    (repeat first | (with_reducible refine zip ?_ ?_; · first | omega | decide | (simp (maxSteps := 400000) (disch := omega) only [e, q_lit, q_neg, nI_ltI, nI_leI, nI_eq, nI_add, pk_mul, pk_sub, nI_clamp, vp_q, zu_same, zu_nc, zu_nj, ng_lt, ng_le, ng_gt, ng_ge, ng_eq, ng_qe, ng_ee, ng_add, not_false_eq_true, not_true_eq_false, ne_eq]; done) | (simp (maxSteps := 400000) (disch := omega) only [e, q_lit, q_neg, nI_ltI, nI_leI, nI_eq, nI_add, pk_mul, pk_sub, nI_clamp, vp_q, zu_same, zu_nc, zu_nj, ng_lt, ng_le, ng_gt, ng_ge, ng_eq, ng_qe, ng_ee, ng_add, not_false_eq_true, not_true_eq_false, ne_eq]; omega)) | (with_reducible refine zin ?_ ?_; · first | omega | decide | (simp (maxSteps := 400000) (disch := omega) only [e, q_lit, q_neg, nI_ltI, nI_leI, nI_eq, nI_add, pk_mul, pk_sub, nI_clamp, vp_q, zu_same, zu_nc, zu_nj, ng_lt, ng_le, ng_gt, ng_ge, ng_eq, ng_qe, ng_ee, ng_add, not_false_eq_true, not_true_eq_false, ne_eq]; done) | (simp (maxSteps := 400000) (disch := omega) only [e, q_lit, q_neg, nI_ltI, nI_leI, nI_eq, nI_add, pk_mul, pk_sub, nI_clamp, vp_q, zu_same, zu_nc, zu_nj, ng_lt, ng_le, ng_gt, ng_ge, ng_eq, ng_qe, ng_ee, ng_add, not_false_eq_true, not_true_eq_false, ne_eq]; omega)) | (with_reducible refine And.intro ?_ ?_; · first | (first | exact shM (by omega) | exact shW (by omega) | exact shT (by omega) | exact shF (by omega) | exact shM1 (by omega) | exact shM2 (by omega) | exact shM3 (by omega) | exact shM4 (by omega) | exact shM5 (by omega) | exact shW0 (by omega) | exact shW1 (by omega) | exact shW2 (by omega) | exact shW3 (by omega) | exact shW4 (by omega) | exact shT0 (by omega) | exact shT1 (by omega) | exact shT2 (by omega) | exact shT3 (by omega) | exact shF0 (by omega) | exact shF1 (by omega)) | (first | omega | decide | (simp (maxSteps := 400000) (disch := omega) only [e, q_lit, q_neg, nI_ltI, nI_leI, nI_eq, nI_add, pk_mul, pk_sub, nI_clamp, vp_q, zu_same, zu_nc, zu_nj, ng_lt, ng_le, ng_gt, ng_ge, ng_eq, ng_qe, ng_ee, ng_add, not_false_eq_true, not_true_eq_false, ne_eq]; done) | (simp (maxSteps := 400000) (disch := omega) only [e, q_lit, q_neg, nI_ltI, nI_leI, nI_eq, nI_add, pk_mul, pk_sub, nI_clamp, vp_q, zu_same, zu_nc, zu_nj, ng_lt, ng_le, ng_gt, ng_ge, ng_eq, ng_qe, ng_ee, ng_add, not_false_eq_true, not_true_eq_false, ne_eq]; omega))) | (with_reducible apply zex; · first | (first | exact pM hP (by omega) | exact pT hP (by omega) | exact pF hP (by omega) | exact pM1 hP (by omega) | exact pM2 hP (by omega) | exact pM3 hP (by omega) | exact pM4 hP (by omega) | exact pM5 hP (by omega) | exact pM6 hP (by omega) | exact pW0 hP (by omega) | exact pW1 hP (by omega) | exact pW2 hP (by omega) | exact pW3 hP (by omega) | exact pW4 hP (by omega) | exact pT0 hP (by omega) | exact pT1 hP (by omega) | exact pT2 hP (by omega) | exact pT3 hP (by omega) | exact pF0 hP (by omega) | exact pF1 hP (by omega)) | (simp (maxSteps := 400000) (disch := omega) only [e, q_lit, q_neg, nI_ltI, nI_leI, nI_eq, nI_add, pk_mul, pk_sub, nI_clamp, vp_q, zu_same, zu_nc, zu_nj, ng_lt, ng_le, ng_gt, ng_ge, ng_eq, ng_qe, ng_ee, ng_add, not_false_eq_true, not_true_eq_false, ne_eq]; first | exact pM hP (by omega) | exact pT hP (by omega) | exact pF hP (by omega) | exact pM1 hP (by omega) | exact pM2 hP (by omega) | exact pM3 hP (by omega) | exact pM4 hP (by omega) | exact pM5 hP (by omega) | exact pM6 hP (by omega) | exact pW0 hP (by omega) | exact pW1 hP (by omega) | exact pW2 hP (by omega) | exact pW3 hP (by omega) | exact pW4 hP (by omega) | exact pT0 hP (by omega) | exact pT1 hP (by omega) | exact pT2 hP (by omega) | exact pT3 hP (by omega) | exact pF0 hP (by omega) | exact pF1 hP (by omega))) | (with_reducible refine s_inT ?_ ?_; · first | omega | decide | (simp (maxSteps := 400000) (disch := omega) only [e, q_lit, q_neg, nI_ltI, nI_leI, nI_eq, nI_add, pk_mul, pk_sub, nI_clamp, vp_q, zu_same, zu_nc, zu_nj, ng_lt, ng_le, ng_gt, ng_ge, ng_eq, ng_qe, ng_ee, ng_add, not_false_eq_true, not_true_eq_false, ne_eq]; done) | (simp (maxSteps := 400000) (disch := omega) only [e, q_lit, q_neg, nI_ltI, nI_leI, nI_eq, nI_add, pk_mul, pk_sub, nI_clamp, vp_q, zu_same, zu_nc, zu_nj, ng_lt, ng_le, ng_gt, ng_ge, ng_eq, ng_qe, ng_ee, ng_add, not_false_eq_true, not_true_eq_false, ne_eq]; omega)) | (with_reducible refine s_inF ?_ ?_; · first | omega | decide | (simp (maxSteps := 400000) (disch := omega) only [e, q_lit, q_neg, nI_ltI, nI_leI, nI_eq, nI_add, pk_mul, pk_sub, nI_clamp, vp_q, zu_same, zu_nc, zu_nj, ng_lt, ng_le, ng_gt, ng_ge, ng_eq, ng_qe, ng_ee, ng_add, not_false_eq_true, not_true_eq_false, ne_eq]; done) | (simp (maxSteps := 400000) (disch := omega) only [e, q_lit, q_neg, nI_ltI, nI_leI, nI_eq, nI_add, pk_mul, pk_sub, nI_clamp, vp_q, zu_same, zu_nc, zu_nj, ng_lt, ng_le, ng_gt, ng_ge, ng_eq, ng_qe, ng_ee, ng_add, not_false_eq_true, not_true_eq_false, ne_eq]; omega)) | (simp (maxSteps := 400000) (disch := omega) only [e, q_lit, q_neg, nI_ltI, nI_leI, nI_eq, nI_add, pk_mul, pk_sub, nI_clamp, vp_q, zu_same, zu_nc, zu_nj, ng_lt, ng_le, ng_gt, ng_ge, ng_eq, ng_qe, ng_ee, ng_add, not_false_eq_true, not_true_eq_false, ne_eq]))
    exact kk
  | succ d ih =>
    intro h I hd h1 h2
    rw [l_X10_rest_69]
    have e : I 161 m = nI hc := by rw [h1 _ _ (by omega)]; exact h61
    have hx : ∀ j, j < t → I 156 j = nI (b j) := fun j hj => by rw [h1 _ _ (by omega)]; exact (hb j hj).2
    have e7 : nI (4 + len) + 1 + 7 * nI h = nI (4 + len + 1 + 7 * h) := by rw [show (7 : Int32) = nI 7 from rfl, pk_mul, nI_1, nI_add]
    have e8 : 8 * nI m + nI h = nI (8 * m + h) := by rw [show (8 : Int32) = nI 8 from rfl, pk_mul, nI_add]
    have ea : ∀ d, nI (4 + len + 1 + 7 * h) + nI d = nI (4 + len + 1 + 7 * h + d) := fun d => nI_add _ d
    rw [e7, e8, show nI (4 + len + 1 + 7 * h) + 1 = nI (4 + len + 1 + 7 * h + 1) from ea 1, show nI (4 + len + 1 + 7 * h) + 2 = nI (4 + len + 1 + 7 * h + 2) from ea 2, show nI (4 + len + 1 + 7 * h) + 3 = nI (4 + len + 1 + 7 * h + 3) from ea 3, show nI (4 + len + 1 + 7 * h) + 4 = nI (4 + len + 1 + 7 * h + 4) from ea 4, show nI (4 + len + 1 + 7 * h) + 5 = nI (4 + len + 1 + 7 * h + 5) from ea 5, show nI (4 + len + 1 + 7 * h) + 6 = nI (4 + len + 1 + 7 * h + 6) from ea 6]
    rw [nI_clamp (by omega), nI_clamp (by omega), nI_clamp (by omega), nI_clamp (by omega), nI_clamp (by omega), nI_clamp (by omega), nI_clamp (by omega), nI_clamp (by omega), nI_clamp (by omega)]
    refine ⟨vp_in_nI hm (by decide), zin (by rw [e]; exact nI_ge (by omega) (by omega)) ⟨vp_in_nI (by omega) (by decide), vp_in_nI (by omega) (by decide), vp_in_nI (by omega) (by decide), vp_in_nI (by omega) (by decide), vp_in_nI (by omega) (by decide), vp_in_nI (by omega) (by decide), vp_in_nI (by omega) (by decide), vp_in_nI (by omega) (by decide), vp_in_nI (by omega) (by decide), vp_in_nI (by omega) (by decide), vp_in_nI (by omega) (by decide), ?_⟩⟩
    simp only [zu_nc (show (156 : Nat) ≠ 162 by decide), zu_nc (show (156 : Nat) ≠ 163 by decide), zu_nc (show (156 : Nat) ≠ 164 by decide)]
    rw [hx (4 + len + 1 + 7 * h) (by omega), hx (4 + len + 1 + 7 * h + 1) (by omega), hx (4 + len + 1 + 7 * h + 2) (by omega), hx (4 + len + 1 + 7 * h + 3) (by omega), hx (4 + len + 1 + 7 * h + 4) (by omega), hx (4 + len + 1 + 7 * h + 5) (by omega), hx (4 + len + 1 + 7 * h + 6) (by omega), nI_1]
    have ew : ∀ x y, 256 * nI x + nI y = nI (256 * x + y) := fun x y => by rw [show (256 : Int32) = nI 256 from rfl, pk_mul, nI_add]
    rw [ew, ew, ew]
    refine ih (h + 1) _ (by omega) ?_ ?_
    · intro c j hc
      rw [zu_ne (by omega), zu_ne (by omega), zu_ne (by omega), zu_ne (by omega)]; exact h1 c j hc
    · intro i hi
      by_cases ei : i = h
      · subst ei
        refine ⟨?_, ?_, ?_, ?_⟩
        · rw [zu_nc (by decide), zu_nc (by decide), zu_nc (by decide), zu_same]
          unfold hpt
          rw [if_neg (by omega), show (4 * i) / 4 = i by omega, show (4 * i) % 4 = 0 by omega]; rfl
        · rw [zu_nc (by decide), zu_nc (by decide), zu_same]
          unfold hpt
          rw [if_neg (by omega), show (4 * i + 1) / 4 = i by omega, show (4 * i + 1) % 4 = 1 by omega]
        · rw [zu_nc (by decide), zu_same]
          unfold hpt
          rw [if_neg (by omega), show (4 * i + 2) / 4 = i by omega, show (4 * i + 2) % 4 = 2 by omega]
        · rw [zu_same]
          unfold hpt
          rw [if_pos (by omega), show (4 * i + 3) / 4 = i by omega]
      · obtain ⟨g1, g2, g3, g4⟩ := h2 i (by omega)
        refine ⟨?_, ?_, ?_, ?_⟩
        · rw [zu_ne (by omega), zu_ne (by omega), zu_ne (by omega), zu_ne (by omega)]; exact g1
        · rw [zu_ne (by omega), zu_ne (by omega), zu_ne (by omega), zu_ne (by omega)]; exact g2
        · rw [zu_ne (by omega), zu_ne (by omega), zu_ne (by omega), zu_ne (by omega)]; exact g3
        · rw [zu_ne (by omega), zu_ne (by omega), zu_ne (by omega), zu_ne (by omega)]; exact g4
theorem s_rest {b : Nat → Nat} {t len m : Nat} {I : zI} {P : zP} {K : Int32 → zI → zP → Prop} (hm : m < 6) (ht6 : t ≤ 600) (hl : len ≤ 400) (hb : ∀ j, j < t → b j < 256 ∧ I 156 j = nI (b j))
    (k : ∀ I', (∀ c j, ¬ (c = 161 ∧ j = m) → ¬ ((162 ≤ c ∧ c ≤ 165) ∧ 8 * m ≤ j ∧ j < 8 * m + 8) → I' c j = I c j) → (tailF b t len = none → I' 161 m = nI (b (4 + len)) ∧ ∀ i, i < b (4 + len) → I' 162 (8 * m + i) = nI (hpt b len (4 * i)) ∧ I' 163 (8 * m + i) = nI (hpt b len (4 * i + 1)) ∧ I' 164 (8 * m + i) = nI (hpt b len (4 * i + 2)) ∧ I' 165 (8 * m + i) = nI (hpt b len (4 * i + 3))) → K (oI (tailF b t len)) I' P) : w_X10_rest (nI m) (nI (4 + len)) (nI t) I P K := by
  unfold w_X10_rest
  have k' := k
  unfold tailF at k
  by_cases h1 : t ≤ 4 + len
  · have kk := k I (fun _ _ _ _ => rfl) (fun e => by rw [if_pos h1] at e; cases e)
    rw [if_pos h1] at kk
    exact zin (nI_nlt (by omega) (by omega)) kk
  obtain ⟨b1, b2⟩ := hb (4 + len) (by omega)
  refine zip (nI_lt (by omega) (by omega)) ⟨vp_in_nI (by omega) (by decide), vp_in_nI hm (by decide), vp_in_nI hm (by decide), ?_⟩
  rw [nI_clamp (by omega), nI_clamp (by omega), b2, zu_same]
  have frz : ∀ c j, ¬ (c = 161 ∧ j = m) → zu I 161 m (nI (b (4 + len))) c j = I c j := fun c j h => zu_ne h
  by_cases h2 : 8 < b (4 + len)
  · have kk := k (zu I 161 m (nI (b (4 + len)))) (fun c j q _ => frz c j q) (fun e => by rw [if_neg h1, if_pos h2] at e; cases e)
    rw [if_neg h1, if_pos h2] at kk
    exact zin (nI_ge (a := 8) (by omega) (by omega)) kk
  have e2 : nI (4 + len) + 1 + 7 * nI (b (4 + len)) = nI (4 + len + 1 + 7 * b (4 + len)) := by rw [show (7 : Int32) = nI 7 from rfl, pk_mul, nI_1, nI_add]
  rw [e2]
  refine zip (nI_le (b := 8) (by omega) (by decide)) ⟨vp_in_nI hm (by decide), ?_⟩
  by_cases h3 : t = 4 + len + 1 + 7 * b (4 + len)
  · refine zip (by rw [← h3]) ⟨b (4 + len) + 1, ?_⟩
    refine l_rest hm (by omega) (by omega) (I0 := zu I 161 m (nI (b (4 + len)))) (t := t) zu_same (by omega) (fun j hj => ⟨(hb j hj).1, by rw [zu_nc (by decide)]; exact (hb j hj).2⟩) ?_ (b (4 + len)) 0 _ (by omega) (fun _ _ _ => rfl) (fun i hi => absurd hi (by omega))
    intro I' g1 g2
    have e3 : tailF b t len = none := by unfold tailF; rw [if_neg h1, if_neg h2, if_pos h3]
    have kk := k' I' (fun c j q1 q2 => by rw [g1 c j q2]; exact zu_ne q1) (fun _ => ⟨by rw [g1 _ _ (by omega)]; exact zu_same, g2⟩)
    rw [e3] at kk
    exact kk
  · refine zin (fun e => h3 ((nI_eq (by omega) (by omega)).mp e)) ?_
    have kk := k (zu I 161 m (nI (b (4 + len)))) (fun c j q _ => frz c j q) (fun e => by
      rw [if_neg h1, if_neg h2, if_neg h3] at e
      revert e; split <;> (intro e; cases e))
    rw [if_neg h1, if_neg h2, if_neg h3] at kk
    by_cases h4 : t < 4 + len + 1 + 7 * b (4 + len)
    · rw [if_pos h4] at kk
      exact zin (nI_ge h4 (by omega)) kk
    · rw [if_neg h4] at kk
      exact zip (nI_le (by omega) (by omega)) kk
theorem nar0 : vp_nar .boolean 0 = 0 := by decide +kernel
theorem nar1 : vp_nar .boolean 1 = 1 := by decide +kernel
/-- a place below p is come over -/
theorem nxt_skip {b : Nat → Nat} {p s : Nat} (h : nxt b p = p) (hs : s = opz (b (4 + p)) (b (4 + p + 1))) : ∀ i, i + 1 ≤ s → nxt b (p + 1 + i) = p + s
  | 0, _ => by rw [Nat.add_zero, nxt, if_pos h, hs]
  | i + 1, hi => by
    have := nxt_skip h hs i (by omega)
    rw [← Nat.add_assoc, nxt, this, if_neg (by omega)]
theorem l_scan {b : Nat → Nat} {t len loc m : Nat} {I0 : zI} {P : zP} {K : Int32 → zI → zP → Prop} (hm : m < 6) (ht4 : 4 ≤ t) (ht6 : t ≤ 600) (hlen : I0 159 m = nI len) (hl4 : len ≤ 400) (hloc : I0 158 m = nI loc) (hnum : I0 155 3 = nI m) (hl : loc ≤ 12) (hb : ∀ j, j < t → b j < 256 ∧ I0 156 j = nI (b j)) (hc : ∀ q, q < len → 4 + q < t → I0 160 (400 * m + q) = nI (b (4 + q)))
    (k : ∀ r I, codeR b t len loc m r → r ≠ none → (∀ c j, ¬ (c = 166 ∧ 400 * m ≤ j ∧ j < 400 * m + 400) → I c j = I0 c j) → K (oI r) I P)
    (k2 : ∀ I, codeR b t len loc m none → (∀ c j, ¬ (c = 166 ∧ 400 * m ≤ j ∧ j < 400 * m + 400) → I c j = I0 c j) → (∀ q, q < len → I 166 (400 * m + q) = if nxt b q = q then 1 else 0) → w_X10_rest (nI m) (nI (4 + len)) (nI t) I P K) :
    ∀ d p I, len - p ≤ d → p ≤ len → nxt b p = p → (∀ q, q < p → nxt b q = q → insF b t len loc m q = none) → (∀ c j, ¬ (c = 166 ∧ 400 * m ≤ j ∧ j < 400 * m + 400) → I c j = I0 c j) → (∀ q, q < len → I 166 (400 * m + q) = if q < p ∧ nxt b q = q then 1 else 0) → l_X10_form_191 K (d + 1) (nI m) (nI t) (nI p) I P := by
  intro d
  induction d with
  | zero =>
    intro p I hd hp hn hq h1 h2
    obtain rfl : p = len := by omega
    rw [l_X10_form_191]
    have h9 : I 159 m = nI p := by rw [h1 _ _ (by omega)]; exact hlen
    refine ⟨vp_in_nI hm (by decide), zip (by rw [nI_clamp (by omega), h9]; exact nI_le (Nat.le_refl _) (by omega)) ?_⟩
    rw [show (4 : Int32) = nI 4 from rfl, nI_add]
    exact k2 I (Or.inl ⟨rfl, hq⟩) h1 (fun q hq => by rw [h2 q hq]; simp only [hq, true_and])
  | succ d ih =>
    intro p I hd hp hn hq h1 h2
    rw [l_X10_form_191]
    have h9 : I 159 m = nI len := by rw [h1 _ _ (by omega)]; exact hlen
    refine ⟨vp_in_nI hm (by decide), ?_⟩
    rw [nI_clamp (by omega), h9]
    by_cases hpl : p = len
    · subst hpl
      refine zip (nI_le (Nat.le_refl _) (by omega)) ?_
      rw [show (4 : Int32) = nI 4 from rfl, nI_add]
      exact k2 I (Or.inl ⟨rfl, hq⟩) h1 (fun q hq => by rw [h2 q hq]; simp only [hq, true_and])
    refine zin (nI_ge (by omega) (by omega)) ?_
    refine s_minsF hm ht6 h9 hl4 (by rw [h1 _ _ (by omega)]; exact hloc) (by rw [h1 _ _ (by omega)]; exact hnum) hl (fun j hj => ⟨(hb j hj).1, by rw [h1 _ _ (by omega)]; exact (hb j hj).2⟩) (by omega) ?_
    by_cases hf : insF b t len loc m p = none
    · rw [hf]
      obtain ⟨g0, go, g1, g2, g3, g4, g5, -⟩ := insF_n hf
      have e4 : (400 : Int32) * nI m + nI p = nI (400 * m + p) := by rw [show (400 : Int32) = nI 400 from rfl, pk_mul, nI_add]
      rw [e4, nI_clamp (by omega), nar1]
      refine zip rfl ⟨vp_in_nI (by omega) (by decide), ?_⟩
      refine s_msize hm (by omega) (hb _ g0).1 go (n := b (4 + p + 1)) ?_ ?_ ?_
      · rw [zu_nc (by decide), h1 _ _ (by omega)]; exact hc p (by omega) g0
      · intro e33
        have e5 := g5 e33
        have eo : opz (b (4 + p)) (b (4 + p + 1)) = 4 + 2 * b (4 + p + 1) := by unfold opz; rw [if_pos e33]
        refine ⟨by omega, ?_⟩
        rw [zu_nc (by decide), h1 _ _ (by omega), Nat.add_assoc, hc (p + 1) (by omega) (by omega)]
        rfl
      rw [nI_add]
      have sk := nxt_skip hn rfl
      refine ih (p + opz (b (4 + p)) (b (4 + p + 1))) _ (by omega) (by omega) ?_ ?_ ?_ ?_
      · obtain ⟨i, hi⟩ : ∃ i, opz (b (4 + p)) (b (4 + p + 1)) = i + 1 := ⟨opz (b (4 + p)) (b (4 + p + 1)) - 1, by omega⟩
        have := sk i (by omega)
        rw [show p + opz (b (4 + p)) (b (4 + p + 1)) = p + 1 + i by omega]
        omega
      · intro q hq1 hq2
        by_cases e : q = p
        · subst e; exact hf
        · by_cases e2 : q < p
          · exact hq q e2 hq2
          · have := sk (q - p - 1) (by omega)
            rw [show p + 1 + (q - p - 1) = q by omega] at this
            omega
      · intro c j h
        rw [zu_ne (by omega)]; exact h1 c j h
      · intro q hq1
        by_cases e : q = p
        · subst e
          rw [zu_same, if_pos ⟨by omega, hn⟩]
        · rw [zu_nj (by omega), h2 q hq1]
          by_cases e2 : q < p
          · simp only [e2, true_and, show q < p + opz (b (4 + p)) (b (4 + p + 1)) by omega]
          · rw [if_neg (by omega)]
            by_cases e3 : q < p + opz (b (4 + p)) (b (4 + p + 1))
            · have := sk (q - p - 1) (by omega)
              rw [show p + 1 + (q - p - 1) = q by omega] at this
              rw [if_neg (by omega)]
            · rw [if_neg (by omega)]
    · refine zin (fun e => hf (oI_some (n := 0) (fun a e => insF_b (by omega) (by omega) e) e)) ?_
      exact k _ I (Or.inr ⟨hf, p, by omega, hn, rfl, hq⟩) hf h1
