/-! PURE 15: formFault -/
def tfL (m c j : Nat) : Prop := (c = 2 ∧ j = 1) ∨ (c = 20 + 12 * m ∧ 7 ≤ j ∧ j ≤ 10) ∨ c = 21 + 12 * m ∨ c = 22 + 12 * m ∨ c = 25 + 12 * m
def FormL (b : Nat → Nat) (m : Nat) (I : zI) : Prop :=
  I (20 + 12 * m) 7 = nI (b 0) ∧ I (20 + 12 * m) 8 = nI (b 1) ∧ I (20 + 12 * m) 9 = nI (256 * b 2 + b 3) ∧ I (20 + 12 * m) 10 = nI (b (4 + (256 * b 2 + b 3))) ∧
  (∀ q, q < 256 * b 2 + b 3 → I (21 + 12 * m) q = nI (b (4 + q)) ∧ I (22 + 12 * m) q = nI (szo b q)) ∧
  (∀ i, i < 4 * b (4 + (256 * b 2 + b 3)) → I (25 + 12 * m) i = nI (hpt b (256 * b 2 + b 3) i))
theorem PSt_2 {P : zP} {v : Option Nat} (h : PSt P) : PSt (zu P 2 0 v) := pst_put (o := 2) (k := 0) (t := 5) (n := 2) h (by decide +kernel) (by decide +kernel)
theorem oI_some {r : Option Nat} {n : Nat} (hr : ∀ a, r = some a → a < 2 ^ 31) (h : oI r = -1) : r = none := by
  cases r with
  | none => rfl
  | some a => exact absurd ((ng_eq (a := a) (b := 1) (hr a rfl) (by decide)).mp h) (by omega)
theorem insF_b {b : Nat → Nat} {t len loc m p a : Nat} (hp : p < 2 ^ 29) (ht : t < 2 ^ 29) (hr : insF b t len loc m p = some a) : a < 2 ^ 31 := by
  unfold insF at hr
  revert hr
  (repeat' split) <;> (intro hr; cases hr) <;> omega
theorem codeR_b {b : Nat → Nat} {t len loc m a : Nat} (hl : len < 2 ^ 29) (ht : t < 2 ^ 29) (h : codeR b t len loc m (some a)) : a < 2 ^ 31 := by
  rcases h with ⟨h1, -⟩ | ⟨-, p, hp, -, h2, -⟩
  · cases h1
  · exact insF_b (by omega) ht h2
theorem headF_b {b : Nat → Nat} {t a : Nat} (hr : headF b t = some a) : a < 2 ^ 31 := by
  unfold headF at hr
  revert hr
  (repeat' split) <;> (intro hr; cases hr) <;> omega
theorem tailF_b {b : Nat → Nat} {t len a : Nat} (hl : len < 2 ^ 29) (ht : t < 2 ^ 29) (hr : tailF b t len = some a) : a < 2 ^ 31 := by
  unfold tailF at hr
  revert hr
  (repeat' split) <;> (intro hr; cases hr) <;> omega
theorem s_tail {b : Nat → Nat} {t len m : Nat} {I : zI} {P : zP} {K : Int32 → zI → zP → Prop} (hP : PSt P) (hP2 : P 2 0 = some 1) (hm : m < 6) (ht : I 2 1 = nI t) (ht6 : t ≤ 600) (hlen : I (20 + 12 * m) 9 = nI len) (hl : len ≤ 400) (hb : ∀ j, j < 600 → b j < 256 ∧ I 1 j = nI (b j))
    (k : ∀ I', (∀ c j, ¬ (c = 20 + 12 * m ∧ j = 10) → c ≠ 25 + 12 * m → I' c j = I c j) → (tailF b t len = none → I' (20 + 12 * m) 10 = nI (b (4 + len)) ∧ ∀ i, i < 4 * b (4 + len) → I' (25 + 12 * m) i = nI (hpt b len i)) → K (oI (tailF b t len)) I' P) : w_X5_tailFault (20 + 12 * m) I P K := by
  unfold w_X5_tailFault
  have k' := k
  unfold tailF at k
  by_cases h1 : t ≤ 4 + len
  · have kk := k I (fun _ _ _ _ => rfl) (fun e => by rw [if_pos h1] at e; cases e)
    rw [if_pos h1] at kk
    (repeat first | (with_reducible refine zip ?_ ?_; · first | omega | decide | (simp (maxSteps := 400000) (disch := omega) only [ht, hlen, q_lit, q_neg, nI_ltI, nI_leI, nI_eq, nI_add, pk_mul, pk_sub, nI_clamp, vp_q, zu_same, zu_nc, zu_nj, ng_lt, ng_le, ng_gt, ng_ge, ng_eq, ng_qe, ng_ee, ng_add, not_false_eq_true, not_true_eq_false, ne_eq]; done) | (simp (maxSteps := 400000) (disch := omega) only [ht, hlen, q_lit, q_neg, nI_ltI, nI_leI, nI_eq, nI_add, pk_mul, pk_sub, nI_clamp, vp_q, zu_same, zu_nc, zu_nj, ng_lt, ng_le, ng_gt, ng_ge, ng_eq, ng_qe, ng_ee, ng_add, not_false_eq_true, not_true_eq_false, ne_eq]; omega)) | (with_reducible refine zin ?_ ?_; · first | omega | decide | (simp (maxSteps := 400000) (disch := omega) only [ht, hlen, q_lit, q_neg, nI_ltI, nI_leI, nI_eq, nI_add, pk_mul, pk_sub, nI_clamp, vp_q, zu_same, zu_nc, zu_nj, ng_lt, ng_le, ng_gt, ng_ge, ng_eq, ng_qe, ng_ee, ng_add, not_false_eq_true, not_true_eq_false, ne_eq]; done) | (simp (maxSteps := 400000) (disch := omega) only [ht, hlen, q_lit, q_neg, nI_ltI, nI_leI, nI_eq, nI_add, pk_mul, pk_sub, nI_clamp, vp_q, zu_same, zu_nc, zu_nj, ng_lt, ng_le, ng_gt, ng_ge, ng_eq, ng_qe, ng_ee, ng_add, not_false_eq_true, not_true_eq_false, ne_eq]; omega)) | (with_reducible refine And.intro ?_ ?_; · first | (first | exact shM (by omega) | exact shW (by omega) | exact shT (by omega) | exact shF (by omega) | exact shM1 (by omega) | exact shM2 (by omega) | exact shM3 (by omega) | exact shM4 (by omega) | exact shM5 (by omega) | exact shW0 (by omega) | exact shW1 (by omega) | exact shW2 (by omega) | exact shW3 (by omega) | exact shW4 (by omega) | exact shT0 (by omega) | exact shT1 (by omega) | exact shT2 (by omega) | exact shT3 (by omega) | exact shF0 (by omega) | exact shF1 (by omega)) | (first | omega | decide | (simp (maxSteps := 400000) (disch := omega) only [ht, hlen, q_lit, q_neg, nI_ltI, nI_leI, nI_eq, nI_add, pk_mul, pk_sub, nI_clamp, vp_q, zu_same, zu_nc, zu_nj, ng_lt, ng_le, ng_gt, ng_ge, ng_eq, ng_qe, ng_ee, ng_add, not_false_eq_true, not_true_eq_false, ne_eq]; done) | (simp (maxSteps := 400000) (disch := omega) only [ht, hlen, q_lit, q_neg, nI_ltI, nI_leI, nI_eq, nI_add, pk_mul, pk_sub, nI_clamp, vp_q, zu_same, zu_nc, zu_nj, ng_lt, ng_le, ng_gt, ng_ge, ng_eq, ng_qe, ng_ee, ng_add, not_false_eq_true, not_true_eq_false, ne_eq]; omega))) | (with_reducible apply zex; · first | (first | exact pM hP (by omega) | exact pT hP (by omega) | exact pF hP (by omega) | exact pM1 hP (by omega) | exact pM2 hP (by omega) | exact pM3 hP (by omega) | exact pM4 hP (by omega) | exact pM5 hP (by omega) | exact pM6 hP (by omega) | exact pW0 hP (by omega) | exact pW1 hP (by omega) | exact pW2 hP (by omega) | exact pW3 hP (by omega) | exact pW4 hP (by omega) | exact pT0 hP (by omega) | exact pT1 hP (by omega) | exact pT2 hP (by omega) | exact pT3 hP (by omega) | exact pF0 hP (by omega) | exact pF1 hP (by omega)) | (simp (maxSteps := 400000) (disch := omega) only [ht, hlen, q_lit, q_neg, nI_ltI, nI_leI, nI_eq, nI_add, pk_mul, pk_sub, nI_clamp, vp_q, zu_same, zu_nc, zu_nj, ng_lt, ng_le, ng_gt, ng_ge, ng_eq, ng_qe, ng_ee, ng_add, not_false_eq_true, not_true_eq_false, ne_eq]; first | exact pM hP (by omega) | exact pT hP (by omega) | exact pF hP (by omega) | exact pM1 hP (by omega) | exact pM2 hP (by omega) | exact pM3 hP (by omega) | exact pM4 hP (by omega) | exact pM5 hP (by omega) | exact pM6 hP (by omega) | exact pW0 hP (by omega) | exact pW1 hP (by omega) | exact pW2 hP (by omega) | exact pW3 hP (by omega) | exact pW4 hP (by omega) | exact pT0 hP (by omega) | exact pT1 hP (by omega) | exact pT2 hP (by omega) | exact pT3 hP (by omega) | exact pF0 hP (by omega) | exact pF1 hP (by omega))) | (with_reducible refine s_inT ?_ ?_; · first | omega | decide | (simp (maxSteps := 400000) (disch := omega) only [ht, hlen, q_lit, q_neg, nI_ltI, nI_leI, nI_eq, nI_add, pk_mul, pk_sub, nI_clamp, vp_q, zu_same, zu_nc, zu_nj, ng_lt, ng_le, ng_gt, ng_ge, ng_eq, ng_qe, ng_ee, ng_add, not_false_eq_true, not_true_eq_false, ne_eq]; done) | (simp (maxSteps := 400000) (disch := omega) only [ht, hlen, q_lit, q_neg, nI_ltI, nI_leI, nI_eq, nI_add, pk_mul, pk_sub, nI_clamp, vp_q, zu_same, zu_nc, zu_nj, ng_lt, ng_le, ng_gt, ng_ge, ng_eq, ng_qe, ng_ee, ng_add, not_false_eq_true, not_true_eq_false, ne_eq]; omega)) | (with_reducible refine s_inF ?_ ?_; · first | omega | decide | (simp (maxSteps := 400000) (disch := omega) only [ht, hlen, q_lit, q_neg, nI_ltI, nI_leI, nI_eq, nI_add, pk_mul, pk_sub, nI_clamp, vp_q, zu_same, zu_nc, zu_nj, ng_lt, ng_le, ng_gt, ng_ge, ng_eq, ng_qe, ng_ee, ng_add, not_false_eq_true, not_true_eq_false, ne_eq]; done) | (simp (maxSteps := 400000) (disch := omega) only [ht, hlen, q_lit, q_neg, nI_ltI, nI_leI, nI_eq, nI_add, pk_mul, pk_sub, nI_clamp, vp_q, zu_same, zu_nc, zu_nj, ng_lt, ng_le, ng_gt, ng_ge, ng_eq, ng_qe, ng_ee, ng_add, not_false_eq_true, not_true_eq_false, ne_eq]; omega)) | (simp (maxSteps := 400000) (disch := omega) only [ht, hlen, q_lit, q_neg, nI_ltI, nI_leI, nI_eq, nI_add, pk_mul, pk_sub, nI_clamp, vp_q, zu_same, zu_nc, zu_nj, ng_lt, ng_le, ng_gt, ng_ge, ng_eq, ng_qe, ng_ee, ng_add, not_false_eq_true, not_true_eq_false, ne_eq]))
    exact kk
  obtain ⟨b1, b2⟩ := hb (4 + len) (by omega)
  by_cases h2 : 8 < b (4 + len)
  · have kk := k I (fun _ _ _ _ => rfl) (fun e => by rw [if_neg h1, if_pos h2] at e; cases e)
    rw [if_neg h1, if_pos h2] at kk
    (repeat first | (with_reducible refine zip ?_ ?_; · first | omega | decide | (simp (maxSteps := 400000) (disch := omega) only [ht, hlen, b2, q_lit, q_neg, nI_ltI, nI_leI, nI_eq, nI_add, pk_mul, pk_sub, nI_clamp, vp_q, zu_same, zu_nc, zu_nj, ng_lt, ng_le, ng_gt, ng_ge, ng_eq, ng_qe, ng_ee, ng_add, not_false_eq_true, not_true_eq_false, ne_eq]; done) | (simp (maxSteps := 400000) (disch := omega) only [ht, hlen, b2, q_lit, q_neg, nI_ltI, nI_leI, nI_eq, nI_add, pk_mul, pk_sub, nI_clamp, vp_q, zu_same, zu_nc, zu_nj, ng_lt, ng_le, ng_gt, ng_ge, ng_eq, ng_qe, ng_ee, ng_add, not_false_eq_true, not_true_eq_false, ne_eq]; omega)) | (with_reducible refine zin ?_ ?_; · first | omega | decide | (simp (maxSteps := 400000) (disch := omega) only [ht, hlen, b2, q_lit, q_neg, nI_ltI, nI_leI, nI_eq, nI_add, pk_mul, pk_sub, nI_clamp, vp_q, zu_same, zu_nc, zu_nj, ng_lt, ng_le, ng_gt, ng_ge, ng_eq, ng_qe, ng_ee, ng_add, not_false_eq_true, not_true_eq_false, ne_eq]; done) | (simp (maxSteps := 400000) (disch := omega) only [ht, hlen, b2, q_lit, q_neg, nI_ltI, nI_leI, nI_eq, nI_add, pk_mul, pk_sub, nI_clamp, vp_q, zu_same, zu_nc, zu_nj, ng_lt, ng_le, ng_gt, ng_ge, ng_eq, ng_qe, ng_ee, ng_add, not_false_eq_true, not_true_eq_false, ne_eq]; omega)) | (with_reducible refine And.intro ?_ ?_; · first | (first | exact shM (by omega) | exact shW (by omega) | exact shT (by omega) | exact shF (by omega) | exact shM1 (by omega) | exact shM2 (by omega) | exact shM3 (by omega) | exact shM4 (by omega) | exact shM5 (by omega) | exact shW0 (by omega) | exact shW1 (by omega) | exact shW2 (by omega) | exact shW3 (by omega) | exact shW4 (by omega) | exact shT0 (by omega) | exact shT1 (by omega) | exact shT2 (by omega) | exact shT3 (by omega) | exact shF0 (by omega) | exact shF1 (by omega)) | (first | omega | decide | (simp (maxSteps := 400000) (disch := omega) only [ht, hlen, b2, q_lit, q_neg, nI_ltI, nI_leI, nI_eq, nI_add, pk_mul, pk_sub, nI_clamp, vp_q, zu_same, zu_nc, zu_nj, ng_lt, ng_le, ng_gt, ng_ge, ng_eq, ng_qe, ng_ee, ng_add, not_false_eq_true, not_true_eq_false, ne_eq]; done) | (simp (maxSteps := 400000) (disch := omega) only [ht, hlen, b2, q_lit, q_neg, nI_ltI, nI_leI, nI_eq, nI_add, pk_mul, pk_sub, nI_clamp, vp_q, zu_same, zu_nc, zu_nj, ng_lt, ng_le, ng_gt, ng_ge, ng_eq, ng_qe, ng_ee, ng_add, not_false_eq_true, not_true_eq_false, ne_eq]; omega))) | (with_reducible apply zex; · first | (first | exact pM hP (by omega) | exact pT hP (by omega) | exact pF hP (by omega) | exact pM1 hP (by omega) | exact pM2 hP (by omega) | exact pM3 hP (by omega) | exact pM4 hP (by omega) | exact pM5 hP (by omega) | exact pM6 hP (by omega) | exact pW0 hP (by omega) | exact pW1 hP (by omega) | exact pW2 hP (by omega) | exact pW3 hP (by omega) | exact pW4 hP (by omega) | exact pT0 hP (by omega) | exact pT1 hP (by omega) | exact pT2 hP (by omega) | exact pT3 hP (by omega) | exact pF0 hP (by omega) | exact pF1 hP (by omega)) | (simp (maxSteps := 400000) (disch := omega) only [ht, hlen, b2, q_lit, q_neg, nI_ltI, nI_leI, nI_eq, nI_add, pk_mul, pk_sub, nI_clamp, vp_q, zu_same, zu_nc, zu_nj, ng_lt, ng_le, ng_gt, ng_ge, ng_eq, ng_qe, ng_ee, ng_add, not_false_eq_true, not_true_eq_false, ne_eq]; first | exact pM hP (by omega) | exact pT hP (by omega) | exact pF hP (by omega) | exact pM1 hP (by omega) | exact pM2 hP (by omega) | exact pM3 hP (by omega) | exact pM4 hP (by omega) | exact pM5 hP (by omega) | exact pM6 hP (by omega) | exact pW0 hP (by omega) | exact pW1 hP (by omega) | exact pW2 hP (by omega) | exact pW3 hP (by omega) | exact pW4 hP (by omega) | exact pT0 hP (by omega) | exact pT1 hP (by omega) | exact pT2 hP (by omega) | exact pT3 hP (by omega) | exact pF0 hP (by omega) | exact pF1 hP (by omega))) | (with_reducible apply zex hP2) | (with_reducible refine s_byte sh1 zz1 (by omega) (by omega) ?_) | (with_reducible refine s_inT ?_ ?_; · first | omega | decide | (simp (maxSteps := 400000) (disch := omega) only [ht, hlen, b2, q_lit, q_neg, nI_ltI, nI_leI, nI_eq, nI_add, pk_mul, pk_sub, nI_clamp, vp_q, zu_same, zu_nc, zu_nj, ng_lt, ng_le, ng_gt, ng_ge, ng_eq, ng_qe, ng_ee, ng_add, not_false_eq_true, not_true_eq_false, ne_eq]; done) | (simp (maxSteps := 400000) (disch := omega) only [ht, hlen, b2, q_lit, q_neg, nI_ltI, nI_leI, nI_eq, nI_add, pk_mul, pk_sub, nI_clamp, vp_q, zu_same, zu_nc, zu_nj, ng_lt, ng_le, ng_gt, ng_ge, ng_eq, ng_qe, ng_ee, ng_add, not_false_eq_true, not_true_eq_false, ne_eq]; omega)) | (with_reducible refine s_inF ?_ ?_; · first | omega | decide | (simp (maxSteps := 400000) (disch := omega) only [ht, hlen, b2, q_lit, q_neg, nI_ltI, nI_leI, nI_eq, nI_add, pk_mul, pk_sub, nI_clamp, vp_q, zu_same, zu_nc, zu_nj, ng_lt, ng_le, ng_gt, ng_ge, ng_eq, ng_qe, ng_ee, ng_add, not_false_eq_true, not_true_eq_false, ne_eq]; done) | (simp (maxSteps := 400000) (disch := omega) only [ht, hlen, b2, q_lit, q_neg, nI_ltI, nI_leI, nI_eq, nI_add, pk_mul, pk_sub, nI_clamp, vp_q, zu_same, zu_nc, zu_nj, ng_lt, ng_le, ng_gt, ng_ge, ng_eq, ng_qe, ng_ee, ng_add, not_false_eq_true, not_true_eq_false, ne_eq]; omega)) | (simp (maxSteps := 400000) (disch := omega) only [ht, hlen, b2, q_lit, q_neg, nI_ltI, nI_leI, nI_eq, nI_add, pk_mul, pk_sub, nI_clamp, vp_q, zu_same, zu_nc, zu_nj, ng_lt, ng_le, ng_gt, ng_ge, ng_eq, ng_qe, ng_ee, ng_add, not_false_eq_true, not_true_eq_false, ne_eq]))
    exact kk
  have e1 : (4 : Int32) + nI len = nI (4 + len) := by rw [show (4 : Int32) = nI 4 from rfl, nI_add]
  have e2 : nI (4 + len) + 1 + 7 * nI (b (4 + len)) = nI (4 + len + 1 + 7 * b (4 + len)) := by rw [show (7 : Int32) = nI 7 from rfl, pk_mul, nI_1, nI_add]
  refine ⟨shM hm, ?_⟩
  rw [hlen, e1, ht]
  refine zip (nI_lt (by omega) (by omega)) ⟨1, hP2, s_byte sh1 zz1 (by decide) (by omega) ?_⟩
  rw [b2, e2, ht]
  refine zip (nI_le (b := 8) (by omega) (by decide)) ?_
  by_cases h3 : t = 4 + len + 1 + 7 * b (4 + len)
  · refine zip (by rw [h3]) ⟨b (4 + len) + 1, ?_⟩
    refine l_tail hP hP2 hm (by omega) (by omega) (I0 := zu I (20 + 12 * m) 10 (nI (b (4 + len)))) (fun j hj => ⟨(hb j hj).1, by rw [zu_nc (by omega)]; exact (hb j hj).2⟩) ?_ (b (4 + len)) 0 _ (by omega) (fun _ _ _ => rfl) (fun i hi => absurd hi (by omega))
    intro I' g1 g2
    have e3 : tailF b t len = none := by unfold tailF; rw [if_neg h1, if_neg h2, if_pos h3]
    have kk := k' I' (fun c j q1 q2 => by rw [g1 c j q2]; exact zu_ne q1) (fun _ => ⟨by rw [g1 _ _ (by omega)]; exact zu_same, g2⟩)
    rw [e3] at kk
    exact kk
  · refine zin (fun e => h3 ((nI_eq (by omega) (by omega)).mp e).symm) ?_
    have kk := k I (fun _ _ _ _ => rfl) (fun e => by
      rw [if_neg h1, if_neg h2, if_neg h3] at e
      revert e; split <;> (intro e; cases e))
    rw [if_neg h1, if_neg h2, if_neg h3] at kk
    by_cases h4 : t < 4 + len + 1 + 7 * b (4 + len)
    · rw [if_pos h4] at kk
      rw [if_pos (nI_lt h4 (by omega))]; exact kk
    · rw [if_neg h4] at kk
      rw [if_neg (nI_nlt (by omega) (by omega))]; exact kk
theorem s_formL {b : Nat → Nat} {t m : Nat} {I : zI} {P : zP} {K : Int32 → zI → zP → Prop} (hP : PSt P) (hm : m < 6) (ht6 : t ≤ 600) (hnum : I (20 + 12 * m) 0 = nI m) (hb : ∀ j, j < 600 → b j < 256 ∧ I 1 j = nI (b j))
    (k : ∀ r I', formR b t m r → (∀ a, r = some a → a < 2 ^ 31) → (∀ c j, ¬ tfL m c j → I' c j = I c j) → (r = none → FormL b m I') → K (oI r) I' (zu P 2 0 (some 1))) : w_X5_formFault 1 (nI t) (20 + 12 * m) I P K := by
  unfold w_X5_formFault
  have hP2 : zu P 2 0 (some 1) 2 0 = some 1 := zu_same
  have hPP : PSt (zu P 2 0 (some 1)) := PSt_2 hP
  have em : (if (Int32.ofNat (zlen 1)) < nI t then (Int32.ofNat (zlen 1)) else nI t) = nI t := by
    rw [zz1, if_neg]
    exact nI_nlt (a := 600) ht6 (by decide)
  refine ⟨sh1, ?_⟩
  rw [em]
  have hb1 : ∀ j, j < 600 → b j < 256 ∧ zu I 2 1 (nI t) 1 j = nI (b j) := fun j hj => ⟨(hb j hj).1, by rw [zu_nc (by decide)]; exact (hb j hj).2⟩
  refine s_head hPP hP2 hm zu_same ht6 hb1 ?_
  by_cases hh : headF b t = none
  · rw [hh]
    obtain ⟨t4, h0, h01, h1, hl1, hl4⟩ := headF_n hh
    refine zip rfl ?_
    unfold w_X5_codeFault
    refine ⟨shM hm, _, pM2 hPP hm, s_fill (shM2 hm) (zzM2 hm) (by decide) ?_⟩
    have fr0 : ∀ c j, ¬ tfL m c j → (flI (zu (zu (zu (zu I 2 1 (nI t)) (20 + 12 * m) 7 (nI (b 0))) (20 + 12 * m) 8 (nI (b 1))) (20 + 12 * m) 9 (nI (256 * b 2 + b 3))) (22 + 12 * m) 400 0) c j = I c j := by
      intro c j h
      unfold tfL at h
      rw [flI_out (by omega), zu_ne (by omega), zu_ne (by omega), zu_ne (by omega), zu_ne (by omega)]
    have i2 : (flI (zu (zu (zu (zu I 2 1 (nI t)) (20 + 12 * m) 7 (nI (b 0))) (20 + 12 * m) 8 (nI (b 1))) (20 + 12 * m) 9 (nI (256 * b 2 + b 3))) (22 + 12 * m) 400 0) 2 1 = nI t := by
      rw [flI_out (by omega), zu_nc (by omega), zu_nc (by omega), zu_nc (by omega), zu_same]
    have i7 : (flI (zu (zu (zu (zu I 2 1 (nI t)) (20 + 12 * m) 7 (nI (b 0))) (20 + 12 * m) 8 (nI (b 1))) (20 + 12 * m) 9 (nI (256 * b 2 + b 3))) (22 + 12 * m) 400 0) (20 + 12 * m) 7 = nI (b 0) := by
      rw [flI_out (by omega), zu_nj (by omega), zu_nj (by omega), zu_same]
    have i8 : (flI (zu (zu (zu (zu I 2 1 (nI t)) (20 + 12 * m) 7 (nI (b 0))) (20 + 12 * m) 8 (nI (b 1))) (20 + 12 * m) 9 (nI (256 * b 2 + b 3))) (22 + 12 * m) 400 0) (20 + 12 * m) 8 = nI (b 1) := by
      rw [flI_out (by omega), zu_nj (by omega), zu_same]
    have i9 : (flI (zu (zu (zu (zu I 2 1 (nI t)) (20 + 12 * m) 7 (nI (b 0))) (20 + 12 * m) 8 (nI (b 1))) (20 + 12 * m) 9 (nI (256 * b 2 + b 3))) (22 + 12 * m) 400 0) (20 + 12 * m) 9 = nI (256 * b 2 + b 3) := by
      rw [flI_out (by omega), zu_same]
    have is : ∀ q, q < 400 → (flI (zu (zu (zu (zu I 2 1 (nI t)) (20 + 12 * m) 7 (nI (b 0))) (20 + 12 * m) 8 (nI (b 1))) (20 + 12 * m) 9 (nI (256 * b 2 + b 3))) (22 + 12 * m) 400 0) (22 + 12 * m) q = 0 := fun q hq => flI_in hq
    generalize flI (zu (zu (zu (zu I 2 1 (nI t)) (20 + 12 * m) 7 (nI (b 0))) (20 + 12 * m) 8 (nI (b 1))) (20 + 12 * m) 9 (nI (256 * b 2 + b 3))) (22 + 12 * m) 400 0 = J at fr0 i2 i7 i8 i9 is ⊢
    have hJ0 : J (20 + 12 * m) 0 = nI m := by rw [fr0 _ _ (by unfold tfL; omega)]; exact hnum
    have hJb : ∀ j, j < 600 → b j < 256 ∧ J 1 j = nI (b j) := fun j hj => ⟨(hb j hj).1, by rw [fr0 _ _ (by unfold tfL; omega)]; exact (hb j hj).2⟩
    refine ⟨(256 * b 2 + b 3) + 1, l_code hPP hP2 hm i2 t4 ht6 i9 hl4 i8 hJ0 h1 hJb ?_ (256 * b 2 + b 3) 0 J (by omega) (fun q hq => absurd hq (by omega)) ⟨fun _ _ _ _ => rfl, fun q hq => absurd hq (by omega), fun q _ hq => is q hq⟩⟩
    intro r I1 hr fr1 hc
    unfold j_X5_formFault_35
    have rb : ∀ a, r = some a → a < 2 ^ 31 := fun a e => codeR_b (by omega) (by omega) (e ▸ hr)
    by_cases hn : r = none
    · subst hn
      refine zip rfl ?_
      obtain ⟨c1, c2, -⟩ := hc rfl
      refine s_tail hPP hP2 hm (t := t) (len := 256 * b 2 + b 3) (by rw [fr1 _ _ (by omega) (by omega)]; exact i2) ht6 (by rw [fr1 _ _ (by omega) (by omega)]; exact i9) hl4 (fun j hj => ⟨(hb j hj).1, by rw [fr1 _ _ (by omega) (by omega)]; exact (hJb j hj).2⟩) ?_
      intro I2 fr2 ht2
      refine k _ I2 (Or.inr (Or.inr ⟨hh, hr, rfl⟩)) (fun a e => tailF_b (by omega) (by omega) e) ?_ ?_
      · intro c j h
        have h' := h
        unfold tfL at h
        rw [fr2 c j (by omega) (by omega), fr1 c j (by omega) (by omega)]
        exact fr0 c j h'
      · intro e
        obtain ⟨g1, g2⟩ := ht2 e
        refine ⟨?_, ?_, ?_, g1, ?_, g2⟩
        · rw [fr2 _ _ (by omega) (by omega), fr1 _ _ (by omega) (by omega)]; exact i7
        · rw [fr2 _ _ (by omega) (by omega), fr1 _ _ (by omega) (by omega)]; exact i8
        · rw [fr2 _ _ (by omega) (by omega), fr1 _ _ (by omega) (by omega)]; exact i9
        · intro q hq
          rw [fr2 _ _ (by omega) (by omega), fr2 _ _ (by omega) (by omega)]
          exact c2 q hq
    · refine zin (fun e => hn (oI_some (n := 0) rb e)) ?_
      refine k r I1 (Or.inr (Or.inl ⟨hh, hn, hr⟩)) rb ?_ (fun e => absurd e hn)
      intro c j h
      have h' := h
      unfold tfL at h
      rw [fr1 c j (by omega) (by omega)]
      exact fr0 c j h'
  · have hbd : ∀ a, headF b t = some a → a < 2 ^ 31 := fun a e => headF_b e
    unfold j_X5_formFault_35
    refine zin (fun e => hh (oI_some (n := 0) hbd e)) (zin (fun e => hh (oI_some (n := 0) hbd e)) ?_)
    refine k _ _ (Or.inl ⟨rfl, hh⟩) hbd ?_ (fun e => absurd e hh)
    intro c j h
    unfold tfL at h
    rw [zu_ne (by omega), zu_ne (by omega), zu_ne (by omega), zu_ne (by omega)]
