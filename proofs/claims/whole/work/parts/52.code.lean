/-! PURE 13: the loom reads the CODE -/
def nxt (b : Nat → Nat) : Nat → Nat
  | 0 => 0
  | p + 1 => if nxt b p = p then p + opz (b (4 + p)) (b (4 + p + 1)) else nxt b p
/-- the size at p, 0 where no INSTRUCTION begins -/
def szo (b : Nat → Nat) (p : Nat) : Nat := if nxt b p = p then opz (b (4 + p)) (b (4 + p + 1)) else 0
/-- the FAULT of FORM in the CODE, if there is one -/
def codeR (b : Nat → Nat) (t len loc m : Nat) (r : Option Nat) : Prop :=
  (r = none ∧ ∀ p, p < len → nxt b p = p → insF b t len loc m p = none) ∨
  (r ≠ none ∧ ∃ p, p < len ∧ nxt b p = p ∧ insF b t len loc m p = r ∧ ∀ q, q < p → nxt b q = q → insF b t len loc m q = none)
theorem codeR_u {b : Nat → Nat} {t len loc m : Nat} {r s : Option Nat} (h : codeR b t len loc m r) (g : codeR b t len loc m s) : r = s := by
  rcases h with ⟨h1, h2⟩ | ⟨h1, p, hp, h2, h3, h4⟩ <;> rcases g with ⟨g1, g2⟩ | ⟨g1, q, hq, g2, g3, g4⟩
  · rw [h1, g1]
  · exact absurd (by rw [← g3]; exact h2 q hq g2) g1
  · exact absurd (by rw [← h3]; exact g2 p hp h2) h1
  · rcases Nat.lt_trichotomy p q with h | h | h
    · exact absurd (by rw [← h3]; exact g4 p h h2) h1
    · subst h; rw [← h3, ← g3]
    · exact absurd (by rw [← g3]; exact h4 q h g2) g1
/-- what insF none says -/
theorem insF_n {b : Nat → Nat} {t len loc m p : Nat} (h : insF b t len loc m p = none) : 4 + p < t ∧ isOpn (b (4 + p)) ∧ 1 ≤ opz (b (4 + p)) (b (4 + p + 1)) ∧ opz (b (4 + p)) (b (4 + p + 1)) ≤ 36 ∧ p + opz (b (4 + p)) (b (4 + p + 1)) ≤ len ∧ 4 + p + opz (b (4 + p)) (b (4 + p + 1)) ≤ t ∧ (b (4 + p) = 33 → 1 ≤ b (4 + p + 1) ∧ b (4 + p + 1) ≤ 16) ∧ (1 < opz (b (4 + p)) (b (4 + p + 1)) → b (4 + p) ≠ 33 → fitN (b (4 + p)) loc m (b (4 + p + 1))) := by
  unfold insF at h
  have hf := fxz_le (b (4 + p))
  by_cases h1 : t ≤ 4 + p
  · rw [if_pos h1] at h; cases h
  rw [if_neg h1] at h
  by_cases h2 : isOpn (b (4 + p))
  case neg => rw [if_pos h2] at h; cases h
  rw [if_neg (not_not_intro h2)] at h
  unfold opz
  by_cases h3 : b (4 + p) = 33
  · rw [if_pos h3] at h ⊢
    by_cases h4 : len ≤ p + 1
    · rw [if_pos h4] at h; cases h
    rw [if_neg h4] at h
    by_cases h5 : t ≤ 4 + p + 1
    · rw [if_pos h5] at h; cases h
    rw [if_neg h5] at h
    by_cases h6 : 1 ≤ b (4 + p + 1) ∧ b (4 + p + 1) ≤ 16
    case neg => rw [if_pos h6] at h; cases h
    rw [if_neg (not_not_intro h6)] at h
    by_cases h7 : len < p + (4 + 2 * b (4 + p + 1))
    · rw [if_pos h7] at h; cases h
    rw [if_neg h7] at h
    by_cases h8 : t < 4 + p + (4 + 2 * b (4 + p + 1))
    · rw [if_pos h8] at h; cases h
    exact ⟨by omega, h2, by omega, by omega, by omega, by omega, fun _ => h6, fun _ q => absurd h3 q⟩
  · rw [if_neg h3] at h ⊢
    by_cases h4 : len < p + fxz (b (4 + p))
    · rw [if_pos h4] at h; cases h
    rw [if_neg h4] at h
    by_cases h5 : 1 < fxz (b (4 + p)) ∧ 4 + p + 1 < t ∧ ¬ fitN (b (4 + p)) loc m (b (4 + p + 1))
    · rw [if_pos h5] at h; cases h
    rw [if_neg h5] at h
    by_cases h8 : t < 4 + p + fxz (b (4 + p))
    · rw [if_pos h8] at h; cases h
    have h9 : 1 ≤ fxz (b (4 + p)) := by
      unfold fxz
      unfold isOpn at h2
      (repeat' split) <;> omega
    refine ⟨by omega, h2, h9, by omega, by omega, by omega, fun q => absurd q h3, fun q _ => ?_⟩
    by_cases h10 : fitN (b (4 + p)) loc m (b (4 + p + 1))
    · exact h10
    · exact absurd ⟨q, by omega, h10⟩ h5
theorem nxt_ge (b : Nat → Nat) {len : Nat} (h : ∀ p, p < len → nxt b p = p → 1 ≤ opz (b (4 + p)) (b (4 + p + 1))) : ∀ p, p ≤ len → p ≤ nxt b p
  | 0, _ => Nat.le_refl _
  | p + 1, hp => by
    have h1 := nxt_ge b h p (by omega)
    rw [nxt]
    by_cases h2 : nxt b p = p
    · rw [if_pos h2]; have := h p (by omega) h2; omega
    · rw [if_neg h2]; omega
/-- all is within LENGTH and the TAPE -/
theorem nxt_in {b : Nat → Nat} {t len loc m n : Nat} (h0 : 4 ≤ t) (h : ∀ p, p < n → nxt b p = p → insF b t len loc m p = none) : ∀ p, p ≤ n → p ≤ nxt b p ∧ nxt b p ≤ len ∧ 4 + nxt b p ≤ t
  | 0, _ => ⟨Nat.le_refl _, Nat.zero_le _, h0⟩
  | p + 1, hp => by
    obtain ⟨h1, h2, h3⟩ := nxt_in h0 h p (by omega)
    rw [nxt]
    by_cases h4 : nxt b p = p
    · rw [if_pos h4]
      obtain ⟨-, -, g1, -, g2, g3, -⟩ := insF_n (h p (by omega) h4)
      omega
    · rw [if_neg h4]; omega
theorem s_szAt {b : Nat → Nat} {q : Nat} {I : zI} {P : zP} {K : Int32 → zI → zP → Prop} (hb : ∀ j, j < 600 → b j < 256 ∧ I 1 j = nI (b j)) (hq : q + 1 < 600) (k : K (nI (opz (b q) (b (q + 1)))) I P) : w_X9_sizeAt 1 (nI q) I P K := by
  unfold w_X9_sizeAt
  obtain ⟨b1, b2⟩ := hb q (by omega)
  obtain ⟨b3, b4⟩ := hb (q + 1) (by omega)
  unfold opz at k
  by_cases h : b q = 33
  · rw [if_pos h] at k
    (repeat first | (with_reducible refine zip ?_ ?_; · first | omega | decide | (simp (maxSteps := 400000) (disch := omega) only [b2, b4, q_lit, q_neg, nI_ltI, nI_leI, nI_eq, nI_add, pk_mul, pk_sub, nI_clamp, vp_q, zu_same, zu_nc, zu_nj, ng_lt, ng_le, ng_gt, ng_ge, ng_eq, ng_qe, ng_ee, ng_add, not_false_eq_true, not_true_eq_false, ne_eq]; done) | (simp (maxSteps := 400000) (disch := omega) only [b2, b4, q_lit, q_neg, nI_ltI, nI_leI, nI_eq, nI_add, pk_mul, pk_sub, nI_clamp, vp_q, zu_same, zu_nc, zu_nj, ng_lt, ng_le, ng_gt, ng_ge, ng_eq, ng_qe, ng_ee, ng_add, not_false_eq_true, not_true_eq_false, ne_eq]; omega)) | (with_reducible refine zin ?_ ?_; · first | omega | decide | (simp (maxSteps := 400000) (disch := omega) only [b2, b4, q_lit, q_neg, nI_ltI, nI_leI, nI_eq, nI_add, pk_mul, pk_sub, nI_clamp, vp_q, zu_same, zu_nc, zu_nj, ng_lt, ng_le, ng_gt, ng_ge, ng_eq, ng_qe, ng_ee, ng_add, not_false_eq_true, not_true_eq_false, ne_eq]; done) | (simp (maxSteps := 400000) (disch := omega) only [b2, b4, q_lit, q_neg, nI_ltI, nI_leI, nI_eq, nI_add, pk_mul, pk_sub, nI_clamp, vp_q, zu_same, zu_nc, zu_nj, ng_lt, ng_le, ng_gt, ng_ge, ng_eq, ng_qe, ng_ee, ng_add, not_false_eq_true, not_true_eq_false, ne_eq]; omega)) | (with_reducible refine And.intro ?_ ?_; · first | (first | exact shM (by omega) | exact shW (by omega) | exact shT (by omega) | exact shF (by omega) | exact shM1 (by omega) | exact shM2 (by omega) | exact shM3 (by omega) | exact shM4 (by omega) | exact shM5 (by omega) | exact shW0 (by omega) | exact shW1 (by omega) | exact shW2 (by omega) | exact shW3 (by omega) | exact shW4 (by omega) | exact shT0 (by omega) | exact shT1 (by omega) | exact shT2 (by omega) | exact shT3 (by omega) | exact shF0 (by omega) | exact shF1 (by omega)) | (first | omega | decide | (simp (maxSteps := 400000) (disch := omega) only [b2, b4, q_lit, q_neg, nI_ltI, nI_leI, nI_eq, nI_add, pk_mul, pk_sub, nI_clamp, vp_q, zu_same, zu_nc, zu_nj, ng_lt, ng_le, ng_gt, ng_ge, ng_eq, ng_qe, ng_ee, ng_add, not_false_eq_true, not_true_eq_false, ne_eq]; done) | (simp (maxSteps := 400000) (disch := omega) only [b2, b4, q_lit, q_neg, nI_ltI, nI_leI, nI_eq, nI_add, pk_mul, pk_sub, nI_clamp, vp_q, zu_same, zu_nc, zu_nj, ng_lt, ng_le, ng_gt, ng_ge, ng_eq, ng_qe, ng_ee, ng_add, not_false_eq_true, not_true_eq_false, ne_eq]; omega))) | (with_reducible apply zex; · first | (first | exact pM hP (by omega) | exact pT hP (by omega) | exact pF hP (by omega) | exact pM1 hP (by omega) | exact pM2 hP (by omega) | exact pM3 hP (by omega) | exact pM4 hP (by omega) | exact pM5 hP (by omega) | exact pM6 hP (by omega) | exact pW0 hP (by omega) | exact pW1 hP (by omega) | exact pW2 hP (by omega) | exact pW3 hP (by omega) | exact pW4 hP (by omega) | exact pT0 hP (by omega) | exact pT1 hP (by omega) | exact pT2 hP (by omega) | exact pT3 hP (by omega) | exact pF0 hP (by omega) | exact pF1 hP (by omega)) | (simp (maxSteps := 400000) (disch := omega) only [b2, b4, q_lit, q_neg, nI_ltI, nI_leI, nI_eq, nI_add, pk_mul, pk_sub, nI_clamp, vp_q, zu_same, zu_nc, zu_nj, ng_lt, ng_le, ng_gt, ng_ge, ng_eq, ng_qe, ng_ee, ng_add, not_false_eq_true, not_true_eq_false, ne_eq]; first | exact pM hP (by omega) | exact pT hP (by omega) | exact pF hP (by omega) | exact pM1 hP (by omega) | exact pM2 hP (by omega) | exact pM3 hP (by omega) | exact pM4 hP (by omega) | exact pM5 hP (by omega) | exact pM6 hP (by omega) | exact pW0 hP (by omega) | exact pW1 hP (by omega) | exact pW2 hP (by omega) | exact pW3 hP (by omega) | exact pW4 hP (by omega) | exact pT0 hP (by omega) | exact pT1 hP (by omega) | exact pT2 hP (by omega) | exact pT3 hP (by omega) | exact pF0 hP (by omega) | exact pF1 hP (by omega))) | (with_reducible refine s_byte sh1 zz1 (by omega) (by omega) ?_) | (with_reducible (refine (?_ : w_X9_tableSize _ _ _ _); unfold w_X9_tableSize)) | (with_reducible refine s_inT ?_ ?_; · first | omega | decide | (simp (maxSteps := 400000) (disch := omega) only [b2, b4, q_lit, q_neg, nI_ltI, nI_leI, nI_eq, nI_add, pk_mul, pk_sub, nI_clamp, vp_q, zu_same, zu_nc, zu_nj, ng_lt, ng_le, ng_gt, ng_ge, ng_eq, ng_qe, ng_ee, ng_add, not_false_eq_true, not_true_eq_false, ne_eq]; done) | (simp (maxSteps := 400000) (disch := omega) only [b2, b4, q_lit, q_neg, nI_ltI, nI_leI, nI_eq, nI_add, pk_mul, pk_sub, nI_clamp, vp_q, zu_same, zu_nc, zu_nj, ng_lt, ng_le, ng_gt, ng_ge, ng_eq, ng_qe, ng_ee, ng_add, not_false_eq_true, not_true_eq_false, ne_eq]; omega)) | (with_reducible refine s_inF ?_ ?_; · first | omega | decide | (simp (maxSteps := 400000) (disch := omega) only [b2, b4, q_lit, q_neg, nI_ltI, nI_leI, nI_eq, nI_add, pk_mul, pk_sub, nI_clamp, vp_q, zu_same, zu_nc, zu_nj, ng_lt, ng_le, ng_gt, ng_ge, ng_eq, ng_qe, ng_ee, ng_add, not_false_eq_true, not_true_eq_false, ne_eq]; done) | (simp (maxSteps := 400000) (disch := omega) only [b2, b4, q_lit, q_neg, nI_ltI, nI_leI, nI_eq, nI_add, pk_mul, pk_sub, nI_clamp, vp_q, zu_same, zu_nc, zu_nj, ng_lt, ng_le, ng_gt, ng_ge, ng_eq, ng_qe, ng_ee, ng_add, not_false_eq_true, not_true_eq_false, ne_eq]; omega)) | (simp (maxSteps := 400000) (disch := omega) only [b2, b4, q_lit, q_neg, nI_ltI, nI_leI, nI_eq, nI_add, pk_mul, pk_sub, nI_clamp, vp_q, zu_same, zu_nc, zu_nj, ng_lt, ng_le, ng_gt, ng_ge, ng_eq, ng_qe, ng_ee, ng_add, not_false_eq_true, not_true_eq_false, ne_eq]))
    exact k
  · rw [if_neg h] at k
    (repeat first | (with_reducible refine zip ?_ ?_; · first | omega | decide | (simp (maxSteps := 400000) (disch := omega) only [b2, q_lit, q_neg, nI_ltI, nI_leI, nI_eq, nI_add, pk_mul, pk_sub, nI_clamp, vp_q, zu_same, zu_nc, zu_nj, ng_lt, ng_le, ng_gt, ng_ge, ng_eq, ng_qe, ng_ee, ng_add, not_false_eq_true, not_true_eq_false, ne_eq]; done) | (simp (maxSteps := 400000) (disch := omega) only [b2, q_lit, q_neg, nI_ltI, nI_leI, nI_eq, nI_add, pk_mul, pk_sub, nI_clamp, vp_q, zu_same, zu_nc, zu_nj, ng_lt, ng_le, ng_gt, ng_ge, ng_eq, ng_qe, ng_ee, ng_add, not_false_eq_true, not_true_eq_false, ne_eq]; omega)) | (with_reducible refine zin ?_ ?_; · first | omega | decide | (simp (maxSteps := 400000) (disch := omega) only [b2, q_lit, q_neg, nI_ltI, nI_leI, nI_eq, nI_add, pk_mul, pk_sub, nI_clamp, vp_q, zu_same, zu_nc, zu_nj, ng_lt, ng_le, ng_gt, ng_ge, ng_eq, ng_qe, ng_ee, ng_add, not_false_eq_true, not_true_eq_false, ne_eq]; done) | (simp (maxSteps := 400000) (disch := omega) only [b2, q_lit, q_neg, nI_ltI, nI_leI, nI_eq, nI_add, pk_mul, pk_sub, nI_clamp, vp_q, zu_same, zu_nc, zu_nj, ng_lt, ng_le, ng_gt, ng_ge, ng_eq, ng_qe, ng_ee, ng_add, not_false_eq_true, not_true_eq_false, ne_eq]; omega)) | (with_reducible refine And.intro ?_ ?_; · first | (first | exact shM (by omega) | exact shW (by omega) | exact shT (by omega) | exact shF (by omega) | exact shM1 (by omega) | exact shM2 (by omega) | exact shM3 (by omega) | exact shM4 (by omega) | exact shM5 (by omega) | exact shW0 (by omega) | exact shW1 (by omega) | exact shW2 (by omega) | exact shW3 (by omega) | exact shW4 (by omega) | exact shT0 (by omega) | exact shT1 (by omega) | exact shT2 (by omega) | exact shT3 (by omega) | exact shF0 (by omega) | exact shF1 (by omega)) | (first | omega | decide | (simp (maxSteps := 400000) (disch := omega) only [b2, q_lit, q_neg, nI_ltI, nI_leI, nI_eq, nI_add, pk_mul, pk_sub, nI_clamp, vp_q, zu_same, zu_nc, zu_nj, ng_lt, ng_le, ng_gt, ng_ge, ng_eq, ng_qe, ng_ee, ng_add, not_false_eq_true, not_true_eq_false, ne_eq]; done) | (simp (maxSteps := 400000) (disch := omega) only [b2, q_lit, q_neg, nI_ltI, nI_leI, nI_eq, nI_add, pk_mul, pk_sub, nI_clamp, vp_q, zu_same, zu_nc, zu_nj, ng_lt, ng_le, ng_gt, ng_ge, ng_eq, ng_qe, ng_ee, ng_add, not_false_eq_true, not_true_eq_false, ne_eq]; omega))) | (with_reducible apply zex; · first | (first | exact pM hP (by omega) | exact pT hP (by omega) | exact pF hP (by omega) | exact pM1 hP (by omega) | exact pM2 hP (by omega) | exact pM3 hP (by omega) | exact pM4 hP (by omega) | exact pM5 hP (by omega) | exact pM6 hP (by omega) | exact pW0 hP (by omega) | exact pW1 hP (by omega) | exact pW2 hP (by omega) | exact pW3 hP (by omega) | exact pW4 hP (by omega) | exact pT0 hP (by omega) | exact pT1 hP (by omega) | exact pT2 hP (by omega) | exact pT3 hP (by omega) | exact pF0 hP (by omega) | exact pF1 hP (by omega)) | (simp (maxSteps := 400000) (disch := omega) only [b2, q_lit, q_neg, nI_ltI, nI_leI, nI_eq, nI_add, pk_mul, pk_sub, nI_clamp, vp_q, zu_same, zu_nc, zu_nj, ng_lt, ng_le, ng_gt, ng_ge, ng_eq, ng_qe, ng_ee, ng_add, not_false_eq_true, not_true_eq_false, ne_eq]; first | exact pM hP (by omega) | exact pT hP (by omega) | exact pF hP (by omega) | exact pM1 hP (by omega) | exact pM2 hP (by omega) | exact pM3 hP (by omega) | exact pM4 hP (by omega) | exact pM5 hP (by omega) | exact pM6 hP (by omega) | exact pW0 hP (by omega) | exact pW1 hP (by omega) | exact pW2 hP (by omega) | exact pW3 hP (by omega) | exact pW4 hP (by omega) | exact pT0 hP (by omega) | exact pT1 hP (by omega) | exact pT2 hP (by omega) | exact pT3 hP (by omega) | exact pF0 hP (by omega) | exact pF1 hP (by omega))) | (with_reducible refine s_byte sh1 zz1 (by omega) (by omega) ?_) | (with_reducible refine s_fx b1 ?_) | (with_reducible refine s_inT ?_ ?_; · first | omega | decide | (simp (maxSteps := 400000) (disch := omega) only [b2, q_lit, q_neg, nI_ltI, nI_leI, nI_eq, nI_add, pk_mul, pk_sub, nI_clamp, vp_q, zu_same, zu_nc, zu_nj, ng_lt, ng_le, ng_gt, ng_ge, ng_eq, ng_qe, ng_ee, ng_add, not_false_eq_true, not_true_eq_false, ne_eq]; done) | (simp (maxSteps := 400000) (disch := omega) only [b2, q_lit, q_neg, nI_ltI, nI_leI, nI_eq, nI_add, pk_mul, pk_sub, nI_clamp, vp_q, zu_same, zu_nc, zu_nj, ng_lt, ng_le, ng_gt, ng_ge, ng_eq, ng_qe, ng_ee, ng_add, not_false_eq_true, not_true_eq_false, ne_eq]; omega)) | (with_reducible refine s_inF ?_ ?_; · first | omega | decide | (simp (maxSteps := 400000) (disch := omega) only [b2, q_lit, q_neg, nI_ltI, nI_leI, nI_eq, nI_add, pk_mul, pk_sub, nI_clamp, vp_q, zu_same, zu_nc, zu_nj, ng_lt, ng_le, ng_gt, ng_ge, ng_eq, ng_qe, ng_ee, ng_add, not_false_eq_true, not_true_eq_false, ne_eq]; done) | (simp (maxSteps := 400000) (disch := omega) only [b2, q_lit, q_neg, nI_ltI, nI_leI, nI_eq, nI_add, pk_mul, pk_sub, nI_clamp, vp_q, zu_same, zu_nc, zu_nj, ng_lt, ng_le, ng_gt, ng_ge, ng_eq, ng_qe, ng_ee, ng_add, not_false_eq_true, not_true_eq_false, ne_eq]; omega)) | (simp (maxSteps := 400000) (disch := omega) only [b2, q_lit, q_neg, nI_ltI, nI_leI, nI_eq, nI_add, pk_mul, pk_sub, nI_clamp, vp_q, zu_same, zu_nc, zu_nj, ng_lt, ng_le, ng_gt, ng_ge, ng_eq, ng_qe, ng_ee, ng_add, not_false_eq_true, not_true_eq_false, ne_eq]))
    exact k
def CInv (b : Nat → Nat) (m p : Nat) (I0 I : zI) : Prop := (∀ c j, c ≠ 21 + 12 * m → c ≠ 22 + 12 * m → I c j = I0 c j) ∧ (∀ q, q < p → I (21 + 12 * m) q = nI (b (4 + q)) ∧ I (22 + 12 * m) q = nI (szo b q)) ∧ (∀ q, p ≤ q → q < 400 → I (22 + 12 * m) q = 0)
theorem l_code {b : Nat → Nat} {t len loc m : Nat} {I0 : zI} {P : zP} {K : Int32 → zI → zP → Prop} (hP : PSt P) (hP2 : P 2 0 = some 1) (hm : m < 6) (ht : I0 2 1 = nI t) (ht4 : 4 ≤ t) (ht6 : t ≤ 600) (hlen : I0 (20 + 12 * m) 9 = nI len) (hl4 : len ≤ 400) (hloc : I0 (20 + 12 * m) 8 = nI loc) (hnum : I0 (20 + 12 * m) 0 = nI m) (hl : loc ≤ 12) (hb : ∀ j, j < 600 → b j < 256 ∧ I0 1 j = nI (b j))
    (k : ∀ r I, codeR b t len loc m r → (∀ c j, c ≠ 21 + 12 * m → c ≠ 22 + 12 * m → I c j = I0 c j) → (r = none → CInv b m len I0 I) → K (oI r) I P) :
    ∀ d p I, p + d = len → (∀ q, q < p → nxt b q = q → insF b t len loc m q = none) → CInv b m p I0 I → l_X5_codeFault_12 K (d + 1) (20 + 12 * m) (nI (nxt b p)) (nI p) I P := by
  intro d
  induction d with
  | zero =>
    intro p I hp hq hI
    obtain rfl : p = len := by omega
    rw [l_X5_codeFault_12]
    have h9 : I (20 + 12 * m) 9 = nI p := by rw [hI.1 _ _ (by omega) (by omega)]; exact hlen
    have hk := k none I (Or.inl ⟨rfl, hq⟩) hI.1 (fun _ => hI)
    (repeat first | (with_reducible refine zip ?_ ?_; · first | omega | decide | (simp (maxSteps := 400000) (disch := omega) only [h9, q_lit, q_neg, nI_ltI, nI_leI, nI_eq, nI_add, pk_mul, pk_sub, nI_clamp, vp_q, zu_same, zu_nc, zu_nj, ng_lt, ng_le, ng_gt, ng_ge, ng_eq, ng_qe, ng_ee, ng_add, not_false_eq_true, not_true_eq_false, ne_eq]; done) | (simp (maxSteps := 400000) (disch := omega) only [h9, q_lit, q_neg, nI_ltI, nI_leI, nI_eq, nI_add, pk_mul, pk_sub, nI_clamp, vp_q, zu_same, zu_nc, zu_nj, ng_lt, ng_le, ng_gt, ng_ge, ng_eq, ng_qe, ng_ee, ng_add, not_false_eq_true, not_true_eq_false, ne_eq]; omega)) | (with_reducible refine zin ?_ ?_; · first | omega | decide | (simp (maxSteps := 400000) (disch := omega) only [h9, q_lit, q_neg, nI_ltI, nI_leI, nI_eq, nI_add, pk_mul, pk_sub, nI_clamp, vp_q, zu_same, zu_nc, zu_nj, ng_lt, ng_le, ng_gt, ng_ge, ng_eq, ng_qe, ng_ee, ng_add, not_false_eq_true, not_true_eq_false, ne_eq]; done) | (simp (maxSteps := 400000) (disch := omega) only [h9, q_lit, q_neg, nI_ltI, nI_leI, nI_eq, nI_add, pk_mul, pk_sub, nI_clamp, vp_q, zu_same, zu_nc, zu_nj, ng_lt, ng_le, ng_gt, ng_ge, ng_eq, ng_qe, ng_ee, ng_add, not_false_eq_true, not_true_eq_false, ne_eq]; omega)) | (with_reducible refine And.intro ?_ ?_; · first | (first | exact shM (by omega) | exact shW (by omega) | exact shT (by omega) | exact shF (by omega) | exact shM1 (by omega) | exact shM2 (by omega) | exact shM3 (by omega) | exact shM4 (by omega) | exact shM5 (by omega) | exact shW0 (by omega) | exact shW1 (by omega) | exact shW2 (by omega) | exact shW3 (by omega) | exact shW4 (by omega) | exact shT0 (by omega) | exact shT1 (by omega) | exact shT2 (by omega) | exact shT3 (by omega) | exact shF0 (by omega) | exact shF1 (by omega)) | (first | omega | decide | (simp (maxSteps := 400000) (disch := omega) only [h9, q_lit, q_neg, nI_ltI, nI_leI, nI_eq, nI_add, pk_mul, pk_sub, nI_clamp, vp_q, zu_same, zu_nc, zu_nj, ng_lt, ng_le, ng_gt, ng_ge, ng_eq, ng_qe, ng_ee, ng_add, not_false_eq_true, not_true_eq_false, ne_eq]; done) | (simp (maxSteps := 400000) (disch := omega) only [h9, q_lit, q_neg, nI_ltI, nI_leI, nI_eq, nI_add, pk_mul, pk_sub, nI_clamp, vp_q, zu_same, zu_nc, zu_nj, ng_lt, ng_le, ng_gt, ng_ge, ng_eq, ng_qe, ng_ee, ng_add, not_false_eq_true, not_true_eq_false, ne_eq]; omega))) | (with_reducible apply zex; · first | (first | exact pM hP (by omega) | exact pT hP (by omega) | exact pF hP (by omega) | exact pM1 hP (by omega) | exact pM2 hP (by omega) | exact pM3 hP (by omega) | exact pM4 hP (by omega) | exact pM5 hP (by omega) | exact pM6 hP (by omega) | exact pW0 hP (by omega) | exact pW1 hP (by omega) | exact pW2 hP (by omega) | exact pW3 hP (by omega) | exact pW4 hP (by omega) | exact pT0 hP (by omega) | exact pT1 hP (by omega) | exact pT2 hP (by omega) | exact pT3 hP (by omega) | exact pF0 hP (by omega) | exact pF1 hP (by omega)) | (simp (maxSteps := 400000) (disch := omega) only [h9, q_lit, q_neg, nI_ltI, nI_leI, nI_eq, nI_add, pk_mul, pk_sub, nI_clamp, vp_q, zu_same, zu_nc, zu_nj, ng_lt, ng_le, ng_gt, ng_ge, ng_eq, ng_qe, ng_ee, ng_add, not_false_eq_true, not_true_eq_false, ne_eq]; first | exact pM hP (by omega) | exact pT hP (by omega) | exact pF hP (by omega) | exact pM1 hP (by omega) | exact pM2 hP (by omega) | exact pM3 hP (by omega) | exact pM4 hP (by omega) | exact pM5 hP (by omega) | exact pM6 hP (by omega) | exact pW0 hP (by omega) | exact pW1 hP (by omega) | exact pW2 hP (by omega) | exact pW3 hP (by omega) | exact pW4 hP (by omega) | exact pT0 hP (by omega) | exact pT1 hP (by omega) | exact pT2 hP (by omega) | exact pT3 hP (by omega) | exact pF0 hP (by omega) | exact pF1 hP (by omega))) | (with_reducible refine s_inT ?_ ?_; · first | omega | decide | (simp (maxSteps := 400000) (disch := omega) only [h9, q_lit, q_neg, nI_ltI, nI_leI, nI_eq, nI_add, pk_mul, pk_sub, nI_clamp, vp_q, zu_same, zu_nc, zu_nj, ng_lt, ng_le, ng_gt, ng_ge, ng_eq, ng_qe, ng_ee, ng_add, not_false_eq_true, not_true_eq_false, ne_eq]; done) | (simp (maxSteps := 400000) (disch := omega) only [h9, q_lit, q_neg, nI_ltI, nI_leI, nI_eq, nI_add, pk_mul, pk_sub, nI_clamp, vp_q, zu_same, zu_nc, zu_nj, ng_lt, ng_le, ng_gt, ng_ge, ng_eq, ng_qe, ng_ee, ng_add, not_false_eq_true, not_true_eq_false, ne_eq]; omega)) | (with_reducible refine s_inF ?_ ?_; · first | omega | decide | (simp (maxSteps := 400000) (disch := omega) only [h9, q_lit, q_neg, nI_ltI, nI_leI, nI_eq, nI_add, pk_mul, pk_sub, nI_clamp, vp_q, zu_same, zu_nc, zu_nj, ng_lt, ng_le, ng_gt, ng_ge, ng_eq, ng_qe, ng_ee, ng_add, not_false_eq_true, not_true_eq_false, ne_eq]; done) | (simp (maxSteps := 400000) (disch := omega) only [h9, q_lit, q_neg, nI_ltI, nI_leI, nI_eq, nI_add, pk_mul, pk_sub, nI_clamp, vp_q, zu_same, zu_nc, zu_nj, ng_lt, ng_le, ng_gt, ng_ge, ng_eq, ng_qe, ng_ee, ng_add, not_false_eq_true, not_true_eq_false, ne_eq]; omega)) | (simp (maxSteps := 400000) (disch := omega) only [h9, q_lit, q_neg, nI_ltI, nI_leI, nI_eq, nI_add, pk_mul, pk_sub, nI_clamp, vp_q, zu_same, zu_nc, zu_nj, ng_lt, ng_le, ng_gt, ng_ge, ng_eq, ng_qe, ng_ee, ng_add, not_false_eq_true, not_true_eq_false, ne_eq]))
    exact hk
  | succ d ih =>
    intro p I hp hq hI
    rw [l_X5_codeFault_12]
    obtain ⟨i1, i2, i3⟩ := hI
    have h9 : I (20 + 12 * m) 9 = nI len := by rw [i1 _ _ (by omega) (by omega)]; exact hlen
    have h8 : I (20 + 12 * m) 8 = nI loc := by rw [i1 _ _ (by omega) (by omega)]; exact hloc
    have h0 : I (20 + 12 * m) 0 = nI m := by rw [i1 _ _ (by omega) (by omega)]; exact hnum
    have h2 : I 2 1 = nI t := by rw [i1 _ _ (by omega) (by omega)]; exact ht
    have hbI : ∀ j, j < 600 → b j < 256 ∧ I 1 j = nI (b j) := fun j hj => ⟨(hb j hj).1, by rw [i1 _ _ (by omega) (by omega)]; exact (hb j hj).2⟩
    have ge := nxt_ge b (len := p) (fun q hq1 hq2 => (insF_n (hq q hq1 hq2)).2.2.1) p (Nat.le_refl _)
    have nin := nxt_in ht4 hq p (Nat.le_refl _)
    refine ⟨shM hm, zin (by rw [h9]; exact nI_ge (by omega) (by omega)) ?_⟩
    by_cases hn : nxt b p = p
    · rw [hn]
      refine zip rfl ?_
      by_cases hf : insF b t len loc m p = none
      · obtain ⟨g0, -, g1, g2, g3, g4, -, -⟩ := insF_n hf
        have hq' : ∀ q, q < p + 1 → nxt b q = q → insF b t len loc m q = none := fun q h1 h2 => by
          by_cases e : q = p
          · subst e; exact hf
          · exact hq q (by omega) h2
        refine s_insF hP hP2 hm h2 ht6 h9 hl4 h8 h0 hl hbI (by omega) ?_
        rw [hf]
        have e4 : (4 : Int32) + nI p = nI (4 + p) := by rw [show (4 : Int32) = nI 4 from rfl, nI_add]
        refine zip rfl ⟨1, hP2, ?_⟩
        rw [e4]
        refine s_szAt hbI (by omega) ⟨_, pM2 hP hm, shM2 hm, ?_, ?_⟩
        · rw [zzM2 hm]; exact vp_in_nI (by omega) (by decide)
        have es : nI p + nI (opz (b (4 + p)) (b (4 + p + 1))) - nI p = nI (opz (b (4 + p)) (b (4 + p + 1))) := by rw [nI_add, pk_sub (by omega)]; congr 1; omega
        rw [es, nI_clamp (by omega)]
        unfold j_X5_codeFault_64
        have hz : (zu I (22 + 12 * m) p (nI (opz (b (4 + p)) (b (4 + p + 1))))) 1 (4 + p) = nI (b (4 + p)) := by rw [zu_nc (by omega)]; exact (hbI _ (by omega)).2
        refine ⟨shM hm, _, pM1 hP hm, 1, hP2, ?_⟩
        rw [e4]
        refine s_byte sh1 zz1 (by decide) (by omega) ⟨shM1 hm, ?_, ?_⟩
        · rw [zzM1 hm]; exact vp_in_nI (by omega) (by decide)
        rw [hz, nI_clamp (by omega), nI_1, nI_add]
        have hih := ih (p + 1) (zu (zu I (22 + 12 * m) p (nI (opz (b (4 + p)) (b (4 + p + 1))))) (21 + 12 * m) p (nI (b (4 + p)))) (by omega) hq' ⟨?_, ?_, ?_⟩
        · rw [nxt, if_pos hn] at hih
          exact hih
        · intro c j c1 c2
          rw [zu_nc c1, zu_nc c2]; exact i1 c j c1 c2
        · intro q hq1
          by_cases e : q = p
          · subst e
            refine ⟨zu_same, ?_⟩
            rw [zu_nc (by omega), zu_same]
            unfold szo
            rw [if_pos hn]
          · rw [zu_nj e, zu_nj e, zu_nj e, zu_nj e]
            exact i2 q (by omega)
        · intro q hq1 hq2
          rw [zu_nc (by omega), zu_nj (by omega)]
          exact i3 q (by omega) hq2
      · refine s_insF hP hP2 hm h2 ht6 h9 hl4 h8 h0 hl hbI (by omega) (zin ?_ ?_)
        · intro e
          cases hr : insF b t len loc m p with
          | none => exact hf hr
          | some a =>
            rw [hr] at e
            have : a < 2 ^ 31 := by
              unfold insF at hr
              revert hr
              (repeat' split) <;> (intro hr; cases hr) <;> omega
            exact absurd ((ng_eq (a := a) (b := 1) this (by decide)).mp e) (by omega)
        · exact k _ I (Or.inr ⟨hf, p, by omega, hn, rfl, hq⟩) i1 (fun e => absurd e hf)
    · refine zin (fun e => hn ((nI_eq (by omega) ?_).mp e).symm) ?_
      · omega
      unfold j_X5_codeFault_64
      have e4 : (4 : Int32) + nI p = nI (4 + p) := by rw [show (4 : Int32) = nI 4 from rfl, nI_add]
      refine ⟨shM hm, _, pM1 hP hm, 1, hP2, ?_⟩
      rw [e4]
      refine s_byte sh1 zz1 (by decide) (by omega) ⟨shM1 hm, ?_, ?_⟩
      · rw [zzM1 hm]; exact vp_in_nI (by omega) (by decide)
      rw [(hbI _ (by omega : 4 + p < 600)).2, nI_clamp (by omega), nI_1]
      have hih := ih (p + 1) (zu I (21 + 12 * m) p (nI (b (4 + p)))) (by omega) (fun q h1 h2 => hq q (by by_cases e : q = p; exact absurd (e ▸ h2) hn; omega) h2) ⟨?_, ?_, ?_⟩
      · rw [nxt, if_neg hn] at hih
        exact hih
      · intro c j c1 c2
        rw [zu_nc c1]; exact i1 c j c1 c2
      · intro q hq1
        by_cases e : q = p
        · subst e
          refine ⟨zu_same, ?_⟩
          rw [zu_nc (by omega), i3 q (by omega) (by omega)]
          unfold szo
          rw [if_neg hn]; rfl
        · rw [zu_nj e, zu_nj e]
          exact i2 q (by omega)
      · intro q hq1 hq2
        rw [zu_nc (by omega)]
        exact i3 q (by omega) hq2
