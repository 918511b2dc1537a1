/-! PURE 44: the loom's weaver: counting and laying -/
theorem nq0 : nI 0 = 0 := rfl
theorem nq1 : nI 1 = 1 := rfl
theorem nq2 : nI 2 = 2 := rfl
theorem nq3 : nI 3 = 3 := rfl
def Fr7 (I J : zI) : Prop := ∀ c j, ¬ (7 ≤ c ∧ c ≤ 18) → J c j = I c j
def LQ (B : Nat → Nat → Nat) (w : Nat) (I : zI) : Prop := w ≤ 24 ∧ I 108 5 = nI w ∧ ∀ q, q < w → I 109 q = nI (B 0 q) ∧ I 110 q = nI (B 1 q) ∧ I 111 q = nI (B 2 q)
def BQ (A : Nat → Nat → Nat) (m : Nat) (B : Nat → Nat → Nat) (w : Nat) : Prop := ∀ q, q < w → B 0 q < 8 ∧ B 1 q < 6 ∧ B 2 q < 400 ∧ (B 1 q = m → B 2 q < A 0 2 ∧ 0 < A 2 (B 2 q) ∧ fitP A (B 0 q) (B 2 q))
def CL (A : Nat → Nat → Nat) (m : Nat) (B : Nat → Nat → Nat) (w : Nat) (I : zI) : Prop := LM0 A m I ∧ I (20 + 12 * m) 0 = nI m ∧ LQ B w I
theorem LM0_c {A : Nat → Nat → Nat} {m : Nat} {I J : zI} (h : LM0 A m I) (f : ∀ c j, 20 + 12 * m ≤ c → c ≤ 25 + 12 * m → J c j = I c j) : LM0 A m J := by
  obtain ⟨h1, h2, h3, h4, h5, h6⟩ := h
  exact ⟨by rw [f _ _ (by omega) (by omega)]; exact h1, by rw [f _ _ (by omega) (by omega)]; exact h2, by rw [f _ _ (by omega) (by omega)]; exact h3, by rw [f _ _ (by omega) (by omega)]; exact h4, fun p hp => ⟨by rw [f _ _ (by omega) (by omega)]; exact (h5 p hp).1, by rw [f _ _ (by omega) (by omega)]; exact (h5 p hp).2⟩, fun k hk => by rw [f _ _ (by omega) (by omega)]; exact h6 k hk⟩
theorem LQ_c {B : Nat → Nat → Nat} {w : Nat} {I J : zI} (h : LQ B w I) (f : ∀ c j, 108 ≤ c → c ≤ 111 → J c j = I c j) : LQ B w J := by
  obtain ⟨h1, h2, h3⟩ := h
  exact ⟨h1, by rw [f _ _ (by omega) (by omega)]; exact h2, fun q hq => ⟨by rw [f _ _ (by omega) (by omega)]; exact (h3 q hq).1, by rw [f _ _ (by omega) (by omega)]; exact (h3 q hq).2.1, by rw [f _ _ (by omega) (by omega)]; exact (h3 q hq).2.2⟩⟩
theorem CL_c {A B : Nat → Nat → Nat} {m w : Nat} {I J : zI} (h : CL A m B w I) (f : ∀ c j, (20 + 12 * m ≤ c ∧ c ≤ 25 + 12 * m) ∨ (108 ≤ c ∧ c ≤ 111) → J c j = I c j) : CL A m B w J :=
  ⟨LM0_c h.1 (fun c j a b => f c j (Or.inl ⟨a, b⟩)), by rw [f _ _ (by omega)]; exact h.2.1, LQ_c h.2.2 (fun c j a b => f c j (Or.inr ⟨a, b⟩))⟩
theorem CL_7 {A B : Nat → Nat → Nat} {m w : Nat} {I J : zI} (h : CL A m B w I) (f : Fr7 I J) : CL A m B w J := CL_c h (fun c j q => f c j (by omega))
theorem sh8 : SHy[8]? = some (11, zlen 8) := by decide +kernel
theorem sh9 : SHy[9]? = some (11, zlen 9) := by decide +kernel
theorem sh10 : SHy[10]? = some (11, zlen 10) := by decide +kernel
theorem sh11 : SHy[11]? = some (11, zlen 11) := by decide +kernel
theorem zz8 : zlen 8 = 400 := by decide +kernel
theorem zz9 : zlen 9 = 400 := by decide +kernel
theorem zz10 : zlen 10 = 400 := by decide +kernel
theorem zz11 : zlen 11 = 400 := by decide +kernel
theorem s_anew {I : zI} {P : zP} {K : zI → zP → Prop} (k : ∀ J, Fr7 I J → (∀ p, p < 400 → J 8 p = 0 ∧ J 9 p = 0 ∧ J 10 p = 0 ∧ J 11 p = 0) → (∀ p, p < 400 → J 16 p = 0 ∧ J 17 p = 0) → (∀ q, q < 8 → J 18 q = 0) → J 7 11 = 0 → J 7 12 = 0 → K J P) : w_X7_startAnew I P K := by
  unfold w_X7_startAnew
  have l2 : ∀ d i J, i + d = 8 → Fr7 I J → (∀ p, p < 400 → J 8 p = 0 ∧ J 9 p = 0 ∧ J 10 p = 0 ∧ J 11 p = 0) → (∀ p, p < 400 → J 16 p = 0 ∧ J 17 p = 0) → (∀ q, q < i → J 18 q = 0) → l_X7_startAnew_63 K (d + 1) (nI i) J P := by
    intro d
    induction d with
    | zero =>
      intro i J hi f h1 h2 h3
      obtain rfl : i = 8 := by omega
      rw [l_X7_startAnew_63]
      refine zip (by decide) (k _ (fun c j h => by rw [zu_nc (by omega), zu_nc (by omega)]; exact f c j h) (fun p hp => ?_) (fun p hp => ?_) (fun q hq => ?_) ?_ ?_)
      · rw [zu_nc (by omega), zu_nc (by omega), zu_nc (by omega), zu_nc (by omega), zu_nc (by omega), zu_nc (by omega), zu_nc (by omega), zu_nc (by omega)]; exact h1 p hp
      · rw [zu_nc (by omega), zu_nc (by omega), zu_nc (by omega), zu_nc (by omega)]; exact h2 p hp
      · rw [zu_nc (by omega), zu_nc (by omega)]; exact h3 q hq
      · rw [zu_nj (by omega), zu_same]
      · rw [zu_same]
    | succ d ih =>
      intro i J hi f h1 h2 h3
      rw [l_X7_startAnew_63, nI_1, nI_clamp (by omega), nar0]
      refine zin (by first | omega | decide | (simp (maxSteps := 400000) (disch := omega) only [q_lit, q_neg, nI_ltI, nI_leI, nI_eq, nI_add, pk_mul, pk_sub, nI_clamp, vp_q, zu_same, zu_nc, zu_nj, ng_lt, ng_le, ng_gt, ng_ge, ng_eq, ng_qe, ng_ee, ng_add, not_false_eq_true, not_true_eq_false, ne_eq]; done) | (simp (maxSteps := 400000) (disch := omega) only [q_lit, q_neg, nI_ltI, nI_leI, nI_eq, nI_add, pk_mul, pk_sub, nI_clamp, vp_q, zu_same, zu_nc, zu_nj, ng_lt, ng_le, ng_gt, ng_ge, ng_eq, ng_qe, ng_ee, ng_add, not_false_eq_true, not_true_eq_false, ne_eq]; omega)) ⟨vp_in_nI (by omega) (by decide), ih (i + 1) _ (by omega) (fun c j h => by rw [zu_nc (by omega)]; exact f c j h) (fun p hp => ?_) (fun p hp => ?_) (fun q hq => ?_)⟩
      · rw [zu_nc (by omega), zu_nc (by omega), zu_nc (by omega), zu_nc (by omega)]; exact h1 p hp
      · rw [zu_nc (by omega), zu_nc (by omega)]; exact h2 p hp
      · by_cases e : q = i
        · rw [e, zu_same]
        · rw [zu_nj e]; exact h3 q (by omega)
  have l1 : ∀ d i J, i + d = 400 → Fr7 I J → (∀ p, p < 400 → J 8 p = 0 ∧ J 9 p = 0 ∧ J 10 p = 0 ∧ J 11 p = 0) → (∀ p, p < i → J 16 p = 0 ∧ J 17 p = 0) → l_X7_startAnew_34 K (d + 1) (nI i) J P := by
    intro d
    induction d with
    | zero =>
      intro i J hi f h1 h2
      obtain rfl : i = 400 := by omega
      rw [l_X7_startAnew_34]
      exact zip (by decide) ⟨9, l2 8 0 J (by omega) f h1 h2 (fun q hq => absurd hq (by omega))⟩
    | succ d ih =>
      intro i J hi f h1 h2
      rw [l_X7_startAnew_34, nI_1, nI_clamp (by omega), nar0]
      refine zin (by first | omega | decide | (simp (maxSteps := 400000) (disch := omega) only [q_lit, q_neg, nI_ltI, nI_leI, nI_eq, nI_add, pk_mul, pk_sub, nI_clamp, vp_q, zu_same, zu_nc, zu_nj, ng_lt, ng_le, ng_gt, ng_ge, ng_eq, ng_qe, ng_ee, ng_add, not_false_eq_true, not_true_eq_false, ne_eq]; done) | (simp (maxSteps := 400000) (disch := omega) only [q_lit, q_neg, nI_ltI, nI_leI, nI_eq, nI_add, pk_mul, pk_sub, nI_clamp, vp_q, zu_same, zu_nc, zu_nj, ng_lt, ng_le, ng_gt, ng_ge, ng_eq, ng_qe, ng_ee, ng_add, not_false_eq_true, not_true_eq_false, ne_eq]; omega)) ⟨vp_in_nI (by omega) (by decide), vp_in_nI (by omega) (by decide), ih (i + 1) _ (by omega) (fun c j h => by rw [zu_nc (by omega), zu_nc (by omega)]; exact f c j h) (fun p hp => ?_) (fun p hp => ?_)⟩
      · rw [zu_nc (by omega), zu_nc (by omega), zu_nc (by omega), zu_nc (by omega), zu_nc (by omega), zu_nc (by omega), zu_nc (by omega), zu_nc (by omega)]; exact h1 p hp
      · by_cases e : p = i
        · rw [e, zu_nc (by omega), zu_same, zu_same]; exact ⟨rfl, rfl⟩
        · rw [zu_nc (by omega), zu_nj e, zu_nj e, zu_nc (by omega)]; exact h2 p (by omega)
  refine s_fill sh8 zz8 (by decide) (s_fill sh9 zz9 (by decide) (s_fill sh10 zz10 (by decide) (s_fill sh11 zz11 (by decide) ⟨401, l1 400 0 _ (by omega) (fun c j h => ?_) (fun p hp => ?_) (fun p hp => absurd hp (by omega))⟩)))
  · rw [flI_out (by omega), flI_out (by omega), flI_out (by omega), flI_out (by omega)]
  · refine ⟨?_, ?_, ?_, ?_⟩
    · rw [flI_out (by omega), flI_out (by omega), flI_out (by omega), flI_in hp]
    · rw [flI_out (by omega), flI_out (by omega), flI_in hp]
    · rw [flI_out (by omega), flI_in hp]
    · rw [flI_in hp]
theorem s_cp {s p : Nat} {J : zI} {P : zP} {K : zI → zP → Prop} (hs : s < 8) (hp : p < 400) (k : ∀ J', (∀ c j, ¬ (8 ≤ c ∧ c ≤ 11 ∧ j = p) → ¬ (c = 7 ∧ (j = 11 ∨ j = 12)) → J' c j = J c j) → J' 8 p = J 8 p + nI (if s = 0 ∨ s = 6 ∨ s = 4 then 2 else 0) → J' 9 p = J 9 p + nI (if s = 1 then 3 else if s = 4 ∨ s = 7 then 2 else 0) → J' 10 p = J 10 p + nI (if s = 1 then 1 else 0) → J' 11 p = J 11 p + nI (if s = 5 then 1 else 0) → J' 7 11 = J 7 11 + nI (if s = 2 then 1 else 0) → J' 7 12 = J 7 12 + nI (if s = 3 then 1 else 0) → K J' P) : w_X7_countProbe (nI s) (nI p) J P K := by
  unfold w_X7_countProbe
  rw [nI_clamp (by omega)]
  have v : vp_in (nI p) 400 := vp_in_nI hp (by decide)
  rcases (by omega : s = 0 ∨ s = 1 ∨ s = 2 ∨ s = 3 ∨ s = 4 ∨ s = 5 ∨ s = 6 ∨ s = 7) with rfl | rfl | rfl | rfl | rfl | rfl | rfl | rfl
  · refine zip (by decide) ⟨v, v, k _ (fun c j a b => by rw [zu_ne (by omega)]) ?_ ?_ ?_ ?_ ?_ ?_⟩ <;> simp [zu, nq0, nq1, nq2, nq3]
  · refine zin (by decide) (zip (by decide) ⟨v, v, v, v, k _ (fun c j a b => by rw [zu_ne (by omega), zu_ne (by omega)]) ?_ ?_ ?_ ?_ ?_ ?_⟩) <;> simp [zu, nq0, nq1, nq2, nq3]
  · refine zin (by decide) (zin (by decide) (zip (by decide) (k _ (fun c j a b => by rw [zu_ne (by omega)]) ?_ ?_ ?_ ?_ ?_ ?_))) <;> simp [zu, nq0, nq1, nq2, nq3]
  · refine zin (by decide) (zin (by decide) (zin (by decide) (zip (by decide) (k _ (fun c j a b => by rw [zu_ne (by omega)]) ?_ ?_ ?_ ?_ ?_ ?_)))) <;> simp [zu, nq0, nq1, nq2, nq3]
  · refine zin (by decide) (zin (by decide) (zin (by decide) (zin (by decide) (zip (by decide) ⟨v, v, v, v, k _ (fun c j a b => by rw [zu_ne (by omega), zu_ne (by omega)]) ?_ ?_ ?_ ?_ ?_ ?_⟩)))) <;> simp [zu, nq0, nq1, nq2, nq3]
  · refine zin (by decide) (zin (by decide) (zin (by decide) (zin (by decide) (zin (by decide) (zip (by decide) ⟨v, v, k _ (fun c j a b => by rw [zu_ne (by omega)]) ?_ ?_ ?_ ?_ ?_ ?_⟩))))) <;> simp [zu, nq0, nq1, nq2, nq3]
  · refine zin (by decide) (zin (by decide) (zin (by decide) (zin (by decide) (zin (by decide) (zin (by decide) (zip (by decide) ⟨v, v, k _ (fun c j a b => by rw [zu_ne (by omega)]) ?_ ?_ ?_ ?_ ?_ ?_⟩)))))) <;> simp [zu, nq0, nq1, nq2, nq3]
  · refine zin (by decide) (zin (by decide) (zin (by decide) (zin (by decide) (zin (by decide) (zin (by decide) (zin (by decide) ⟨v, v, k _ (fun c j a b => by rw [zu_ne (by omega)]) ?_ ?_ ?_ ?_ ?_ ?_⟩)))))) <;> simp [zu, nq0, nq1, nq2, nq3]
/-- what was counted -/
def LCn (A : Nat → Nat → Nat) (m : Nat) (B : Nat → Nat → Nat) (w : Nat) (J : zI) : Prop :=
  (∀ p, p < A 0 2 → 0 < A 2 p → J 8 p = nI (ahn A m B w p) ∧ J 9 p = nI (bhn m B w p)) ∧ (∀ p, p < 400 → J 10 p = nI (cnq B m 1 p w) ∧ J 11 p = nI (cnq B m 5 p w)) ∧ J 7 11 = nI (cnq B m 2 0 w) ∧ J 7 12 = nI (cnq B m 3 0 w)
def cn1 (m : Nat) (B : Nat → Nat → Nat) (q : Nat) (J : zI) : Prop :=
  (∀ p, p < 400 → J 8 p = nI (2 * (cnq B m 0 p q + cnq B m 6 p q) + 2 * cnq B m 4 p q) ∧ J 9 p = nI (bhn m B q p) ∧ J 10 p = nI (cnq B m 1 p q) ∧ J 11 p = nI (cnq B m 5 p q)) ∧ J 7 11 = nI (cnq B m 2 0 q) ∧ J 7 12 = nI (cnq B m 3 0 q)
theorem s_cnt {A B : Nat → Nat → Nat} {m w : Nat} {I : zI} {P : zP} {K : zI → zP → Prop} (hP : PSt P) (hm : m < 6) (hB : W0 A m) (hC : CL A m B w I) (hQ : BQ A m B w) (h0 : ∀ p, p < 400 → I 8 p = 0 ∧ I 9 p = 0 ∧ I 10 p = 0 ∧ I 11 p = 0) (h11 : I 7 11 = 0) (h12 : I 7 12 = 0) (k : ∀ J, (∀ c j, ¬ (7 ≤ c ∧ c ≤ 11) → J c j = I c j) → LCn A m B w J → K J P) : w_X7_countProbes (20 + 12 * m) I P K := by
  have hw := hC.2.2.1
  have h400 := hB.2.2.2.2.1
  have l2 : ∀ d i J, i + d = A 0 2 → (∀ c j, ¬ (7 ≤ c ∧ c ≤ 11) → J c j = I c j) → (∀ p, p < 400 → J 8 p = nI (2 * (cnq B m 0 p w + cnq B m 6 p w) + (if p < i ∧ 0 < A 2 p ∧ A 1 p = 42 then 2 * cnq B m 3 0 w else 0) + 2 * cnq B m 4 p w) ∧ J 9 p = nI (bhn m B w p) ∧ J 10 p = nI (cnq B m 1 p w) ∧ J 11 p = nI (cnq B m 5 p w)) → J 7 11 = nI (cnq B m 2 0 w) → J 7 12 = nI (cnq B m 3 0 w) → l_X7_countProbes_66 K (d + 1) (20 + 12 * m) (nI i) J P := by
    intro d
    induction d with
    | zero =>
      intro i J hi f h1 h2 h3
      rw [l_X7_countProbes_66]
      refine ⟨shM hm, zip (by rw [f _ _ (by omega), hC.1.2.2.1]; first | omega | decide | (simp (maxSteps := 400000) (disch := omega) only [q_lit, q_neg, nI_ltI, nI_leI, nI_eq, nI_add, pk_mul, pk_sub, nI_clamp, vp_q, zu_same, zu_nc, zu_nj, ng_lt, ng_le, ng_gt, ng_ge, ng_eq, ng_qe, ng_ee, ng_add, not_false_eq_true, not_true_eq_false, ne_eq]; done) | (simp (maxSteps := 400000) (disch := omega) only [q_lit, q_neg, nI_ltI, nI_leI, nI_eq, nI_add, pk_mul, pk_sub, nI_clamp, vp_q, zu_same, zu_nc, zu_nj, ng_lt, ng_le, ng_gt, ng_ge, ng_eq, ng_qe, ng_ee, ng_add, not_false_eq_true, not_true_eq_false, ne_eq]; omega)) (k J f ⟨fun p hp hz => ?_, fun p hp => (h1 p hp).2.2, h2, h3⟩)⟩
      obtain ⟨a, b, -⟩ := h1 p (by omega)
      refine ⟨?_, b⟩
      rw [a]; unfold ahn
      by_cases e : A 1 p = 42
      · rw [if_pos ⟨by omega, hz, e⟩, if_pos e]
      · rw [if_neg (fun q => e q.2.2), if_neg e]
    | succ d ih =>
      intro i J hi f h1 h2 h3
      have hCJ : CL A m B w J := CL_c hC (fun c j q => f c j (by omega))
      have v : vp_in (nI i) 400 := vp_in_nI (by omega) (by decide)
      rw [l_X7_countProbes_66, nI_1]
      refine ⟨shM hm, zin (by rw [f _ _ (by omega), hC.1.2.2.1]; first | omega | decide | (simp (maxSteps := 400000) (disch := omega) only [q_lit, q_neg, nI_ltI, nI_leI, nI_eq, nI_add, pk_mul, pk_sub, nI_clamp, vp_q, zu_same, zu_nc, zu_nj, ng_lt, ng_le, ng_gt, ng_ge, ng_eq, ng_qe, ng_ee, ng_add, not_false_eq_true, not_true_eq_false, ne_eq]; done) | (simp (maxSteps := 400000) (disch := omega) only [q_lit, q_neg, nI_ltI, nI_leI, nI_eq, nI_add, pk_mul, pk_sub, nI_clamp, vp_q, zu_same, zu_nc, zu_nj, ng_lt, ng_le, ng_gt, ng_ge, ng_eq, ng_qe, ng_ee, ng_add, not_false_eq_true, not_true_eq_false, ne_eq]; omega)) ?_⟩
      by_cases hz : 0 < A 2 i
      · refine s_bg1 hP hm hCJ.1 hB ⟨i, by omega, rfl, hz⟩ (zin (by decide) ⟨_, pM1 hP hm, shM1 hm, by rw [zzM1 hm]; exact v, ?_⟩)
        rw [nI_clamp (by omega), (hCJ.1.2.2.2.2.1 i (by omega)).1]
        have := hB.2.2.2.2.2.2.1 i
        by_cases e : A 1 i = 42
        · refine zip (by rw [e]; rfl) ⟨v, v, ih (i + 1) _ (by omega) (fun c j q => by rw [zu_nc (by omega)]; exact f c j q) (fun p hp => ?_) (by rw [zu_nc (by omega)]; exact h2) (by rw [zu_nc (by omega)]; exact h3)⟩
          obtain ⟨a, b, c, d'⟩ := h1 p hp
          rw [zu_nc (a := 9) (by omega), zu_nc (a := 10) (by omega), zu_nc (a := 11) (by omega)]
          refine ⟨?_, b, c, d'⟩
          by_cases e2 : p = i
          · subst e2
            rw [zu_same, a, h3, if_neg (by omega), if_pos ⟨by omega, hz, e⟩, ← nq2, pk_mul, nI_add]; congr 1; omega
          · rw [zu_nj e2, a]
            by_cases z : p < i ∧ 0 < A 2 p ∧ A 1 p = 42
            · rw [if_pos z, if_pos ⟨by omega, z.2⟩]
            · rw [if_neg z, if_neg (fun q => z ⟨by omega, q.2⟩)]
        · refine zin (by first | omega | decide | (simp (maxSteps := 400000) (disch := omega) only [q_lit, q_neg, nI_ltI, nI_leI, nI_eq, nI_add, pk_mul, pk_sub, nI_clamp, vp_q, zu_same, zu_nc, zu_nj, ng_lt, ng_le, ng_gt, ng_ge, ng_eq, ng_qe, ng_ee, ng_add, not_false_eq_true, not_true_eq_false, ne_eq]; done) | (simp (maxSteps := 400000) (disch := omega) only [q_lit, q_neg, nI_ltI, nI_leI, nI_eq, nI_add, pk_mul, pk_sub, nI_clamp, vp_q, zu_same, zu_nc, zu_nj, ng_lt, ng_le, ng_gt, ng_ge, ng_eq, ng_qe, ng_ee, ng_add, not_false_eq_true, not_true_eq_false, ne_eq]; omega)) (ih (i + 1) J (by omega) f (fun p hp => ?_) h2 h3)
          obtain ⟨a, b⟩ := h1 p hp
          refine ⟨?_, b⟩
          rw [a]
          by_cases z : p < i ∧ 0 < A 2 p ∧ A 1 p = 42
          · rw [if_pos z, if_pos ⟨by omega, z.2⟩]
          · rw [if_neg z, if_neg (fun q => z ⟨(by by_cases e2 : p = i
                                                  · rw [e2] at q; exact absurd q.2.2 e
                                                  · omega), q.2⟩)]
      · refine s_bg0 hP hm hCJ.1 hB ?_ (zip rfl (ih (i + 1) J (by omega) f (fun p hp => ?_) h2 h3))
        · rintro ⟨j, hj, e, hz'⟩
          rw [nI_eq (by omega) (by omega)] at e; rw [← e] at hz'; exact hz hz'
        · obtain ⟨a, b⟩ := h1 p hp
          refine ⟨?_, b⟩
          rw [a]
          by_cases z : p < i ∧ 0 < A 2 p ∧ A 1 p = 42
          · rw [if_pos z, if_pos ⟨by omega, z.2⟩]
          · rw [if_neg z, if_neg (fun q => z ⟨(by by_cases e2 : p = i
                                                  · rw [e2] at q; exact absurd q.2.1 hz
                                                  · omega), q.2⟩)]
  have l1 : ∀ d q J, q + d = w → (∀ c j, ¬ (7 ≤ c ∧ c ≤ 11) → J c j = I c j) → cn1 m B q J → l_X7_countProbes_2 K (d + 1) (20 + 12 * m) (nI q) J P := by
    intro d
    induction d with
    | zero =>
      intro q J hq f ⟨h1, h2, h3⟩
      obtain rfl : q = w := by omega
      rw [l_X7_countProbes_2]
      refine zip (by rw [f _ _ (by omega), hC.2.2.2.1]; first | omega | decide | (simp (maxSteps := 400000) (disch := omega) only [q_lit, q_neg, nI_ltI, nI_leI, nI_eq, nI_add, pk_mul, pk_sub, nI_clamp, vp_q, zu_same, zu_nc, zu_nj, ng_lt, ng_le, ng_gt, ng_ge, ng_eq, ng_qe, ng_ee, ng_add, not_false_eq_true, not_true_eq_false, ne_eq]; done) | (simp (maxSteps := 400000) (disch := omega) only [q_lit, q_neg, nI_ltI, nI_leI, nI_eq, nI_add, pk_mul, pk_sub, nI_clamp, vp_q, zu_same, zu_nc, zu_nj, ng_lt, ng_le, ng_gt, ng_ge, ng_eq, ng_qe, ng_ee, ng_add, not_false_eq_true, not_true_eq_false, ne_eq]; omega)) ⟨_, l2 (A 0 2) 0 J (by omega) f (fun p hp => ?_) h2 h3⟩
      obtain ⟨a, b⟩ := h1 p hp
      exact ⟨by rw [a, if_neg (by omega), Nat.add_zero], b⟩
    | succ d ih =>
      intro q J hq f ⟨h1, h2, h3⟩
      have hCJ : CL A m B w J := CL_c hC (fun c j q => f c j (by omega))
      have v : vp_in (nI q) 24 := vp_in_nI (by omega) (by decide)
      obtain ⟨r9, r10, r11⟩ := hCJ.2.2.2.2 q (by omega)
      obtain ⟨q1, q2, q3, q4⟩ := hQ q (by omega)
      rw [l_X7_countProbes_2, nI_1]
      refine zin (by rw [hCJ.2.2.2.1]; first | omega | decide | (simp (maxSteps := 400000) (disch := omega) only [q_lit, q_neg, nI_ltI, nI_leI, nI_eq, nI_add, pk_mul, pk_sub, nI_clamp, vp_q, zu_same, zu_nc, zu_nj, ng_lt, ng_le, ng_gt, ng_ge, ng_eq, ng_qe, ng_ee, ng_add, not_false_eq_true, not_true_eq_false, ne_eq]; done) | (simp (maxSteps := 400000) (disch := omega) only [q_lit, q_neg, nI_ltI, nI_leI, nI_eq, nI_add, pk_mul, pk_sub, nI_clamp, vp_q, zu_same, zu_nc, zu_nj, ng_lt, ng_le, ng_gt, ng_ge, ng_eq, ng_qe, ng_ee, ng_add, not_false_eq_true, not_true_eq_false, ne_eq]; omega)) (zin (by first | omega | decide | (simp (maxSteps := 400000) (disch := omega) only [q_lit, q_neg, nI_ltI, nI_leI, nI_eq, nI_add, pk_mul, pk_sub, nI_clamp, vp_q, zu_same, zu_nc, zu_nj, ng_lt, ng_le, ng_gt, ng_ge, ng_eq, ng_qe, ng_ee, ng_add, not_false_eq_true, not_true_eq_false, ne_eq]; done) | (simp (maxSteps := 400000) (disch := omega) only [q_lit, q_neg, nI_ltI, nI_leI, nI_eq, nI_add, pk_mul, pk_sub, nI_clamp, vp_q, zu_same, zu_nc, zu_nj, ng_lt, ng_le, ng_gt, ng_ge, ng_eq, ng_qe, ng_ee, ng_add, not_false_eq_true, not_true_eq_false, ne_eq]; omega)) ⟨v, v, shM hm, ?_⟩)
      rw [nI_clamp (by omega), r10, r11, hCJ.2.1]
      by_cases ho : B 1 q = m
      · obtain ⟨g1, g2, g3⟩ := q4 ho
        refine zip (by rw [ho]) (s_bg1 hP hm hCJ.1 hB ⟨_, g1, rfl, g2⟩ (zin (by decide) ⟨v, ?_⟩))
        rw [r9]
        refine s_cp q1 q3 (fun J' f' y8 y9 y10 y11 z1 z2 => ih (q + 1) J' (by omega) (fun c j h => by rw [f' c j (by omega) (by omega)]; exact f c j h) ⟨fun p hp => ?_, ?_, ?_⟩)
        · obtain ⟨a, b, c, d'⟩ := h1 p hp
          by_cases e : p = B 2 q
          · subst e
            rw [y8, y9, y10, y11, a, b, c, d', nI_add, nI_add, nI_add, nI_add]
            unfold bhn
            simp only [cnq_s, atq, ho, true_and, and_true]
            refine ⟨congrArg nI ?_, congrArg nI ?_⟩
            · (repeat' split) <;> omega
            · (repeat' split) <;> omega
          · have e' : ∀ s, ¬ atq B m s p q := fun s z => e z.2.2.symm
            unfold bhn
            rw [f' 8 p (by omega) (by omega), f' 9 p (by omega) (by omega), f' 10 p (by omega) (by omega), f' 11 p (by omega) (by omega)]
            simp only [cnq_s, if_neg (e' _), Nat.add_zero]
            exact ⟨a, b, c, d'⟩
        · rw [z1, h2, nI_add, cnq_s]
          congr 2
          by_cases e : B 0 q = 2
          · rw [if_pos e, if_pos ⟨e, ho, g3.2.1 (Or.inl e)⟩]
          · rw [if_neg e, if_neg (fun z => e z.1)]
        · rw [z2, h3, nI_add, cnq_s]
          congr 2
          by_cases e : B 0 q = 3
          · rw [if_pos e, if_pos ⟨e, ho, g3.2.1 (Or.inr e)⟩]
          · rw [if_neg e, if_neg (fun z => e z.1)]
      · have e' : ∀ s p, ¬ atq B m s p q := fun s p z => ho z.2.1
        refine zin (fun z => ho ((nI_eq (by omega) (by omega)).mp z)) (ih (q + 1) J (by omega) f ⟨fun p hp => ?_, ?_, ?_⟩)
        · unfold bhn
          simp only [cnq_s, if_neg (e' _ _), Nat.add_zero]
          exact h1 p hp
        · rw [cnq_s, if_neg (e' _ _)]; exact h2
        · rw [cnq_s, if_neg (e' _ _)]; exact h3
  refine ⟨w + 1, l1 w 0 I (by omega) (fun _ _ _ => rfl) ⟨fun p hp => ?_, ?_, ?_⟩⟩
  · obtain ⟨a, b, c, d⟩ := h0 p hp
    rw [a, b, c, d]; exact ⟨rfl, rfl, rfl, rfl⟩
  · rw [h11]; rfl
  · rw [h12]; rfl
