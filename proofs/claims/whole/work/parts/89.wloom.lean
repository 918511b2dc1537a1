/-! PURE 49: the loom's weaver: handlers; all of it -/
def hT (A : Nat → Nat → Nat) (m : Nat) (B : Nat → Nat → Nat) (w : Nat) (F : Nat → Nat → Nat) (k : Nat) : Nat := if cnq B m 5 (A 3 (4 * k + 2)) w = 0 then Gp A m B w F (A 3 (4 * k + 2)) else CPp A m B w F k
theorem s_wh1 {m k : Nat} {x0 x1 x2 x3 : Int32} {J : zI} {P : zP} {K : zI → zP → Prop} (hm : m < 6) (hk : k < 9) (kk : ∀ J', (∀ c j, ¬ (c = 31 + 12 * m ∧ 4 * k ≤ j ∧ j < 4 * k + 4) → J' c j = J c j) → J' (31 + 12 * m) (4 * k + 0) = x0 → J' (31 + 12 * m) (4 * k + 1) = x1 → J' (31 + 12 * m) (4 * k + 2) = x2 → J' (31 + 12 * m) (4 * k + 3) = x3 → K J' P) : w_X7_writeHandler (31 + 12 * m) (nI k) x0 x1 x2 x3 J P K := by
  unfold w_X7_writeHandler
  have e : nI k * 4 = nI (4 * k) := by rw [show (4 : Int32) = nI 4 from rfl, pk_mul, Nat.mul_comm]
  rw [e, ← nq1, ← nq2, ← nq3, nI_add, nI_add, nI_add, nI_clamp (by omega), nI_clamp (by omega), nI_clamp (by omega), nI_clamp (by omega), zzW4 hm]
  refine zin (by first | omega | decide | (simp (maxSteps := 400000) (disch := omega) only [q_lit, q_neg, nI_ltI, nI_leI, nI_eq, nI_add, pk_mul, pk_sub, nI_clamp, vp_q, zu_same, zu_nc, zu_nj, ng_lt, ng_le, ng_gt, ng_ge, ng_eq, ng_qe, ng_ee, ng_add, not_false_eq_true, not_true_eq_false, ne_eq]; done) | (simp (maxSteps := 400000) (disch := omega) only [q_lit, q_neg, nI_ltI, nI_leI, nI_eq, nI_add, pk_mul, pk_sub, nI_clamp, vp_q, zu_same, zu_nc, zu_nj, ng_lt, ng_le, ng_gt, ng_ge, ng_eq, ng_qe, ng_ee, ng_add, not_false_eq_true, not_true_eq_false, ne_eq]; omega)) ⟨by have := shW4 hm; rw [zzW4 hm] at this; exact this, zip ?_ ⟨vp_in_nI (by omega) (by decide), vp_in_nI (by omega) (by decide), vp_in_nI (by omega) (by decide), vp_in_nI (by omega) (by decide), kk _ (fun c j q => ?_) ?_ ?_ ?_ ?_⟩⟩
  · show nI (4 * k + 3) < nI 36
    first | omega | decide | (simp (maxSteps := 400000) (disch := omega) only [q_lit, q_neg, nI_ltI, nI_leI, nI_eq, nI_add, pk_mul, pk_sub, nI_clamp, vp_q, zu_same, zu_nc, zu_nj, ng_lt, ng_le, ng_gt, ng_ge, ng_eq, ng_qe, ng_ee, ng_add, not_false_eq_true, not_true_eq_false, ne_eq]; done) | (simp (maxSteps := 400000) (disch := omega) only [q_lit, q_neg, nI_ltI, nI_leI, nI_eq, nI_add, pk_mul, pk_sub, nI_clamp, vp_q, zu_same, zu_nc, zu_nj, ng_lt, ng_le, ng_gt, ng_ge, ng_eq, ng_qe, ng_ee, ng_add, not_false_eq_true, not_true_eq_false, ne_eq]; omega)
  · rw [zu_ne (by omega), zu_ne (by omega), zu_ne (by omega), zu_ne (by omega)]
  · rw [zu_nj (by omega), zu_nj (by omega), zu_nj (by omega)]; exact zu_same
  · rw [zu_nj (by omega), zu_nj (by omega), zu_same]
  · rw [zu_nj (by omega), zu_same]
  · rw [zu_same]
theorem s_wh {A B F : Nat → Nat → Nat} {m w : Nat} {I : zI} {P : zP} {K : zI → zP → Prop} (hP : PSt P) (hm : m < 6) (hB : W0 A m) (hH : ∀ k, k < A 0 3 → hok A k) (hX : CX A m B w F I) (k : ∀ J, (∀ c j, c ≠ 31 + 12 * m → ¬ (c = 26 + 12 * m ∧ j = 7) → J c j = I c j) → J (26 + 12 * m) 7 = nI (A 0 3 + if cnq B m 3 0 w = 0 then 0 else 1) → (∀ q, q < A 0 3 → J (31 + 12 * m) (4 * q + 0) = nI (Gp A m B w F (A 3 (4 * q))) ∧ J (31 + 12 * m) (4 * q + 1) = nI (Gp A m B w F (A 3 (4 * q + 1))) ∧ J (31 + 12 * m) (4 * q + 2) = nI (hT A m B w F q) ∧ J (31 + 12 * m) (4 * q + 3) = nI (A 3 (4 * q + 3))) → (cnq B m 3 0 w ≠ 0 → J (31 + 12 * m) (4 * A 0 3 + 0) = nI (Gp A m B w F 0) ∧ J (31 + 12 * m) (4 * A 0 3 + 1) = nI (Gp A m B w F (A 0 2)) ∧ J (31 + 12 * m) (4 * A 0 3 + 2) = nI (LPp A m B w F) ∧ J (31 + 12 * m) (4 * A 0 3 + 3) = 0) → K J P) : w_X7_writeHandlers (20 + 12 * m) I P K := by
  have hl := hB.2.2.2.2.1
  have h8 := hB.2.2.2.2.2.1
  have hw := hX.1.2.2.1
  have c3 := cnq_le (B := B) (m := m) (s := 3) (p := 0) w
  have lp : ∀ d i J, i + d = A 0 3 → (∀ c j, c ≠ 31 + 12 * m → J c j = I c j) → (∀ q, q < i → J (31 + 12 * m) (4 * q + 0) = nI (Gp A m B w F (A 3 (4 * q))) ∧ J (31 + 12 * m) (4 * q + 1) = nI (Gp A m B w F (A 3 (4 * q + 1))) ∧ J (31 + 12 * m) (4 * q + 2) = nI (hT A m B w F q) ∧ J (31 + 12 * m) (4 * q + 3) = nI (A 3 (4 * q + 3))) → l_X7_writeHandlers_10 K (d + 1) (20 + 12 * m) (31 + 12 * m) (nI i) J P := by
    intro d
    induction d with
    | zero =>
      intro i J hi f h1
      obtain rfl : i = A 0 3 := by omega
      have hXJ : CX A m B w F J := CX_c hl hm hX (fun c j a b => f c j (by omega))
      rw [l_X7_writeHandlers_10, hXJ.1.1.2.2.2.1]
      refine ⟨shM hm, zip (by first | omega | decide | (simp (maxSteps := 400000) (disch := omega) only [q_lit, q_neg, nI_ltI, nI_leI, nI_eq, nI_add, pk_mul, pk_sub, nI_clamp, vp_q, zu_same, zu_nc, zu_nj, ng_lt, ng_le, ng_gt, ng_ge, ng_eq, ng_qe, ng_ee, ng_add, not_false_eq_true, not_true_eq_false, ne_eq]; done) | (simp (maxSteps := 400000) (disch := omega) only [q_lit, q_neg, nI_ltI, nI_leI, nI_eq, nI_add, pk_mul, pk_sub, nI_clamp, vp_q, zu_same, zu_nc, zu_nj, ng_lt, ng_le, ng_gt, ng_ge, ng_eq, ng_qe, ng_ee, ng_add, not_false_eq_true, not_true_eq_false, ne_eq]; omega)) ⟨_, pM6 hP hm, shW hm, ?_⟩⟩
      rw [zu_nc (a := 7) (by omega), hXJ.2.1.2.2.2, zu_nc (a := 20 + 12 * m) (by omega), zu_nc (a := 20 + 12 * m) (by omega), hXJ.1.1.2.2.2.1, hXJ.1.1.2.2.1, zu_nc (a := 12) (by omega)]
      by_cases e : cnq B m 3 0 w = 0
      · refine zip (by rw [e]; decide) (k _ (fun c j a b => by rw [zu_ne b]; exact f c j a) (by rw [zu_same, if_pos e]; rfl) (fun q hq => ?_) (fun z => absurd e z))
        rw [zu_nc (by omega), zu_nc (by omega), zu_nc (by omega), zu_nc (by omega)]; exact h1 q hq
      · refine zin (by first | omega | decide | (simp (maxSteps := 400000) (disch := omega) only [q_lit, q_neg, nI_ltI, nI_leI, nI_eq, nI_add, pk_mul, pk_sub, nI_clamp, vp_q, zu_same, zu_nc, zu_nj, ng_lt, ng_le, ng_gt, ng_ge, ng_eq, ng_qe, ng_ee, ng_add, not_false_eq_true, not_true_eq_false, ne_eq]; done) | (simp (maxSteps := 400000) (disch := omega) only [q_lit, q_neg, nI_ltI, nI_leI, nI_eq, nI_add, pk_mul, pk_sub, nI_clamp, vp_q, zu_same, zu_nc, zu_nj, ng_lt, ng_le, ng_gt, ng_ge, ng_eq, ng_qe, ng_ee, ng_add, not_false_eq_true, not_true_eq_false, ne_eq]; omega)) (s_ga (by omega) ?_)
        rw [zu_nc (a := 12) (by omega), zu_nc (a := 7) (by omega), hXJ.2.2.2.2.2.2.2.1, hXJ.2.2.2.2.1]
        refine s_wh1 hm (by omega) (fun J2 f2 a0 a1 a2 a3 => ⟨_, pM6 hP hm, shW hm, ?_⟩)
        have z0 : J 12 0 = nI (Gp A m B w F 0) := (hXJ.2.2.2.1 0 (by have := hB.2.2.2.1; omega) hB.2.2.2.2.2.2.2.2.1).1
        refine k _ (fun c j a b => by rw [zu_ne b, f2 c j (by omega), zu_ne b]; exact f c j a) ?_ (fun q hq => ?_) (fun z => ?_)
        · rw [zu_same, f2 _ _ (by omega), zu_same, if_neg e, nI_1]
        · rw [zu_nc (by omega), zu_nc (by omega), zu_nc (by omega), zu_nc (by omega), f2 _ _ (by omega), f2 _ _ (by omega), f2 _ _ (by omega), f2 _ _ (by omega), zu_nc (by omega), zu_nc (by omega), zu_nc (by omega), zu_nc (by omega)]; exact h1 q hq
        · rw [zu_nc (by omega), zu_nc (by omega), zu_nc (by omega), zu_nc (by omega)]
          exact ⟨by rw [a0]; exact z0, a1, a2, a3⟩
    | succ d ih =>
      intro i J hi f h1
      have hXJ : CX A m B w F J := CX_c hl hm hX (fun c j a b => f c j (by omega))
      have v : vp_in (nI i) 8 := vp_in_nI (by omega) (by decide)
      have hok := hH i (by omega)
      obtain ⟨t1, t2⟩ := hk_t hB hok
      obtain ⟨u1, u2⟩ := hk_f hB hok
      have c5 := cnq_le (B := B) (m := m) (s := 5) (p := A 3 (4 * i + 2)) w
      have gu : A 3 (4 * i + 1) ≤ 400 ∧ J 12 (A 3 (4 * i + 1)) = nI (Gp A m B w F (A 3 (4 * i + 1))) := by
        rcases hk_u hB hok with z | ⟨z1, z2⟩
        · rw [z]; exact ⟨hl, hXJ.2.2.2.2.1⟩
        · exact ⟨by omega, (hXJ.2.2.2.1 _ z1 z2).1⟩
      have fin : ∀ x2, x2 = nI (hT A m B w F i) → j_X7_writeHandlers_81 (l_X7_writeHandlers_10 K (d + 1)) K (20 + 12 * m) (31 + 12 * m) (nI i) x2 (nI (Gp A m B w F (A 3 (4 * i + 1)))) (nI (Gp A m B w F (A 3 (4 * i)))) (nI i) (31 + 12 * m) J P := fun x2 hx => by
        unfold j_X7_writeHandlers_81
        rw [nI_1]
        refine ⟨shM hm, _, pM5 hP hm, s_hpart (w := 3) (shM5 hm) (zzM5 hm) (by decide) (by omega) ?_⟩
        rw [hXJ.1.1.2.2.2.2.2 _ (by omega)]
        refine s_wh1 hm (by omega) (fun J2 f2 a0 a1 a2 a3 => ih (i + 1) J2 (by omega) (fun c j a => by rw [f2 c j (by omega)]; exact f c j a) (fun q hq => ?_))
        by_cases e : q = i
        · subst e; exact ⟨a0, a1, by rw [a2, hx], a3⟩
        · rw [f2 _ _ (by omega), f2 _ _ (by omega), f2 _ _ (by omega), f2 _ _ (by omega)]; exact h1 q (by omega)
      rw [l_X7_writeHandlers_10]
      refine ⟨shM hm, zin (by rw [hXJ.1.1.2.2.2.1]; first | omega | decide | (simp (maxSteps := 400000) (disch := omega) only [q_lit, q_neg, nI_ltI, nI_leI, nI_eq, nI_add, pk_mul, pk_sub, nI_clamp, vp_q, zu_same, zu_nc, zu_nj, ng_lt, ng_le, ng_gt, ng_ge, ng_eq, ng_qe, ng_ee, ng_add, not_false_eq_true, not_true_eq_false, ne_eq]; done) | (simp (maxSteps := 400000) (disch := omega) only [q_lit, q_neg, nI_ltI, nI_leI, nI_eq, nI_add, pk_mul, pk_sub, nI_clamp, vp_q, zu_same, zu_nc, zu_nj, ng_lt, ng_le, ng_gt, ng_ge, ng_eq, ng_qe, ng_ee, ng_add, not_false_eq_true, not_true_eq_false, ne_eq]; omega)) ⟨_, pM5 hP hm, s_hpart (w := 2) (shM5 hm) (zzM5 hm) (by decide) (by omega) ⟨_, pM5 hP hm, s_hpart (w := 0) (shM5 hm) (zzM5 hm) (by decide) (by omega) ?_⟩⟩⟩
      rw [hXJ.1.1.2.2.2.2.2 (4 * i + 2) (by omega), hXJ.1.1.2.2.2.2.2 (4 * i + 0) (by omega), Nat.add_zero]
      refine s_ga (by omega) ⟨_, pM5 hP hm, s_hpart (w := 1) (shM5 hm) (zzM5 hm) (by decide) (by omega) ?_⟩
      rw [(hXJ.2.2.2.1 _ u1 u2).1, hXJ.1.1.2.2.2.2.2 (4 * i + 1) (by omega)]
      refine s_ga gu.1 (s_ca hP hm hB hXJ.1.1 hXJ.2.1 (by omega) hok ?_)
      rw [gu.2]
      by_cases e : cnq B m 5 (A 3 (4 * i + 2)) w = 0
      · refine zip (by rw [e]; decide) (s_ga (by omega) ?_)
        rw [(hXJ.2.2.2.1 _ t1 t2).1]
        exact fin _ (by unfold hT; rw [if_pos e])
      · refine zin (by first | omega | decide | (simp (maxSteps := 400000) (disch := omega) only [q_lit, q_neg, nI_ltI, nI_leI, nI_eq, nI_add, pk_mul, pk_sub, nI_clamp, vp_q, zu_same, zu_nc, zu_nj, ng_lt, ng_le, ng_gt, ng_ge, ng_eq, ng_qe, ng_ee, ng_add, not_false_eq_true, not_true_eq_false, ne_eq]; done) | (simp (maxSteps := 400000) (disch := omega) only [q_lit, q_neg, nI_ltI, nI_leI, nI_eq, nI_add, pk_mul, pk_sub, nI_clamp, vp_q, zu_same, zu_nc, zu_nj, ng_lt, ng_le, ng_gt, ng_ge, ng_eq, ng_qe, ng_ee, ng_add, not_false_eq_true, not_true_eq_false, ne_eq]; omega)) ⟨v, ?_⟩
        rw [nI_clamp (by omega), hXJ.2.2.2.2.2.2.1 i (by omega) (by omega)]
        exact fin _ (by unfold hT; rw [if_neg e])
  unfold w_X7_writeHandlers
  exact ⟨shM hm, _, pM6 hP hm, shW hm, _, pW4 hP hm, _, lp (A 0 3) 0 I (by omega) (fun _ _ _ => rfl) (fun q hq => absurd hq (by omega))⟩
def gnw (A : Nat → Nat → Nat) (F : Nat → Nat → Nat) (p : Nat) : Nat := sm (fun p => if A 2 p = 0 then 0 else F 0 p) p
theorem gnw_s {A F : Nat → Nat → Nat} {p : Nat} : gnw A F (p + 1) = gnw A F p + if A 2 p = 0 then 0 else F 0 p := rfl
theorem gnw_le {A F : Nat → Nat → Nat} (h : ∀ i p, F i p ≤ 1) (p : Nat) : gnw A F p ≤ p := sm_1 (fun p _ => by have := h 0 p; split <;> omega)
/-- the loom holds what was woven -/
def LV (A : Nat → Nat → Nat) (m : Nat) (B : Nat → Nat → Nat) (w : Nat) (F : Nat → Nat → Nat) (I : zI) : Prop :=
  I (26 + 12 * m) 5 = 1 ∧ I (26 + 12 * m) 6 = nI (TOT A m B w F) ∧ I (26 + 12 * m) 7 = nI (A 0 3 + if cnq B m 3 0 w = 0 then 0 else 1) ∧ I (26 + 12 * m) 8 = nI (gnw A F (A 0 2)) ∧
  I (26 + 12 * m) 9 = nI (nsp m B w (A 0 2) + ncp A m B w (A 0 3) + if cnq B m 3 0 w = 0 then 0 else 1) ∧ I (26 + 12 * m) 10 = nI w ∧
  (∀ i, i < TOT A m B w F → I (27 + 12 * m) i = nI ((codL A m B w F).getD i (0, 0, 0)).1 ∧ I (28 + 12 * m) i = oM ((codL A m B w F).getD i (0, 0, 0)).2.1) ∧
  (∀ p, p < A 0 2 → 0 < A 2 p → I (29 + 12 * m) p = nI (Sp A m B w F p) ∧ I (30 + 12 * m) p = if ahn A m B w p + bhn m B w p = 0 then 0 else 1) ∧
  (∀ q, q < A 0 3 → I (31 + 12 * m) (4 * q + 0) = nI (Gp A m B w F (A 3 (4 * q))) ∧ I (31 + 12 * m) (4 * q + 1) = nI (Gp A m B w F (A 3 (4 * q + 1))) ∧ I (31 + 12 * m) (4 * q + 2) = nI (hT A m B w F q) ∧ I (31 + 12 * m) (4 * q + 3) = nI (A 3 (4 * q + 3))) ∧
  (cnq B m 3 0 w ≠ 0 → I (31 + 12 * m) (4 * A 0 3 + 0) = nI (Gp A m B w F 0) ∧ I (31 + 12 * m) (4 * A 0 3 + 1) = nI (Gp A m B w F (A 0 2)) ∧ I (31 + 12 * m) (4 * A 0 3 + 2) = nI (LPp A m B w F) ∧ I (31 + 12 * m) (4 * A 0 3 + 3) = 0)
theorem LW_u {m c j : Nat} {l : List WB3} {x : Int32} {G J : zI} (h : LW m l G J) (h1 : c ≠ 27 + 12 * m) (h2 : c ≠ 28 + 12 * m) (h3 : c ≠ 7) : LW m l (zu G c j x) (zu J c j x) := by
  obtain ⟨w1, w2, w3⟩ := h
  refine ⟨by rw [zu_nc (Ne.symm h3)]; exact w1, fun i hi => ?_, fun c' j' a b d => ?_⟩
  · rw [zu_nc (Ne.symm h1), zu_nc (Ne.symm h2)]; exact w2 i hi
  · by_cases e : c' = c ∧ j' = j
    · rw [e.1, e.2, zu_same, zu_same]
    · rw [zu_ne e, zu_ne e]; exact w3 c' j' a b d
theorem s_wall {A B F : Nat → Nat → Nat} {m w : Nat} {I : zI} {P : zP} {K : zI → zP → Prop} (hP : PSt P) (hm : m < 6) (hB : W0 A m) (hJ : ∀ p, p < A 0 2 → jok A p) (hH : ∀ k, k < A 0 3 → hok A k) (hF : FOK A m B w F) (hX : CX A m B w F I) (hQ : BQ A m B w) (hTT : TOT A m B w F ≤ 1000) (k : ∀ J, (∀ c j, ¬ (26 + 12 * m ≤ c ∧ c ≤ 31 + 12 * m) → ¬ (c = 7 ∧ j = 16) → J c j = I c j) → LV A m B w F J → K J P) : w_X7_writeAll (20 + 12 * m) I P K := by
  have hl := hB.2.2.2.2.1
  have h8 := hB.2.2.2.2.2.1
  have hw := hX.1.2.2.1
  have a256 := hB.2.2.2.2.2.2.1
  have bT : ∀ p, p ≤ A 0 2 → Gp A m B w F p ≤ 1000 := fun p hp => by
    have a := Gp_le (A := A) (B := B) (F := F) (m := m) (w := w) hp
    have b := SP_0 (A := A) (B := B) (F := F) (m := m) (w := w) (A 0 2)
    have c := CP_0 (A := A) (B := B) (F := F) (m := m) (w := w) (A 0 3)
    have e := LP_le (A := A) (B := B) (F := F) (m := m) (w := w)
    unfold LPp at e
    rw [show CPp A m B w F 0 = SPp A m B w F (A 0 2) from rfl] at c
    omega
  have lp : ∀ d i G J, i + d = A 0 2 → (∀ c j, ¬ (26 + 12 * m ≤ c ∧ c ≤ 31 + 12 * m) → ¬ (c = 7 ∧ j = 16) → G c j = I c j) → (∀ p, p < i → 0 < A 2 p → G (29 + 12 * m) p = nI (Sp A m B w F p) ∧ G (30 + 12 * m) p = if ahn A m B w p + bhn m B w p = 0 then 0 else 1) → G (26 + 12 * m) 8 = nI (gnw A F i) → LW m (pfG A m B w F i) G J → l_X7_writeAll_27 K (d + 1) (20 + 12 * m) (26 + 12 * m) (nI i) J P := by
    intro d
    induction d with
    | zero =>
      intro i G J hi f h1 h2 hW
      obtain rfl : i = A 0 2 := by omega
      have hXG : CX A m B w F G := CX_c hl hm hX f
      have hXJ := CX_w hl hm hXG hW
      have lfb : (pfC A m B w F (A 0 3)).length + (lfL m B w).length ≤ 1000 := by
        have := len_cod hB hF
        rw [codL_e, List.length_append] at this; omega
      rw [l_X7_writeAll_27]
      refine ⟨shM hm, zip (by rw [hXJ.1.1.2.2.1]; first | omega | decide | (simp (maxSteps := 400000) (disch := omega) only [q_lit, q_neg, nI_ltI, nI_leI, nI_eq, nI_add, pk_mul, pk_sub, nI_clamp, vp_q, zu_same, zu_nc, zu_nj, ng_lt, ng_le, ng_gt, ng_ge, ng_eq, ng_qe, ng_ee, ng_add, not_false_eq_true, not_true_eq_false, ne_eq]; done) | (simp (maxSteps := 400000) (disch := omega) only [q_lit, q_neg, nI_ltI, nI_leI, nI_eq, nI_add, pk_mul, pk_sub, nI_clamp, vp_q, zu_same, zu_nc, zu_nj, ng_lt, ng_le, ng_gt, ng_ge, ng_eq, ng_qe, ng_ee, ng_add, not_false_eq_true, not_true_eq_false, ne_eq]; omega)) (s_wsp hP hm hB hJ hF hXG hQ hTT (len_pG hB hF _ (Nat.le_refl _)) (fun p hp => len_pS hB hF p hp) hW (fun J1 w1 => s_wcp hP hm hB hH hF hXG hQ hTT (fun p hp => len_pC hB hF p hp) w1 (fun J2 w2 => s_wlf hP hm hl hXG hQ lfb w2 (fun J3 w3 => ?_))))⟩
      have hX3 := CX_w hl hm hXG w3
      have w3' : LW m (codL A m B w F) G J3 := w3
      refine s_wh hP hm hB hH hX3 (fun J4 f4 g7 gh gl => ⟨shW hm, ?_⟩)
      obtain ⟨v1, v2, v3⟩ := w3'
      have y15 : J4 7 15 = nI (TOT A m B w F) := by rw [f4 _ _ (by omega) (by omega)]; exact hX3.2.2.2.2.2.2.2.2.1
      have y13 : J4 7 13 = nI (nsp m B w (A 0 2) + ncp A m B w (A 0 3) + if cnq B m 3 0 w = 0 then 0 else 1) := by rw [f4 _ _ (by omega) (by omega)]; exact hX3.2.2.2.2.2.2.2.2.2
      have y5 : J4 108 5 = nI w := by rw [f4 _ _ (by omega) (by omega)]; exact hX3.1.2.2.2.1
      rw [zu_nc (a := 7) (by omega), y13, zu_nc (a := 108) (by omega), zu_nc (a := 108) (by omega), y5, y15]
      refine k _ (fun c j a b => ?_) ⟨?_, ?_, ?_, ?_, ?_, ?_, fun i hi => ?_, fun p hp hz => ?_, fun q hq => ?_, fun z => ?_⟩
      · rw [zu_nc (by omega), zu_nc (by omega), zu_nc (by omega), zu_nc (by omega), f4 c j (by omega) (by omega), v3 c j (by omega) (by omega) b]; exact f c j a b
      · rw [zu_same]
      · rw [zu_nj (by omega), zu_nj (by omega), zu_nj (by omega), zu_same]
      · rw [zu_nj (by omega), zu_nj (by omega), zu_nj (by omega), zu_nj (by omega)]; exact g7
      · rw [zu_nj (by omega), zu_nj (by omega), zu_nj (by omega), zu_nj (by omega), f4 _ _ (by omega) (by omega), v3 _ _ (by omega) (by omega) (by omega)]; exact h2
      · rw [zu_nj (by omega), zu_nj (by omega), zu_same]
      · rw [zu_nj (by omega), zu_same]
      · rw [zu_nc (by omega), zu_nc (by omega), zu_nc (by omega), zu_nc (by omega), zu_nc (by omega), zu_nc (by omega), zu_nc (by omega), zu_nc (by omega), f4 _ _ (by omega) (by omega), f4 _ _ (by omega) (by omega)]
        exact v2 i (by rw [len_cod hB hF]; exact hi)
      · rw [zu_nc (by omega), zu_nc (by omega), zu_nc (by omega), zu_nc (by omega), zu_nc (by omega), zu_nc (by omega), zu_nc (by omega), zu_nc (by omega), f4 _ _ (by omega) (by omega), f4 _ _ (by omega) (by omega), v3 _ _ (by omega) (by omega) (by omega), v3 _ _ (by omega) (by omega) (by omega)]
        exact h1 p hp hz
      · rw [zu_nc (by omega), zu_nc (by omega), zu_nc (by omega), zu_nc (by omega), zu_nc (by omega), zu_nc (by omega), zu_nc (by omega), zu_nc (by omega), zu_nc (by omega), zu_nc (by omega), zu_nc (by omega), zu_nc (by omega), zu_nc (by omega), zu_nc (by omega), zu_nc (by omega), zu_nc (by omega)]
        exact gh q hq
      · rw [zu_nc (by omega), zu_nc (by omega), zu_nc (by omega), zu_nc (by omega), zu_nc (by omega), zu_nc (by omega), zu_nc (by omega), zu_nc (by omega), zu_nc (by omega), zu_nc (by omega), zu_nc (by omega), zu_nc (by omega), zu_nc (by omega), zu_nc (by omega), zu_nc (by omega), zu_nc (by omega)]
        exact gl z
    | succ d ih =>
      intro i G J hi f h1 h2 hW
      have v : vp_in (nI i) 400 := vp_in_nI (by omega) (by decide)
      have hXG : CX A m B w F G := CX_c hl hm hX f
      have hXJ := CX_w hl hm hXG hW
      rw [l_X7_writeAll_27]
      refine ⟨shM hm, zin (by rw [hXJ.1.1.2.2.1]; first | omega | decide | (simp (maxSteps := 400000) (disch := omega) only [q_lit, q_neg, nI_ltI, nI_leI, nI_eq, nI_add, pk_mul, pk_sub, nI_clamp, vp_q, zu_same, zu_nc, zu_nj, ng_lt, ng_le, ng_gt, ng_ge, ng_eq, ng_qe, ng_ee, ng_add, not_false_eq_true, not_true_eq_false, ne_eq]; done) | (simp (maxSteps := 400000) (disch := omega) only [q_lit, q_neg, nI_ltI, nI_leI, nI_eq, nI_add, pk_mul, pk_sub, nI_clamp, vp_q, zu_same, zu_nc, zu_nj, ng_lt, ng_le, ng_gt, ng_ge, ng_eq, ng_qe, ng_ee, ng_add, not_false_eq_true, not_true_eq_false, ne_eq]; omega)) ⟨shW hm, _, pW3 hP hm, ?_⟩⟩
      by_cases hz : 0 < A 2 i
      · have eG : Gp A m B w F (i + 1) = Gp A m B w F i + ahn A m B w i + A 2 i + F 0 i + bhn m B w i := by rw [Gp, if_neg (by omega)]
        have bG := bT (i + 1) (by omega)
        have al := ahn_le (A := A) (B := B) (m := m) (p := i) hw
        have bl := bhn_le (B := B) (m := m) (p := i) hw
        have L1 := len_pG hB hF i (by omega)
        have fin : ∀ bz : Int32, vp_nar .boolean bz = (if ahn A m B w i + bhn m B w i = 0 then 0 else 1) → j_X7_writeAll_74 (l_X7_writeAll_27 K (d + 1)) K (20 + 12 * m) (26 + 12 * m) (nI i) bz (nI i) (30 + 12 * m) J P := fun bz hbz => by
          unfold j_X7_writeAll_74
          rw [hbz, nI_clamp (by omega)]
          have hW1 : LW m (pfG A m B w F i) (zu G (30 + 12 * m) i (if ahn A m B w i + bhn m B w i = 0 then 0 else 1)) (zu J (30 + 12 * m) i (if ahn A m B w i + bhn m B w i = 0 then 0 else 1)) := LW_u hW (by omega) (by omega) (by omega)
          have hX1 : CX A m B w F (zu G (30 + 12 * m) i (if ahn A m B w i + bhn m B w i = 0 then 0 else 1)) := CX_c hl hm hXG (fun c j a b => zu_nc (by omega))
          generalize hG1 : zu G (30 + 12 * m) i (if ahn A m B w i + bhn m B w i = 0 then 0 else 1) = G1 at hW1 hX1
          generalize zu J (30 + 12 * m) i (if ahn A m B w i + bhn m B w i = 0 then 0 else 1) = J1 at hW1 ⊢
          refine ⟨shW3 hm, by rw [zzW3 hm]; exact v, shM hm, s_bg1 hP hm (CX_w hl hm hX1 hW1).1.1 hB ⟨i, by omega, rfl, hz⟩ (zin (by decide) (s_wah hP hm hl hX1 hQ (a256 i) (by omega) hz hW1 (by omega) (fun J2 w2 => ?_)))⟩
          have lP := len_P (B := B) (m := m) (p := i) w
          have lL := len_L (A := A) (B := B) (m := m) (p := i) w
          have lO := len_O (B := B) (m := m) (p := i) w
          have L2 : (pfG A m B w F i ++ (cat (fP m B i) w ++ cat (fL A m B i) w ++ cat (fO m B i) w)).length = Sp A m B w F i := by
            rw [List.length_append, List.length_append, List.length_append, L1, lP, lL, lO]; unfold Sp ahn; omega
          have eS : Sp A m B w F i = Gp A m B w F i + ahn A m B w i := rfl
          refine s_wi hP hm hB (hJ i (by omega)) hF hX1 (by omega) hz L2 w2 (by omega) (fun J3 w3 => s_wbh hP hm hl hX1 hQ (by omega) hz w3 (by rw [List.length_append, L2, len_s hB hF (by omega) hz]; omega) (fun J4 w4 => ⟨shW hm, _, pW2 hP hm, v, shW2 hm, by rw [zzW2 hm]; exact v, v, ?_⟩))
          have eL : (pfG A m B w F i ++ (cat (fP m B i) w ++ cat (fL A m B i) w ++ cat (fO m B i) w) ++ selfL A m B w F i ++ cat (fB m B i) w) = pfG A m B w F (i + 1) := by
            unfold pfG
            rw [cat, grpL, if_neg (by omega)]
            simp only [List.append_assoc]
          rw [eL] at w4
          have hX4 := CX_w hl hm hX1 w4
          rw [zu_nc (a := 16) (by omega), (hX4.2.2.1.1 i (by omega)).1, (hX4.2.2.2.1 i (by omega) hz).2, zu_nc (a := 26 + 12 * m) (by omega)]
          have y8 : J4 (26 + 12 * m) 8 = nI (gnw A F i) := by rw [w4.2.2 _ _ (by omega) (by omega) (by omega), ← hG1, zu_nc (by omega)]; exact h2
          rw [y8]
          have last : ∀ x : Int32, x = nI (gnw A F (i + 1)) → l_X7_writeAll_27 K (d + 1) (20 + 12 * m) (26 + 12 * m) (nI (i + 1)) (zu (zu J4 (29 + 12 * m) i (nI (Sp A m B w F i))) (26 + 12 * m) 8 x) P := fun x hx => by
            refine ih (i + 1) (zu (zu G1 (29 + 12 * m) i (nI (Sp A m B w F i))) (26 + 12 * m) 8 x) _ (by omega) (fun c j a b => ?_) (fun p hp hzp => ?_) (by rw [zu_same, hx]) (LW_u (LW_u w4 (by omega) (by omega) (by omega)) (by omega) (by omega) (by omega))
            · rw [zu_nc (by omega), zu_nc (by omega), ← hG1, zu_nc (by omega)]; exact f c j a b
            · rw [zu_nc (by omega), zu_nc (a := 30 + 12 * m) (by omega), zu_nc (a := 30 + 12 * m) (by omega)]
              by_cases e : p = i
              · subst e
                rw [zu_same, ← hG1, zu_same]; exact ⟨rfl, rfl⟩
              · rw [zu_nj e, ← hG1, zu_nc (a := 29 + 12 * m) (by omega), zu_nj e]; exact h1 p (by omega) hzp
          rcases f01 hF.1 0 i with z | z
          · refine zip (by rw [z]; rfl) ?_
            unfold j_X7_writeAll_141
            rw [nI_1]
            exact ⟨shW hm, last _ (by rw [gnw_s, if_neg (by omega), z, ← nq0, nI_add])⟩
          · refine zin (by rw [z]; decide) ?_
            unfold j_X7_writeAll_141
            rw [nI_1]
            exact ⟨shW hm, last _ (by rw [gnw_s, if_neg (by omega), z, ← nq1, nI_add])⟩
        refine s_bg1 hP hm hXJ.1.1 hB ⟨i, by omega, rfl, hz⟩ (zin (by decide) ⟨v, v, ?_⟩)
        rw [nI_clamp (by omega), (hXJ.2.1.1 i (by omega) hz).1, (hXJ.2.1.1 i (by omega) hz).2, nI_add]
        by_cases e : ahn A m B w i + bhn m B w i = 0
        · refine zip (by rw [e]; decide) ?_
          unfold j_X7_writeAll_73
          exact fin 0 (by rw [if_pos e, nar0])
        · exact zin (by first | omega | decide | (simp (maxSteps := 400000) (disch := omega) only [q_lit, q_neg, nI_ltI, nI_leI, nI_eq, nI_add, pk_mul, pk_sub, nI_clamp, vp_q, zu_same, zu_nc, zu_nj, ng_lt, ng_le, ng_gt, ng_ge, ng_eq, ng_qe, ng_ee, ng_add, not_false_eq_true, not_true_eq_false, ne_eq]; done) | (simp (maxSteps := 400000) (disch := omega) only [q_lit, q_neg, nI_ltI, nI_leI, nI_eq, nI_add, pk_mul, pk_sub, nI_clamp, vp_q, zu_same, zu_nc, zu_nj, ng_lt, ng_le, ng_gt, ng_ge, ng_eq, ng_qe, ng_ee, ng_add, not_false_eq_true, not_true_eq_false, ne_eq]; omega)) (fin 1 (by rw [if_neg e, nar1]))
      · refine s_bg0 hP hm hXJ.1.1 hB (fun q => hz (bg_n (by omega) hl q).2) (zip rfl ?_)
        unfold j_X7_writeAll_73 j_X7_writeAll_74
        rw [nar0, nI_clamp (by omega), nI_1]
        have hW1 : LW m (pfG A m B w F i) (zu G (30 + 12 * m) i 0) (zu J (30 + 12 * m) i 0) := LW_u hW (by omega) (by omega) (by omega)
        have hX1 : CX A m B w F (zu G (30 + 12 * m) i 0) := CX_c hl hm hXG (fun c j a b => zu_nc (by omega))
        refine ⟨shW3 hm, by rw [zzW3 hm]; exact v, shM hm, s_bg0 hP hm (CX_w hl hm hX1 hW1).1.1 hB (fun q => hz (bg_n (by omega) hl q).2) (zip rfl (ih (i + 1) _ _ (by omega) (fun c j a b => by rw [zu_nc (by omega)]; exact f c j a b) (fun p hp hzp => ?_) ?_ (?_ : LW m (pfG A m B w F (i + 1)) (zu G (30 + 12 * m) i 0) _)))⟩
        · have e : p ≠ i := fun e => hz (by rw [← e]; exact hzp)
          rw [zu_nc (by omega), zu_nj e]; exact h1 p (by omega) hzp
        · rw [zu_nc (by omega), h2, gnw_s, if_pos (by omega)]; rfl
        · have eL : pfG A m B w F (i + 1) = pfG A m B w F i := by
            unfold pfG
            rw [cat, grpL, if_pos (by omega), List.append_nil]
          rw [eL]; exact hW1
  unfold w_X7_writeAll
  refine ⟨shM hm, _, pM6 hP hm, shW hm, ?_⟩
  have hX0 : CX A m B w F (zu I (26 + 12 * m) 8 0) := CX_c hl hm hX (fun c j a b => zu_nc (by omega))
  have hW0 : LW m [] (zu I (26 + 12 * m) 8 0) (zu (zu I (26 + 12 * m) 8 0) 7 16 0) := ⟨zu_same, fun i hi => absurd hi (by simp), fun c j a b d => zu_ne d⟩
  have LE := len_E (B := B) (m := m) w
  have b0 := bT 0 (by omega)
  rw [show Gp A m B w F 0 = 2 * cnq B m 2 0 w from rfl] at b0
  refine s_wp (s := 2) (p := 0) (h := 0) hP hm hl hX0 hQ (by decide) (by decide) rfl hW0 (by rw [fW_E, LE]; simp only [List.length_nil]; omega) (fun J1 w1 => ⟨_, lp (A 0 2) 0 (zu I (26 + 12 * m) 8 0) J1 (by omega) (fun c j a b => zu_nc (by omega)) (fun p hp => absurd hp (by omega)) (by rw [zu_same]; rfl) ?_⟩)
  rw [fW_E, List.nil_append] at w1
  unfold pfG
  rw [cat, List.append_nil]; exact w1
theorem w_L {A B : Nat → Nat → Nat} {m w : Nat} {I : zI} {P : zP} {K : Int32 → zI → zP → Prop} (hP : PSt P) (hm : m < 6) (hB : W0 A m) (hJ : ∀ p, p < A 0 2 → jok A p) (hH : ∀ k, k < A 0 3 → hok A k) (hC : CL A m B w I) (hQ : BQ A m B w) (k : ∀ n J r, (∀ c j, ¬ (7 ≤ c ∧ c ≤ 18) → ¬ (26 + 12 * m ≤ c ∧ c ≤ 31 + 12 * m) → J c j = I c j) → grw A m B w (grI A m B w n) = grI A m B w n → (TOT A m B w (grI A m B w n) ≤ 1000 ∧ r = nI (TOT A m B w (grI A m B w n)) ∧ LV A m B w (grI A m B w n) J) ∨ (1000 < TOT A m B w (grI A m B w n) ∧ r = -3 ∧ ∀ c j, ¬ (7 ≤ c ∧ c ≤ 18) → J c j = I c j) → K r J P) : w_X7_weaveIn (20 + 12 * m) I P K := by
  have hl := hB.2.2.2.2.1
  have hw := hC.2.2.1
  refine s_rd hP hm hB hJ hH hC hQ (fun n J f lc lf lg e => ?_)
  have ok := FOK_I (A := A) (B := B) (m := m) (w := w) n
  have bt := TOT_lt (A := A) (B := B) (m := m) hw ok.1 hB.2.2.2.2.2.2.2.2.2.2 hl hB.2.2.2.2.2.1
  unfold j_X7_weaveIn_44
  rw [lg.2.2.2.2.2.1]
  by_cases h : TOT A m B w (grI A m B w n) ≤ 1000
  · refine zip (by first | omega | decide | (simp (maxSteps := 400000) (disch := omega) only [q_lit, q_neg, nI_ltI, nI_leI, nI_eq, nI_add, pk_mul, pk_sub, nI_clamp, vp_q, zu_same, zu_nc, zu_nj, ng_lt, ng_le, ng_gt, ng_ge, ng_eq, ng_qe, ng_ee, ng_add, not_false_eq_true, not_true_eq_false, ne_eq]; done) | (simp (maxSteps := 400000) (disch := omega) only [q_lit, q_neg, nI_ltI, nI_leI, nI_eq, nI_add, pk_mul, pk_sub, nI_clamp, vp_q, zu_same, zu_nc, zu_nj, ng_lt, ng_le, ng_gt, ng_ge, ng_eq, ng_qe, ng_ee, ng_add, not_false_eq_true, not_true_eq_false, ne_eq]; omega)) (s_wall hP hm hB hJ hH ok ⟨CL_7 hC f, lc, lf, lg⟩ hQ h (fun J2 f2 lv => ?_))
    have y15 : J2 7 15 = nI (TOT A m B w (grI A m B w n)) := by rw [f2 _ _ (by omega) (by omega)]; exact lg.2.2.2.2.2.1
    exact k n J2 _ (fun c j a b => by rw [f2 c j b (by omega)]; exact f c j a) e (Or.inl ⟨h, y15, lv⟩)
  · exact zin (by first | omega | decide | (simp (maxSteps := 400000) (disch := omega) only [q_lit, q_neg, nI_ltI, nI_leI, nI_eq, nI_add, pk_mul, pk_sub, nI_clamp, vp_q, zu_same, zu_nc, zu_nj, ng_lt, ng_le, ng_gt, ng_ge, ng_eq, ng_qe, ng_ee, ng_add, not_false_eq_true, not_true_eq_false, ne_eq]; done) | (simp (maxSteps := 400000) (disch := omega) only [q_lit, q_neg, nI_ltI, nI_leI, nI_eq, nI_add, pk_mul, pk_sub, nI_clamp, vp_q, zu_same, zu_nc, zu_nj, ng_lt, ng_le, ng_gt, ng_ge, ng_eq, ng_qe, ng_ee, ng_add, not_false_eq_true, not_true_eq_false, ne_eq]; omega)) (k n J _ (fun c j a b => f c j a) e (Or.inr ⟨by omega, rfl, f⟩))
