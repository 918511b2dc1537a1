/-! PURE 45: the loom's weaver: laying, growing, rounds -/
def nsp (m : Nat) (B : Nat → Nat → Nat) (w p : Nat) : Nat := sm (fun p => if cnq B m 1 p w = 0 then 0 else 1) p
def ncp (A : Nat → Nat → Nat) (m : Nat) (B : Nat → Nat → Nat) (w k : Nat) : Nat := sm (fun k => if cnq B m 5 (A 3 (4 * k + 2)) w = 0 then 0 else 1) k
theorem nsp_le {B : Nat → Nat → Nat} {m w : Nat} (p : Nat) : nsp m B w p ≤ p := sm_1 (fun p _ => by split <;> omega)
theorem ncp_le {A B : Nat → Nat → Nat} {m w : Nat} (p : Nat) : ncp A m B w p ≤ p := sm_1 (fun p _ => by split <;> omega)
theorem nsp_s {B : Nat → Nat → Nat} {m w p : Nat} : nsp m B w (p + 1) = nsp m B w p + if cnq B m 1 p w = 0 then 0 else 1 := rfl
theorem ncp_s {A B : Nat → Nat → Nat} {m w p : Nat} : ncp A m B w (p + 1) = ncp A m B w p + if cnq B m 5 (A 3 (4 * p + 2)) w = 0 then 0 else 1 := rfl
def LF (F : Nat → Nat → Nat) (J : zI) : Prop := (∀ p, p < 400 → J 16 p = nI (F 0 p) ∧ J 17 p = nI (F 1 p)) ∧ ∀ k, k < 8 → J 18 k = nI (F 2 k)
def LG (A : Nat → Nat → Nat) (m : Nat) (B : Nat → Nat → Nat) (w : Nat) (F : Nat → Nat → Nat) (J : zI) : Prop :=
  (∀ p, p < A 0 2 → 0 < A 2 p → J 12 p = nI (Gp A m B w F p) ∧ J 13 p = nI (Sp A m B w F p)) ∧ J 12 (A 0 2) = nI (Gp A m B w F (A 0 2)) ∧
  (∀ p, p < A 0 2 → 0 < cnq B m 1 p w → J 14 p = nI (SPp A m B w F p)) ∧ (∀ k, k < A 0 3 → 0 < cnq B m 5 (A 3 (4 * k + 2)) w → J 15 k = nI (CPp A m B w F k)) ∧
  J 7 14 = nI (LPp A m B w F) ∧ J 7 15 = nI (TOT A m B w F) ∧ J 7 13 = nI (nsp m B w (A 0 2) + ncp A m B w (A 0 3) + if cnq B m 3 0 w = 0 then 0 else 1)
theorem LCn_c {A B : Nat → Nat → Nat} {m w : Nat} {I J : zI} (hl : A 0 2 ≤ 400) (h : LCn A m B w I) (f : ∀ c j, (8 ≤ c ∧ c ≤ 11) ∨ (c = 7 ∧ j ≤ 12) → J c j = I c j) : LCn A m B w J := by
  obtain ⟨h1, h2, h3, h4⟩ := h
  exact ⟨fun p hp hz => ⟨by rw [f _ _ (by omega)]; exact (h1 p hp hz).1, by rw [f _ _ (by omega)]; exact (h1 p hp hz).2⟩, fun p hp => ⟨by rw [f _ _ (by omega)]; exact (h2 p hp).1, by rw [f _ _ (by omega)]; exact (h2 p hp).2⟩, by rw [f _ _ (by omega)]; exact h3, by rw [f _ _ (by omega)]; exact h4⟩
theorem LF_c {F : Nat → Nat → Nat} {I J : zI} (h : LF F I) (f : ∀ c j, 16 ≤ c ∧ c ≤ 18 → J c j = I c j) : LF F J := by
  obtain ⟨h1, h2⟩ := h
  exact ⟨fun p hp => ⟨by rw [f _ _ (by omega)]; exact (h1 p hp).1, by rw [f _ _ (by omega)]; exact (h1 p hp).2⟩, fun k hk => by rw [f _ _ (by omega)]; exact h2 k hk⟩
theorem LG_c {A B F : Nat → Nat → Nat} {m w : Nat} {I J : zI} (h : LG A m B w F I) (f : ∀ c j, (12 ≤ c ∧ c ≤ 15) ∨ (c = 7 ∧ 13 ≤ j ∧ j ≤ 15) → J c j = I c j) : LG A m B w F J := by
  obtain ⟨h1, h2, h3, h4, h5, h6, h7⟩ := h
  exact ⟨fun p hp hz => ⟨by rw [f _ _ (by omega)]; exact (h1 p hp hz).1, by rw [f _ _ (by omega)]; exact (h1 p hp hz).2⟩, by rw [f _ _ (by omega)]; exact h2, fun p hp hz => by rw [f _ _ (by omega)]; exact h3 p hp hz, fun p hp hz => by rw [f _ _ (by omega)]; exact h4 p hp hz, by rw [f _ _ (by omega)]; exact h5, by rw [f _ _ (by omega)]; exact h6, by rw [f _ _ (by omega)]; exact h7⟩
theorem nI_inj {a b : Nat} (ha : a < 2 ^ 31) (hb : b < 2 ^ 31) (h : nI a = nI b) : a = b := (nI_eq ha hb).mp h
theorem bg_n {A : Nat → Nat → Nat} {v : Nat} (hv : v < 2 ^ 31) (hl : A 0 2 ≤ 400) (h : isbg A (nI v)) : v < A 0 2 ∧ 0 < A 2 v := by
  obtain ⟨j, hj, e, hz⟩ := h
  have := nI_inj hv (by omega) e
  subst this; exact ⟨hj, hz⟩
theorem hk_t {A : Nat → Nat → Nat} {m k : Nat} (hB : W0 A m) (h : hok A k) : A 3 (4 * k + 2) < A 0 2 ∧ 0 < A 2 (A 3 (4 * k + 2)) := bg_n (by have := hB.2.2.2.2.2.2.2.1 (4 * k + 2); omega) hB.2.2.2.2.1 h.2.1
theorem hk_f {A : Nat → Nat → Nat} {m k : Nat} (hB : W0 A m) (h : hok A k) : A 3 (4 * k) < A 0 2 ∧ 0 < A 2 (A 3 (4 * k)) := bg_n (by have := hB.2.2.2.2.2.2.2.1 (4 * k); omega) hB.2.2.2.2.1 h.1
theorem hk_u {A : Nat → Nat → Nat} {m k : Nat} (hB : W0 A m) (h : hok A k) : A 3 (4 * k + 1) = A 0 2 ∨ (A 3 (4 * k + 1) < A 0 2 ∧ 0 < A 2 (A 3 (4 * k + 1))) := h.2.2.1.imp id (fun q => bg_n (by have := hB.2.2.2.2.2.2.2.1 (4 * k + 1); omega) hB.2.2.2.2.1 q)
theorem tg_n {A : Nat → Nat → Nat} {m p i : Nat} (hB : W0 A m) (h : jok A p) (hz : 0 < A 2 p) (hi : i < njp A p) : tgx A p i = nI (tgn A p i) ∧ tgn A p i < A 0 2 ∧ 0 < A 2 (tgn A p i) := by
  obtain ⟨j, hj, e, hz'⟩ := h hz i hi
  have hl := hB.2.2.2.2.1
  unfold tgn
  rw [e, nI_clamp (by omega)]
  exact ⟨rfl, hj, hz'⟩
theorem s_ca {A B : Nat → Nat → Nat} {m w k : Nat} {J : zI} {P : zP} {K : Int32 → zI → zP → Prop} (hP : PSt P) (hm : m < 6) (hB : W0 A m) (hL : LM0 A m J) (hC : LCn A m B w J) (hk : k < A 0 3) (hh : hok A k) (kk : K (nI (cnq B m 5 (A 3 (4 * k + 2)) w)) J P) : w_X7_caughtAt (20 + 12 * m) (nI k) J P K := by
  unfold w_X7_caughtAt
  obtain ⟨t1, t2⟩ := hk_t hB hh
  have hl := hB.2.2.2.2.1
  have h8 := hB.2.2.2.2.2.1
  refine ⟨shM hm, _, pM5 hP hm, s_hpart (w := 2) (shM5 hm) (zzM5 hm) (by decide) (by omega) ?_⟩
  rw [hL.2.2.2.2.2 _ (by omega)]
  refine s_bg1 hP hm hL hB ⟨_, t1, rfl, t2⟩ (zin (by decide) ⟨vp_in_nI (by omega) (by decide), ?_⟩)
  rw [nI_clamp (by omega), (hC.2.1 _ (by omega)).2]
  exact kk
theorem s_ga {t : Nat} {J : zI} {P : zP} {K : Int32 → zI → zP → Prop} (ht : t ≤ 400) (k : K (J 12 t) J P) : w_X7_groupAt (nI t) J P K := by
  unfold w_X7_groupAt
  rw [nI_clamp (by omega)]
  exact zin (by first | omega | decide | (simp (maxSteps := 400000) (disch := omega) only [q_lit, q_neg, nI_ltI, nI_leI, nI_eq, nI_add, pk_mul, pk_sub, nI_clamp, vp_q, zu_same, zu_nc, zu_nj, ng_lt, ng_le, ng_gt, ng_ge, ng_eq, ng_qe, ng_ee, ng_add, not_false_eq_true, not_true_eq_false, ne_eq]; done) | (simp (maxSteps := 400000) (disch := omega) only [q_lit, q_neg, nI_ltI, nI_leI, nI_eq, nI_add, pk_mul, pk_sub, nI_clamp, vp_q, zu_same, zu_nc, zu_nj, ng_lt, ng_le, ng_gt, ng_ge, ng_eq, ng_qe, ng_ee, ng_add, not_false_eq_true, not_true_eq_false, ne_eq]; omega)) (zin (by first | omega | decide | (simp (maxSteps := 400000) (disch := omega) only [q_lit, q_neg, nI_ltI, nI_leI, nI_eq, nI_add, pk_mul, pk_sub, nI_clamp, vp_q, zu_same, zu_nc, zu_nj, ng_lt, ng_le, ng_gt, ng_ge, ng_eq, ng_qe, ng_ee, ng_add, not_false_eq_true, not_true_eq_false, ne_eq]; done) | (simp (maxSteps := 400000) (disch := omega) only [q_lit, q_neg, nI_ltI, nI_leI, nI_eq, nI_add, pk_mul, pk_sub, nI_clamp, vp_q, zu_same, zu_nc, zu_nj, ng_lt, ng_le, ng_gt, ng_ge, ng_eq, ng_qe, ng_ee, ng_add, not_false_eq_true, not_true_eq_false, ne_eq]; omega)) ⟨vp_in_nI (by omega) (by decide), k⟩)
theorem s_rc {a b : Nat} {J : zI} {P : zP} {K : Int32 → zI → zP → Prop} (ha : a < 2 ^ 30) (hb : b < 2 ^ 30) (k0 : farB a b = true → K 0 J P) (k1 : farB a b ≠ true → K 1 J P) : w_X7_reaches (nI a) (nI b) J P K := by
  unfold w_X7_reaches
  have e := pk_sub_toInt hb ha
  have e1 : (-128 : Int32).toInt = -128 := by decide
  have e2 : (127 : Int32).toInt = 127 := by decide
  by_cases c1 : nI b - nI a < -128
  · refine zip c1 (k0 (farB_t.mpr (fun q => ?_)))
    rw [Int32.lt_iff_toInt_lt, e, e1] at c1; omega
  · refine zin c1 ?_
    rw [Int32.lt_iff_toInt_lt, e, e1] at c1
    by_cases c2 : 127 < nI b - nI a
    · refine zip c2 (k0 (farB_t.mpr (fun q => ?_)))
      rw [Int32.lt_iff_toInt_lt, e, e2] at c2; omega
    · refine zin c2 (k1 (fun q => farB_t.mp q ?_))
      rw [Int32.lt_iff_toInt_lt, e, e2] at c2
      omega
theorem njp_1 {A : Nat → Nat → Nat} {p : Nat} (h : isSt (A 1 p) ∨ isLg (A 1 p)) : 0 < njp A p := by
  unfold njp; split
  · omega
  · decide
theorem s_ld {A B F : Nat → Nat → Nat} {m w p i : Nat} {J : zI} {P : zP} {K : Int32 → zI → zP → Prop} (hP : PSt P) (hm : m < 6) (hB : W0 A m) (hL : LM0 A m J) (hC : LCn A m B w J) (hw : w ≤ 24) (hG : LG A m B w F J) (hp : p < A 0 2) (hz : 0 < A 2 p) (hj : jok A p) (hi : i < njp A p) (k : K (nI (dst A m B w F p i)) J P) : w_X7_leadsTo (20 + 12 * m) (nI p) (nI i) J P K := by
  unfold w_X7_leadsTo
  have hl := hB.2.2.2.2.1
  have hc := cnq_le (B := B) (m := m) (s := 1) (p := p) w
  have v : vp_in (nI p) 400 := vp_in_nI (by omega) (by decide)
  rw [nI_clamp (by omega), (hC.2.1 p (by omega)).1]
  unfold dst at k
  refine ⟨v, ?_⟩
  by_cases e : cnq B m 1 p w = 0
  · rw [if_pos e] at k
    obtain ⟨t1, t2, t3⟩ := tg_n hB hj hz hi
    refine zip (by rw [e]; decide) ⟨shM hm, _, pM1 hP hm, s_ta hm hL hB hp hz hi ?_⟩
    rw [t1]
    refine s_ga (by omega) ?_
    rw [(hG.1 _ t2 t3).1]; exact k
  · rw [if_neg e] at k
    refine zin (by first | omega | decide | (simp (maxSteps := 400000) (disch := omega) only [q_lit, q_neg, nI_ltI, nI_leI, nI_eq, nI_add, pk_mul, pk_sub, nI_clamp, vp_q, zu_same, zu_nc, zu_nj, ng_lt, ng_le, ng_gt, ng_ge, ng_eq, ng_qe, ng_ee, ng_add, not_false_eq_true, not_true_eq_false, ne_eq]; done) | (simp (maxSteps := 400000) (disch := omega) only [q_lit, q_neg, nI_ltI, nI_leI, nI_eq, nI_add, pk_mul, pk_sub, nI_clamp, vp_q, zu_same, zu_nc, zu_nj, ng_lt, ng_le, ng_gt, ng_ge, ng_eq, ng_qe, ng_ee, ng_add, not_false_eq_true, not_true_eq_false, ne_eq]; omega)) ⟨v, ?_⟩
    rw [hG.2.2.1 p hp (by omega)]; exact k
theorem f01 {F : Nat → Nat → Nat} (h : ∀ i p, F i p ≤ 1) (i p : Nat) : F i p = 0 ∨ F i p = 1 := by have := h i p; omega
theorem s_lay {A B F : Nat → Nat → Nat} {m w : Nat} {I : zI} {P : zP} {K : zI → zP → Prop} (hP : PSt P) (hm : m < 6) (hB : W0 A m) (hH : ∀ k, k < A 0 3 → hok A k) (hL : LM0 A m I) (hC : LCn A m B w I) (hw : w ≤ 24) (hF : ∀ i p, F i p ≤ 1) (hI : LF F I) (k : ∀ J, (∀ c j, ¬ (12 ≤ c ∧ c ≤ 15) → ¬ (c = 7 ∧ 13 ≤ j) → J c j = I c j) → LG A m B w F J → K J P) : w_X7_layAll (20 + 12 * m) I P K := by
  have hl := hB.2.2.2.2.1
  have h8 := hB.2.2.2.2.2.1
  have hA := hB.2.2.2.2.2.2.2.2.2.2
  have c3 := cnq_le (B := B) (m := m) (s := 3) (p := 0) w
  have l3 : ∀ d i J, i + d = A 0 3 → (∀ c j, ¬ (12 ≤ c ∧ c ≤ 15) → ¬ (c = 7 ∧ 13 ≤ j) → J c j = I c j) → (∀ p, p < A 0 2 → 0 < A 2 p → J 12 p = nI (Gp A m B w F p) ∧ J 13 p = nI (Sp A m B w F p)) → J 12 (A 0 2) = nI (Gp A m B w F (A 0 2)) → (∀ p, p < A 0 2 → 0 < cnq B m 1 p w → J 14 p = nI (SPp A m B w F p)) → (∀ q, q < i → 0 < cnq B m 5 (A 3 (4 * q + 2)) w → J 15 q = nI (CPp A m B w F q)) → J 7 13 = nI (nsp m B w (A 0 2) + ncp A m B w i) → l_X7_layAll_173 K (d + 1) (20 + 12 * m) (nI (CPp A m B w F i)) (nI i) J P := by
    intro d
    induction d with
    | zero =>
      intro i J hi f h1 h2 h3 h4 h5
      obtain rfl : i = A 0 3 := by omega
      rw [l_X7_layAll_173]
      refine ⟨shM hm, zip (by rw [f _ _ (by omega) (by omega), hL.2.2.2.1]; first | omega | decide | (simp (maxSteps := 400000) (disch := omega) only [q_lit, q_neg, nI_ltI, nI_leI, nI_eq, nI_add, pk_mul, pk_sub, nI_clamp, vp_q, zu_same, zu_nc, zu_nj, ng_lt, ng_le, ng_gt, ng_ge, ng_eq, ng_qe, ng_ee, ng_add, not_false_eq_true, not_true_eq_false, ne_eq]; done) | (simp (maxSteps := 400000) (disch := omega) only [q_lit, q_neg, nI_ltI, nI_leI, nI_eq, nI_add, pk_mul, pk_sub, nI_clamp, vp_q, zu_same, zu_nc, zu_nj, ng_lt, ng_le, ng_gt, ng_ge, ng_eq, ng_qe, ng_ee, ng_add, not_false_eq_true, not_true_eq_false, ne_eq]; omega)) ?_⟩
      rw [f 7 12 (by omega) (by omega), hC.2.2.2]
      by_cases e : cnq B m 3 0 w = 0
      · refine zip (by rw [e]; decide) ?_
        unfold j_X7_layAll_272
        refine k _ (fun c j a b => by rw [zu_ne (by omega), zu_ne (by omega)]; exact f c j a b) ⟨fun p hp hz => ?_, ?_, fun p hp hz => ?_, fun q hq hz => ?_, ?_, ?_, ?_⟩
        · rw [zu_nc (by omega), zu_nc (by omega), zu_nc (by omega), zu_nc (by omega)]; exact h1 p hp hz
        · rw [zu_nc (by omega), zu_nc (by omega)]; exact h2
        · rw [zu_nc (by omega), zu_nc (by omega)]; exact h3 p hp hz
        · rw [zu_nc (by omega), zu_nc (by omega)]; exact h4 q hq hz
        · rw [zu_nj (by omega), zu_same]; rfl
        · rw [zu_same]; unfold TOT; rw [if_pos e]; rfl
        · rw [zu_nj (by omega), zu_nj (by omega), h5, if_pos e]; rfl
      · refine zin (by first | omega | decide | (simp (maxSteps := 400000) (disch := omega) only [q_lit, q_neg, nI_ltI, nI_leI, nI_eq, nI_add, pk_mul, pk_sub, nI_clamp, vp_q, zu_same, zu_nc, zu_nj, ng_lt, ng_le, ng_gt, ng_ge, ng_eq, ng_qe, ng_ee, ng_add, not_false_eq_true, not_true_eq_false, ne_eq]; done) | (simp (maxSteps := 400000) (disch := omega) only [q_lit, q_neg, nI_ltI, nI_leI, nI_eq, nI_add, pk_mul, pk_sub, nI_clamp, vp_q, zu_same, zu_nc, zu_nj, ng_lt, ng_le, ng_gt, ng_ge, ng_eq, ng_qe, ng_ee, ng_add, not_false_eq_true, not_true_eq_false, ne_eq]; omega)) ?_
        unfold j_X7_layAll_272
        refine k _ (fun c j a b => by rw [zu_ne (by omega), zu_ne (by omega), zu_ne (by omega)]; exact f c j a b) ⟨fun p hp hz => ?_, ?_, fun p hp hz => ?_, fun q hq hz => ?_, ?_, ?_, ?_⟩
        · rw [zu_nc (by omega), zu_nc (by omega), zu_nc (by omega), zu_nc (by omega), zu_nc (by omega), zu_nc (by omega)]; exact h1 p hp hz
        · rw [zu_nc (by omega), zu_nc (by omega), zu_nc (by omega)]; exact h2
        · rw [zu_nc (by omega), zu_nc (by omega), zu_nc (by omega)]; exact h3 p hp hz
        · rw [zu_nc (by omega), zu_nc (by omega), zu_nc (by omega)]; exact h4 q hq hz
        · rw [zu_nj (by omega), zu_nj (by omega), zu_same]; rfl
        · rw [zu_same]; unfold TOT LPp; rw [if_neg e, ← nq2, ← nq1, pk_mul, nI_add, nI_add]
        · rw [zu_nj (by omega), zu_same, h5, if_neg e, ← nq1, nI_add]
    | succ d ih =>
      intro i J hi f h1 h2 h3 h4 h5
      have hLJ : LM0 A m J := LM0_c hL (fun c j a b => f c j (by omega) (by omega))
      have hCJ : LCn A m B w J := LCn_c hl hC (fun c j a => f c j (by omega) (by omega))
      have c5 := cnq_le (B := B) (m := m) (s := 5) (p := A 3 (4 * i + 2)) w
      have v : vp_in (nI i) 8 := vp_in_nI (by omega) (by decide)
      rw [l_X7_layAll_173, nI_1]
      refine ⟨shM hm, zin (by rw [hLJ.2.2.2.1]; first | omega | decide | (simp (maxSteps := 400000) (disch := omega) only [q_lit, q_neg, nI_ltI, nI_leI, nI_eq, nI_add, pk_mul, pk_sub, nI_clamp, vp_q, zu_same, zu_nc, zu_nj, ng_lt, ng_le, ng_gt, ng_ge, ng_eq, ng_qe, ng_ee, ng_add, not_false_eq_true, not_true_eq_false, ne_eq]; done) | (simp (maxSteps := 400000) (disch := omega) only [q_lit, q_neg, nI_ltI, nI_leI, nI_eq, nI_add, pk_mul, pk_sub, nI_clamp, vp_q, zu_same, zu_nc, zu_nj, ng_lt, ng_le, ng_gt, ng_ge, ng_eq, ng_qe, ng_ee, ng_add, not_false_eq_true, not_true_eq_false, ne_eq]; omega)) (s_ca hP hm hB hLJ hCJ (by omega) (hH i (by omega)) ?_)⟩
      by_cases e : cnq B m 5 (A 3 (4 * i + 2)) w = 0
      · refine zip (by rw [e]; decide) ?_
        have := ih (i + 1) J (by omega) f h1 h2 h3 (fun q hq hz => by
          by_cases z : q = i
          · subst z; omega
          · exact h4 q (by omega) hz) (by rw [ncp_s, if_pos e]; exact h5)
        rw [CPp, if_pos e] at this
        exact this
      · refine zin (by first | omega | decide | (simp (maxSteps := 400000) (disch := omega) only [q_lit, q_neg, nI_ltI, nI_leI, nI_eq, nI_add, pk_mul, pk_sub, nI_clamp, vp_q, zu_same, zu_nc, zu_nj, ng_lt, ng_le, ng_gt, ng_ge, ng_eq, ng_qe, ng_ee, ng_add, not_false_eq_true, not_true_eq_false, ne_eq]; done) | (simp (maxSteps := 400000) (disch := omega) only [q_lit, q_neg, nI_ltI, nI_leI, nI_eq, nI_add, pk_mul, pk_sub, nI_clamp, vp_q, zu_same, zu_nc, zu_nj, ng_lt, ng_le, ng_gt, ng_ge, ng_eq, ng_qe, ng_ee, ng_add, not_false_eq_true, not_true_eq_false, ne_eq]; omega)) ⟨v, v, ?_⟩
        rw [nI_clamp (by omega)]
        have nx : ∀ x : Int32, x = nI (CPp A m B w F (i + 1)) → l_X7_layAll_173 K (d + 1) (20 + 12 * m) x (nI (i + 1)) (zu (zu J 15 i (nI (CPp A m B w F i))) 7 13 (((zu J 15 i (nI (CPp A m B w F i))) 7 13) + 1)) P := fun x hx => by
          rw [hx]
          refine ih (i + 1) _ (by omega) (fun c j a b => by rw [zu_ne (by omega), zu_nc (by omega)]; exact f c j a b) (fun p hp hz => ?_) ?_ (fun p hp hz => ?_) (fun q hq hz => ?_) ?_
          · rw [zu_nc (by omega), zu_nc (by omega), zu_nc (by omega), zu_nc (by omega)]; exact h1 p hp hz
          · rw [zu_nc (by omega), zu_nc (by omega)]; exact h2
          · rw [zu_nc (by omega), zu_nc (by omega)]; exact h3 p hp hz
          · rw [zu_nc (by omega)]
            by_cases z : q = i
            · rw [z, zu_same]
            · rw [zu_nj z]; exact h4 q (by omega) hz
          · rw [zu_same, zu_nc (by omega), h5, nI_1, ncp_s, if_neg e]; rfl
        have f18 : J 18 i = nI (F 2 i) := by rw [f _ _ (by omega) (by omega)]; exact hI.2 i (by omega)
        rw [zu_nc (a := 18) (by omega), f18]
        rcases f01 hF 2 i with z | z
        · refine zip (by rw [z]; rfl) ?_
          unfold j_X7_layAll_220
          rw [nI_1]
          exact nx _ (by rw [CPp, if_neg e, z, ← nq2, pk_mul, nI_add, nI_add]; congr 1)
        · refine zin (by rw [z]; decide) ?_
          unfold j_X7_layAll_220
          rw [nI_1]
          exact nx _ (by rw [CPp, if_neg e, z, ← nq2, ← nq3, pk_mul, nI_add, nI_add]; congr 1)
  have l2 : ∀ d i J, i + d = A 0 2 → (∀ c j, ¬ (12 ≤ c ∧ c ≤ 15) → ¬ (c = 7 ∧ 13 ≤ j) → J c j = I c j) → (∀ p, p < A 0 2 → 0 < A 2 p → J 12 p = nI (Gp A m B w F p) ∧ J 13 p = nI (Sp A m B w F p)) → J 12 (A 0 2) = nI (Gp A m B w F (A 0 2)) → (∀ p, p < i → 0 < cnq B m 1 p w → J 14 p = nI (SPp A m B w F p)) → J 7 13 = nI (nsp m B w i) → l_X7_layAll_105 K (d + 1) (20 + 12 * m) (nI (SPp A m B w F i)) (nI i) J P := by
    intro d
    induction d with
    | zero =>
      intro i J hi f h1 h2 h3 h5
      obtain rfl : i = A 0 2 := by omega
      rw [l_X7_layAll_105]
      refine ⟨shM hm, zip (by rw [f _ _ (by omega) (by omega), hL.2.2.1]; first | omega | decide | (simp (maxSteps := 400000) (disch := omega) only [q_lit, q_neg, nI_ltI, nI_leI, nI_eq, nI_add, pk_mul, pk_sub, nI_clamp, vp_q, zu_same, zu_nc, zu_nj, ng_lt, ng_le, ng_gt, ng_ge, ng_eq, ng_qe, ng_ee, ng_add, not_false_eq_true, not_true_eq_false, ne_eq]; done) | (simp (maxSteps := 400000) (disch := omega) only [q_lit, q_neg, nI_ltI, nI_leI, nI_eq, nI_add, pk_mul, pk_sub, nI_clamp, vp_q, zu_same, zu_nc, zu_nj, ng_lt, ng_le, ng_gt, ng_ge, ng_eq, ng_qe, ng_ee, ng_add, not_false_eq_true, not_true_eq_false, ne_eq]; omega)) ⟨_, l3 (A 0 3) 0 J (by omega) f h1 h2 h3 (fun q hq => absurd hq (by omega)) h5⟩⟩
    | succ d ih =>
      intro i J hi f h1 h2 h3 h5
      have c5 := cnq_le (B := B) (m := m) (s := 1) (p := i) w
      have v : vp_in (nI i) 400 := vp_in_nI (by omega) (by decide)
      have f10 : J 10 i = nI (cnq B m 1 i w) := by rw [f _ _ (by omega) (by omega)]; exact (hC.2.1 i (by omega)).1
      rw [l_X7_layAll_105, nI_1, nI_clamp (by omega), f10]
      refine ⟨shM hm, zin (by rw [f _ _ (by omega) (by omega), hL.2.2.1]; first | omega | decide | (simp (maxSteps := 400000) (disch := omega) only [q_lit, q_neg, nI_ltI, nI_leI, nI_eq, nI_add, pk_mul, pk_sub, nI_clamp, vp_q, zu_same, zu_nc, zu_nj, ng_lt, ng_le, ng_gt, ng_ge, ng_eq, ng_qe, ng_ee, ng_add, not_false_eq_true, not_true_eq_false, ne_eq]; done) | (simp (maxSteps := 400000) (disch := omega) only [q_lit, q_neg, nI_ltI, nI_leI, nI_eq, nI_add, pk_mul, pk_sub, nI_clamp, vp_q, zu_same, zu_nc, zu_nj, ng_lt, ng_le, ng_gt, ng_ge, ng_eq, ng_qe, ng_ee, ng_add, not_false_eq_true, not_true_eq_false, ne_eq]; omega)) ⟨v, ?_⟩⟩
      by_cases e : cnq B m 1 i w = 0
      · refine zip (by rw [e]; decide) ?_
        have := ih (i + 1) J (by omega) f h1 h2 (fun q hq hz => by
          by_cases z : q = i
          · subst z; omega
          · exact h3 q (by omega) hz) (by rw [nsp_s, if_pos e]; exact h5)
        rw [SPp, if_pos e] at this
        exact this
      · refine zin (by first | omega | decide | (simp (maxSteps := 400000) (disch := omega) only [q_lit, q_neg, nI_ltI, nI_leI, nI_eq, nI_add, pk_mul, pk_sub, nI_clamp, vp_q, zu_same, zu_nc, zu_nj, ng_lt, ng_le, ng_gt, ng_ge, ng_eq, ng_qe, ng_ee, ng_add, not_false_eq_true, not_true_eq_false, ne_eq]; done) | (simp (maxSteps := 400000) (disch := omega) only [q_lit, q_neg, nI_ltI, nI_leI, nI_eq, nI_add, pk_mul, pk_sub, nI_clamp, vp_q, zu_same, zu_nc, zu_nj, ng_lt, ng_le, ng_gt, ng_ge, ng_eq, ng_qe, ng_ee, ng_add, not_false_eq_true, not_true_eq_false, ne_eq]; omega)) ⟨v, v, v, ?_⟩
        have nx : ∀ x : Int32, x = nI (SPp A m B w F (i + 1)) → l_X7_layAll_105 K (d + 1) (20 + 12 * m) x (nI (i + 1)) (zu (zu J 14 i (nI (SPp A m B w F i))) 7 13 (((zu J 14 i (nI (SPp A m B w F i))) 7 13) + 1)) P := fun x hx => by
          rw [hx]
          refine ih (i + 1) _ (by omega) (fun c j a b => by rw [zu_ne (by omega), zu_nc (by omega)]; exact f c j a b) (fun p hp hz => ?_) ?_ (fun q hq hz => ?_) ?_
          · rw [zu_nc (by omega), zu_nc (by omega), zu_nc (by omega), zu_nc (by omega)]; exact h1 p hp hz
          · rw [zu_nc (by omega), zu_nc (by omega)]; exact h2
          · rw [zu_nc (by omega)]
            by_cases z : q = i
            · rw [z, zu_same]
            · rw [zu_nj z]; exact h3 q (by omega) hz
          · rw [zu_same, zu_nc (by omega), h5, nI_1, nsp_s, if_neg e]
        have f17 : J 17 i = nI (F 1 i) := by rw [f _ _ (by omega) (by omega)]; exact (hI.1 i (by omega)).2
        rw [zu_nc (a := 17) (by omega), f17, zu_nc (a := 10) (by omega), f10]
        rcases f01 hF 1 i with z | z
        · refine zip (by rw [z]; rfl) ?_
          unfold j_X7_layAll_152
          rw [nI_1]
          exact nx _ (by rw [SPp, if_neg e, z, ← nq2, ← nq3, pk_mul, nI_add, nI_add]; congr 1)
        · refine zin (by rw [z]; decide) ?_
          unfold j_X7_layAll_152
          rw [nI_1]
          exact nx _ (by rw [SPp, if_neg e, z, ← nq3, pk_mul, nI_add, nI_add]; congr 1)
  have l1 : ∀ d i J, i + d = A 0 2 → (∀ c j, ¬ (12 ≤ c ∧ c ≤ 15) → ¬ (c = 7 ∧ 13 ≤ j) → J c j = I c j) → (∀ p, p < i → 0 < A 2 p → J 12 p = nI (Gp A m B w F p) ∧ J 13 p = nI (Sp A m B w F p)) → l_X7_layAll_9 K (d + 1) (20 + 12 * m) (nI (Gp A m B w F i)) (nI i) J P := by
    intro d
    induction d with
    | zero =>
      intro i J hi f h1
      obtain rfl : i = A 0 2 := by omega
      rw [l_X7_layAll_9, f (20 + 12 * m) 9 (by omega) (by omega), hL.2.2.1, nI_clamp (by omega)]
      refine ⟨shM hm, zip (by first | omega | decide | (simp (maxSteps := 400000) (disch := omega) only [q_lit, q_neg, nI_ltI, nI_leI, nI_eq, nI_add, pk_mul, pk_sub, nI_clamp, vp_q, zu_same, zu_nc, zu_nj, ng_lt, ng_le, ng_gt, ng_ge, ng_eq, ng_qe, ng_ee, ng_add, not_false_eq_true, not_true_eq_false, ne_eq]; done) | (simp (maxSteps := 400000) (disch := omega) only [q_lit, q_neg, nI_ltI, nI_leI, nI_eq, nI_add, pk_mul, pk_sub, nI_clamp, vp_q, zu_same, zu_nc, zu_nj, ng_lt, ng_le, ng_gt, ng_ge, ng_eq, ng_qe, ng_ee, ng_add, not_false_eq_true, not_true_eq_false, ne_eq]; omega)) ⟨vp_in_nI (by omega) (by decide), ⟨_, l2 (A 0 2) 0 _ (by omega) (fun c j a b => by rw [zu_ne (by omega), zu_nc (by omega)]; exact f c j a b) (fun p hp hz => ?_) ?_ (fun q hq => absurd hq (by omega)) ?_⟩⟩⟩
      · rw [zu_nc (by omega), zu_nj (by omega), zu_nc (by omega), zu_nc (by omega)]; exact h1 p hp hz
      · rw [zu_nc (by omega), zu_same]
      · rw [zu_same]; rfl
    | succ d ih =>
      intro i J hi f h1
      have hLJ : LM0 A m J := LM0_c hL (fun c j a b => f c j (by omega) (by omega))
      have v : vp_in (nI i) 400 := vp_in_nI (by omega) (by decide)
      have v1 : vp_in (nI i) 401 := vp_in_nI (by omega) (by decide)
      rw [l_X7_layAll_9, nI_1]
      refine ⟨shM hm, zin (by rw [hLJ.2.2.1]; first | omega | decide | (simp (maxSteps := 400000) (disch := omega) only [q_lit, q_neg, nI_ltI, nI_leI, nI_eq, nI_add, pk_mul, pk_sub, nI_clamp, vp_q, zu_same, zu_nc, zu_nj, ng_lt, ng_le, ng_gt, ng_ge, ng_eq, ng_qe, ng_ee, ng_add, not_false_eq_true, not_true_eq_false, ne_eq]; done) | (simp (maxSteps := 400000) (disch := omega) only [q_lit, q_neg, nI_ltI, nI_leI, nI_eq, nI_add, pk_mul, pk_sub, nI_clamp, vp_q, zu_same, zu_nc, zu_nj, ng_lt, ng_le, ng_gt, ng_ge, ng_eq, ng_qe, ng_ee, ng_add, not_false_eq_true, not_true_eq_false, ne_eq]; omega)) ?_⟩
      by_cases hz : 0 < A 2 i
      · refine s_bg1 hP hm hLJ hB ⟨i, by omega, rfl, hz⟩ (zin (by decide) ⟨v1, v, v, v, _, pM2 hP hm, shM2 hm, by rw [zzM2 hm]; exact v, v, ?_⟩)
        have f8 : J 8 i = nI (ahn A m B w i) := by rw [f _ _ (by omega) (by omega)]; exact (hC.1 i (by omega) hz).1
        have f9 : J 9 i = nI (bhn m B w i) := by rw [f _ _ (by omega) (by omega)]; exact (hC.1 i (by omega) hz).2
        have f16 : J 16 i = nI (F 0 i) := by rw [f _ _ (by omega) (by omega)]; exact (hI.1 i (by omega)).1
        have f22 := (hLJ.2.2.2.2.1 i (by omega)).2
        rw [nI_clamp (by omega), zu_nc (a := 8) (by omega), f8, nI_add, zu_same, zu_nc (a := 16) (by omega), zu_nc (a := 16) (by omega), f16, zu_nc (a := 22 + 12 * m) (by omega), zu_nc (a := 22 + 12 * m) (by omega), f22, nI_add]
        have nx : ∀ x : Int32, x = nI (Gp A m B w F (i + 1)) → l_X7_layAll_9 K (d + 1) (20 + 12 * m) x (nI (i + 1)) (zu (zu J 12 i (nI (Gp A m B w F i))) 13 i (nI (Gp A m B w F i + ahn A m B w i))) P := fun x hx => by
          rw [hx]
          refine ih (i + 1) _ (by omega) (fun c j a b => by rw [zu_nc (by omega), zu_nc (by omega)]; exact f c j a b) (fun q hq hz' => ?_)
          by_cases e : q = i
          · subst e
            rw [zu_nc (by omega), zu_same, zu_same]; exact ⟨rfl, rfl⟩
          · rw [zu_nc (by omega), zu_nj e, zu_nj e, zu_nc (by omega)]; exact h1 q (by omega) hz'
        rcases f01 hF 0 i with z | z
        · refine zip (by rw [z]; rfl) ?_
          unfold j_X7_layAll_73
          rw [nI_1, nI_clamp (by omega), zu_nc (a := 9) (by omega), zu_nc (a := 9) (by omega), f9]
          exact ⟨v, nx _ (by rw [Gp, if_neg (by omega), z, ← nq0, nI_add, nI_add])⟩
        · refine zin (by rw [z]; decide) ?_
          unfold j_X7_layAll_73
          rw [nI_1, nI_1, nI_clamp (by omega), zu_nc (a := 9) (by omega), zu_nc (a := 9) (by omega), f9]
          exact ⟨v, nx _ (by rw [Gp, if_neg (by omega), z, nI_add])⟩
      · refine s_bg0 hP hm hLJ hB (fun q => hz (bg_n (by omega) hl q).2) (zip rfl ?_)
        have := ih (i + 1) J (by omega) f (fun q hq hz' => by
          by_cases e : q = i
          · subst e; exact absurd hz' hz
          · exact h1 q (by omega) hz')
        rw [Gp, if_pos (by omega)] at this
        exact this
  unfold w_X7_layAll
  rw [hC.2.2.1, ← nq2, pk_mul]
  exact ⟨_, l1 (A 0 2) 0 I (by omega) (fun _ _ _ _ => rfl) (fun q hq => absurd hq (by omega))⟩
