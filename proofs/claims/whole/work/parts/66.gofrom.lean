/-! PURE 27: the judge goes from a place -/
def NoT (A : Nat → Nat → Nat) (ar : Nat → Nat) : Prop := ¬ ∃ T, Cons A ar T
def GI (A : Nat → Nat → Nat) (m : Nat) (ar : Nat → Nat) (C : TS) (W : List Nat) (Qc : TS → Prop) (I : zI) : Prop :=
  LM0 A m I ∧ ((I 4 5 = 0 ∧ ∃ C' W', JS A m C' W' I ∧ blw C' C ∧ (∀ T, Cons A ar T → abv C' T) ∧ (∀ x, x ∉ W' → x ∉ W ∧ C' x = C x) ∧ mu C' (A 0 2) + W'.length ≤ mu C (A 0 2) + W.length ∧ Qc C') ∨ (I 4 5 = 1 ∧ NoT A ar))
theorem GI_come {A : Nat → Nat → Nat} {m q : Nat} {ar : Nat → Nat} {s : List Nat} {l : Nat → Nat} {C : TS} {W : List Nat} {Qc : TS → Prop} {I : zI} {P : zP} {K : zI → zP → Prop} (hP : PSt P) (hm : m < 6) (hB : W0 A m) (hG : GI A m ar C W Qc I) (hq : q < A 0 2) (h2 : 0 < A 2 q) (hs : gs s) (hl : gl l) (hc : ∀ T, Cons A ar T → Cov T q s l) (hQ : ∀ D E, blw E D → Qc D → Qc E) (k : ∀ I', FrC m I I' → GI A m ar C W (fun D => Qc D ∧ Cov D q s l) I' → K I' P) : w_X1_comeTo (20 + 12 * m) (nI q) (nI (enS s)) (nI (pqk l 12)) I P K := by
  obtain ⟨hL, ⟨h5, C', W', hJ, g1, g2, g3, g4, g5⟩ | ⟨h5, hn⟩⟩ := hG
  · refine s_come hP hm hB hJ hq h2 hs hl (fun D V I' z1 z2 z3 z4 z5 z6 z7 z8 => ?_) (fun I' z1 z2 z3 => ?_)
    · refine k I' z2 ⟨z1.1, Or.inl ⟨by rw [z3]; exact h5, D, V, z1, blw_t z5 g1, fun T hT => z6 T (g2 T hT) (hc T hT), fun x hx => ?_, by omega, hQ _ _ z5 g5, z4⟩⟩
      obtain ⟨y1, y2⟩ := z7 x hx
      obtain ⟨y3, y4⟩ := g3 x y1
      exact ⟨y3, by rw [y2, y4]⟩
    · exact k I' z2 ⟨LM0_C hm hL z2, Or.inr ⟨z3, fun ⟨T, hT⟩ => z1 T (g2 T hT) (hc T hT)⟩⟩
  · exact a_come hP hm hL hB h5 (fun I' f g => k I' f ⟨LM0_C hm hL f, Or.inr ⟨g, hn⟩⟩)
theorem GI_no {A : Nat → Nat → Nat} {m : Nat} {ar : Nat → Nat} {C : TS} {W : List Nat} {Qc Qd : TS → Prop} {x y z : Int32} {I : zI} {P : zP} {K : zI → zP → Prop} (hP : PSt P) (hm : m < 6) (hB : W0 A m) (hG : GI A m ar C W Qc I) (hx : ¬ isbg A x) (hn : NoT A ar) (k : ∀ I', FrC m I I' → GI A m ar C W Qd I' → K I' P) : w_X1_comeTo (20 + 12 * m) x y z I P K := by
  unfold w_X1_comeTo
  exact ⟨shM hm, s_bg0 hP hm hG.1 hB hx (zip rfl (k _ (FrC_u (by omega)) ⟨LM0_C hm hG.1 (FrC_u (by omega)), Or.inr ⟨zu_same, hn⟩⟩))⟩
theorem GI_J {A : Nat → Nat → Nat} {m : Nat} {ar : Nat → Nat} {C : TS} {W : List Nat} {Qc : TS → Prop} {I I' : zI} (hm : m < 6) (hG : GI A m ar C W Qc I) (f : FrJ I I') (h5 : I' 4 5 = I 4 5) : GI A m ar C W Qc I' := by
  have fl : ∀ c j, c ≠ 4 → I' c j = I c j := fun c j h => f c j (by omega)
  have hL : ∀ {B : Nat → Nat → Nat}, LM0 B m I → LM0 B m I' := fun h => by
    obtain ⟨h1, h2, h3, h4, h5, h6⟩ := h
    refine ⟨?_, ?_, ?_, ?_, fun p hp => ⟨?_, ?_⟩, fun k hk => ?_⟩
    · rw [fl _ _ (by omega)]; exact h1
    · rw [fl _ _ (by omega)]; exact h2
    · rw [fl _ _ (by omega)]; exact h3
    · rw [fl _ _ (by omega)]; exact h4
    · rw [fl _ _ (by omega)]; exact (h5 p hp).1
    · rw [fl _ _ (by omega)]; exact (h5 p hp).2
    · rw [fl _ _ (by omega)]; exact h6 k hk
  refine ⟨hL hG.1, ?_⟩
  rcases hG.2 with ⟨z5, D, V, hJ, g1, g2, g3, g4, g5⟩ | ⟨z5, hn⟩
  · refine Or.inl ⟨by rw [h5]; exact z5, D, V, ?_, g1, g2, g3, g4, g5⟩
    obtain ⟨j1, j2, j3, ⟨w1, w2, w3⟩, j5, j6⟩ := hJ
    refine ⟨hL j1, j2, fun p hp hp2 => ?_, ⟨?_, fun i hi => ?_, fun p hp => ?_⟩, j5, j6⟩
    · rw [fl _ _ (by omega), fl _ _ (by omega)]; exact j3 p hp hp2
    · rw [f _ _ (by omega)]; exact w1
    · rw [fl _ _ (by omega)]; exact w2 i hi
    · rw [fl _ _ (by omega)]; exact w3 p hp
  · exact Or.inr ⟨by rw [h5]; exact z5, hn⟩
theorem a_tg {A : Nat → Nat → Nat} {m p : Nat} {P : zP} {K : zI → zP → Prop} (hP : PSt P) (hm : m < 6) (hB : W0 A m) (hp : p < A 0 2) (h2 : 0 < A 2 p) : ∀ d i I, i + d = njp A p → LM0 A m I → I 4 5 = 1 → (∀ I', FrC m I I' → I' 4 5 = 1 → K I' P) → l_X1_goFrom_157 K (d + 1) (20 + 12 * m) (nI p) (nI (njp A p)) (nI i) I P := by
  have hn := njp_le hB hp h2
  intro d
  induction d with
  | zero =>
    intro i I hi hL h5 k
    obtain rfl : i = njp A p := by omega
    rw [l_X1_goFrom_157]
    exact zip (nI_le (Nat.le_refl _) (by omega)) (k I (FrC_r m I) h5)
  | succ d ih =>
    intro i I hi hL h5 k
    rw [l_X1_goFrom_157]
    refine zin (nI_ge (by omega) (by omega)) ⟨shM hm, _, pM1 hP hm, s_ta hm hL hB hp h2 (by omega) (a_come hP hm hL hB h5 (fun I' f g => ?_))⟩
    rw [nI_1]
    exact ih (i + 1) I' (by omega) (LM0_C hm hL f) g (fun I2 f2 g2 => k I2 (FrC_t f f2) g2)
theorem l_tg {A : Nat → Nat → Nat} {m p : Nat} {ar : Nat → Nat} {s : List Nat} {l : Nat → Nat} {C : TS} {W : List Nat} {Qc : TS → Prop} {P : zP} {K : zI → zP → Prop} (hP : PSt P) (hm : m < 6) (hB : W0 A m) (hp : p < A 0 2) (h2 : 0 < A 2 p) (hj : jok A p) (hs : gs s) (hl : gl l) (hc : ∀ T, Cons A ar T → ∀ i, i < njp A p → ∀ q, tgx A p i = nI q → q < A 0 2 → Cov T q s l) (hQ : ∀ D E, blw E D → Qc D → Qc E) : ∀ d i I, i + d = njp A p → I 4 3 = nI (enS s) → I 4 4 = nI (pqk l 12) → GI A m ar C W (fun D => Qc D ∧ ∀ j, j < i → ∀ q, tgx A p j = nI q → q < A 0 2 → Cov D q s l) I → (∀ I', FrC m I I' → GI A m ar C W (fun D => Qc D ∧ ∀ j, j < njp A p → ∀ q, tgx A p j = nI q → q < A 0 2 → Cov D q s l) I' → K I' P) → l_X1_goFrom_157 K (d + 1) (20 + 12 * m) (nI p) (nI (njp A p)) (nI i) I P := by
  have hn := njp_le hB hp h2
  have b1 := hB.2.2.2.2.1
  intro d
  induction d with
  | zero =>
    intro i I hi h3 h4 hG k
    obtain rfl : i = njp A p := by omega
    rw [l_X1_goFrom_157]
    exact zip (nI_le (Nat.le_refl _) (by omega)) (k I (FrC_r m I) hG)
  | succ d ih =>
    intro i I hi h3 h4 hG k
    rw [l_X1_goFrom_157]
    obtain ⟨q, hq, eq, hq2⟩ := hj h2 i (by omega)
    refine zin (nI_ge (by omega) (by omega)) ⟨shM hm, _, pM1 hP hm, s_ta hm hG.1 hB hp h2 (by omega) ?_⟩
    rw [eq, h3, h4]
    refine GI_come hP hm hB hG hq hq2 hs hl (fun T hT => hc T hT i (by omega) q eq hq) (fun D E hb ⟨z1, z2⟩ => ⟨hQ D E hb z1, fun j hj q hq hl => Cov_blw hb (z2 j hj q hq hl)⟩) (fun I' f g => ?_)
    rw [nI_1]
    refine ih (i + 1) I' (by omega) (by rw [f _ _ (by omega) (by omega) (by omega) (by omega) (by omega)]; exact h3) (by rw [f _ _ (by omega) (by omega) (by omega) (by omega) (by omega)]; exact h4) ?_ (fun I2 f2 g2 => k I2 (FrC_t f f2) g2)
    refine ⟨g.1, ?_⟩
    rcases g.2 with ⟨z5, D, V, hJ, g1, g2, g3, g4, ⟨g5, g6⟩, g7⟩ | z
    · refine Or.inl ⟨z5, D, V, hJ, g1, g2, g3, g4, g5, fun j hj q' hq' hl' => ?_⟩
      by_cases e : j = i
      · subst e
        rw [eq] at hq'
        have := (nI_eq (by omega) (by omega)).mp hq'
        subst this
        exact g7
      · exact g6 j (by omega) q' hq' hl'
    · exact Or.inr z
theorem sho_lt {c : Nat} (h : isOpn c) : sho c < 44 := by unfold sho isOpn at *; split <;> omega
theorem s_sho {c : Nat} {I : zI} {P : zP} {K : Int32 → zI → zP → Prop} (hc : c < 256) (k : K (nI (sho c)) I P) : w_X9_shortOf (nI c) I P K := by
  unfold w_X9_shortOf
  unfold sho at k
  by_cases h : isLg c
  · rw [if_pos h] at k
    refine s_lgT h (zin (by decide) ?_)
    have : nI c - 64 = nI (c - 64) := pk_sub (b := 64) (by unfold isLg at h; omega)
    rw [this]; exact k
  · rw [if_neg h] at k
    exact s_lgF hc h (zip rfl k)
theorem s_gonT {c : Nat} {I : zI} {P : zP} {K : Int32 → zI → zP → Prop} (hc : c < 256) (h : gon c) (k : K 1 I P) : w_X9_goesOn (nI c) I P K := by
  unfold w_X9_goesOn gon at *
  (repeat first | (with_reducible refine zip ?_ ?_; · first | omega | decide | (simp (maxSteps := 400000) (disch := omega) only [q_lit, q_neg, nI_ltI, nI_leI, nI_eq, nI_add, pk_mul, pk_sub, nI_clamp, vp_q, zu_same, zu_nc, zu_nj, ng_lt, ng_le, ng_gt, ng_ge, ng_eq, ng_qe, ng_ee, ng_add, not_false_eq_true, not_true_eq_false, ne_eq]; done) | (simp (maxSteps := 400000) (disch := omega) only [q_lit, q_neg, nI_ltI, nI_leI, nI_eq, nI_add, pk_mul, pk_sub, nI_clamp, vp_q, zu_same, zu_nc, zu_nj, ng_lt, ng_le, ng_gt, ng_ge, ng_eq, ng_qe, ng_ee, ng_add, not_false_eq_true, not_true_eq_false, ne_eq]; omega)) | (with_reducible refine zin ?_ ?_; · first | omega | decide | (simp (maxSteps := 400000) (disch := omega) only [q_lit, q_neg, nI_ltI, nI_leI, nI_eq, nI_add, pk_mul, pk_sub, nI_clamp, vp_q, zu_same, zu_nc, zu_nj, ng_lt, ng_le, ng_gt, ng_ge, ng_eq, ng_qe, ng_ee, ng_add, not_false_eq_true, not_true_eq_false, ne_eq]; done) | (simp (maxSteps := 400000) (disch := omega) only [q_lit, q_neg, nI_ltI, nI_leI, nI_eq, nI_add, pk_mul, pk_sub, nI_clamp, vp_q, zu_same, zu_nc, zu_nj, ng_lt, ng_le, ng_gt, ng_ge, ng_eq, ng_qe, ng_ee, ng_add, not_false_eq_true, not_true_eq_false, ne_eq]; omega)) | (with_reducible refine And.intro ?_ ?_; · first | (first | exact shM (by omega) | exact shW (by omega) | exact shT (by omega) | exact shF (by omega) | exact shM1 (by omega) | exact shM2 (by omega) | exact shM3 (by omega) | exact shM4 (by omega) | exact shM5 (by omega) | exact shW0 (by omega) | exact shW1 (by omega) | exact shW2 (by omega) | exact shW3 (by omega) | exact shW4 (by omega) | exact shT0 (by omega) | exact shT1 (by omega) | exact shT2 (by omega) | exact shT3 (by omega) | exact shF0 (by omega) | exact shF1 (by omega)) | (first | omega | decide | (simp (maxSteps := 400000) (disch := omega) only [q_lit, q_neg, nI_ltI, nI_leI, nI_eq, nI_add, pk_mul, pk_sub, nI_clamp, vp_q, zu_same, zu_nc, zu_nj, ng_lt, ng_le, ng_gt, ng_ge, ng_eq, ng_qe, ng_ee, ng_add, not_false_eq_true, not_true_eq_false, ne_eq]; done) | (simp (maxSteps := 400000) (disch := omega) only [q_lit, q_neg, nI_ltI, nI_leI, nI_eq, nI_add, pk_mul, pk_sub, nI_clamp, vp_q, zu_same, zu_nc, zu_nj, ng_lt, ng_le, ng_gt, ng_ge, ng_eq, ng_qe, ng_ee, ng_add, not_false_eq_true, not_true_eq_false, ne_eq]; omega))) | (with_reducible apply zex; · first | (first | exact pM hP (by omega) | exact pT hP (by omega) | exact pF hP (by omega) | exact pM1 hP (by omega) | exact pM2 hP (by omega) | exact pM3 hP (by omega) | exact pM4 hP (by omega) | exact pM5 hP (by omega) | exact pM6 hP (by omega) | exact pW0 hP (by omega) | exact pW1 hP (by omega) | exact pW2 hP (by omega) | exact pW3 hP (by omega) | exact pW4 hP (by omega) | exact pT0 hP (by omega) | exact pT1 hP (by omega) | exact pT2 hP (by omega) | exact pT3 hP (by omega) | exact pF0 hP (by omega) | exact pF1 hP (by omega)) | (simp (maxSteps := 400000) (disch := omega) only [q_lit, q_neg, nI_ltI, nI_leI, nI_eq, nI_add, pk_mul, pk_sub, nI_clamp, vp_q, zu_same, zu_nc, zu_nj, ng_lt, ng_le, ng_gt, ng_ge, ng_eq, ng_qe, ng_ee, ng_add, not_false_eq_true, not_true_eq_false, ne_eq]; first | exact pM hP (by omega) | exact pT hP (by omega) | exact pF hP (by omega) | exact pM1 hP (by omega) | exact pM2 hP (by omega) | exact pM3 hP (by omega) | exact pM4 hP (by omega) | exact pM5 hP (by omega) | exact pM6 hP (by omega) | exact pW0 hP (by omega) | exact pW1 hP (by omega) | exact pW2 hP (by omega) | exact pW3 hP (by omega) | exact pW4 hP (by omega) | exact pT0 hP (by omega) | exact pT1 hP (by omega) | exact pT2 hP (by omega) | exact pT3 hP (by omega) | exact pF0 hP (by omega) | exact pF1 hP (by omega))) | (with_reducible refine s_inT ?_ ?_; · first | omega | decide | (simp (maxSteps := 400000) (disch := omega) only [q_lit, q_neg, nI_ltI, nI_leI, nI_eq, nI_add, pk_mul, pk_sub, nI_clamp, vp_q, zu_same, zu_nc, zu_nj, ng_lt, ng_le, ng_gt, ng_ge, ng_eq, ng_qe, ng_ee, ng_add, not_false_eq_true, not_true_eq_false, ne_eq]; done) | (simp (maxSteps := 400000) (disch := omega) only [q_lit, q_neg, nI_ltI, nI_leI, nI_eq, nI_add, pk_mul, pk_sub, nI_clamp, vp_q, zu_same, zu_nc, zu_nj, ng_lt, ng_le, ng_gt, ng_ge, ng_eq, ng_qe, ng_ee, ng_add, not_false_eq_true, not_true_eq_false, ne_eq]; omega)) | (with_reducible refine s_inF ?_ ?_; · first | omega | decide | (simp (maxSteps := 400000) (disch := omega) only [q_lit, q_neg, nI_ltI, nI_leI, nI_eq, nI_add, pk_mul, pk_sub, nI_clamp, vp_q, zu_same, zu_nc, zu_nj, ng_lt, ng_le, ng_gt, ng_ge, ng_eq, ng_qe, ng_ee, ng_add, not_false_eq_true, not_true_eq_false, ne_eq]; done) | (simp (maxSteps := 400000) (disch := omega) only [q_lit, q_neg, nI_ltI, nI_leI, nI_eq, nI_add, pk_mul, pk_sub, nI_clamp, vp_q, zu_same, zu_nc, zu_nj, ng_lt, ng_le, ng_gt, ng_ge, ng_eq, ng_qe, ng_ee, ng_add, not_false_eq_true, not_true_eq_false, ne_eq]; omega)) | (simp (maxSteps := 400000) (disch := omega) only [q_lit, q_neg, nI_ltI, nI_leI, nI_eq, nI_add, pk_mul, pk_sub, nI_clamp, vp_q, zu_same, zu_nc, zu_nj, ng_lt, ng_le, ng_gt, ng_ge, ng_eq, ng_qe, ng_ee, ng_add, not_false_eq_true, not_true_eq_false, ne_eq]))
  exact k
theorem s_gonF {c : Nat} {I : zI} {P : zP} {K : Int32 → zI → zP → Prop} (hc : c < 256) (h : ¬ gon c) (k : K 0 I P) : w_X9_goesOn (nI c) I P K := by
  unfold w_X9_goesOn gon at *
  by_cases h1 : c = 20
  · (repeat first | (with_reducible refine zip ?_ ?_; · first | omega | decide | (simp (maxSteps := 400000) (disch := omega) only [q_lit, q_neg, nI_ltI, nI_leI, nI_eq, nI_add, pk_mul, pk_sub, nI_clamp, vp_q, zu_same, zu_nc, zu_nj, ng_lt, ng_le, ng_gt, ng_ge, ng_eq, ng_qe, ng_ee, ng_add, not_false_eq_true, not_true_eq_false, ne_eq]; done) | (simp (maxSteps := 400000) (disch := omega) only [q_lit, q_neg, nI_ltI, nI_leI, nI_eq, nI_add, pk_mul, pk_sub, nI_clamp, vp_q, zu_same, zu_nc, zu_nj, ng_lt, ng_le, ng_gt, ng_ge, ng_eq, ng_qe, ng_ee, ng_add, not_false_eq_true, not_true_eq_false, ne_eq]; omega)) | (with_reducible refine zin ?_ ?_; · first | omega | decide | (simp (maxSteps := 400000) (disch := omega) only [q_lit, q_neg, nI_ltI, nI_leI, nI_eq, nI_add, pk_mul, pk_sub, nI_clamp, vp_q, zu_same, zu_nc, zu_nj, ng_lt, ng_le, ng_gt, ng_ge, ng_eq, ng_qe, ng_ee, ng_add, not_false_eq_true, not_true_eq_false, ne_eq]; done) | (simp (maxSteps := 400000) (disch := omega) only [q_lit, q_neg, nI_ltI, nI_leI, nI_eq, nI_add, pk_mul, pk_sub, nI_clamp, vp_q, zu_same, zu_nc, zu_nj, ng_lt, ng_le, ng_gt, ng_ge, ng_eq, ng_qe, ng_ee, ng_add, not_false_eq_true, not_true_eq_false, ne_eq]; omega)) | (with_reducible refine And.intro ?_ ?_; · first | (first | exact shM (by omega) | exact shW (by omega) | exact shT (by omega) | exact shF (by omega) | exact shM1 (by omega) | exact shM2 (by omega) | exact shM3 (by omega) | exact shM4 (by omega) | exact shM5 (by omega) | exact shW0 (by omega) | exact shW1 (by omega) | exact shW2 (by omega) | exact shW3 (by omega) | exact shW4 (by omega) | exact shT0 (by omega) | exact shT1 (by omega) | exact shT2 (by omega) | exact shT3 (by omega) | exact shF0 (by omega) | exact shF1 (by omega)) | (first | omega | decide | (simp (maxSteps := 400000) (disch := omega) only [q_lit, q_neg, nI_ltI, nI_leI, nI_eq, nI_add, pk_mul, pk_sub, nI_clamp, vp_q, zu_same, zu_nc, zu_nj, ng_lt, ng_le, ng_gt, ng_ge, ng_eq, ng_qe, ng_ee, ng_add, not_false_eq_true, not_true_eq_false, ne_eq]; done) | (simp (maxSteps := 400000) (disch := omega) only [q_lit, q_neg, nI_ltI, nI_leI, nI_eq, nI_add, pk_mul, pk_sub, nI_clamp, vp_q, zu_same, zu_nc, zu_nj, ng_lt, ng_le, ng_gt, ng_ge, ng_eq, ng_qe, ng_ee, ng_add, not_false_eq_true, not_true_eq_false, ne_eq]; omega))) | (with_reducible apply zex; · first | (first | exact pM hP (by omega) | exact pT hP (by omega) | exact pF hP (by omega) | exact pM1 hP (by omega) | exact pM2 hP (by omega) | exact pM3 hP (by omega) | exact pM4 hP (by omega) | exact pM5 hP (by omega) | exact pM6 hP (by omega) | exact pW0 hP (by omega) | exact pW1 hP (by omega) | exact pW2 hP (by omega) | exact pW3 hP (by omega) | exact pW4 hP (by omega) | exact pT0 hP (by omega) | exact pT1 hP (by omega) | exact pT2 hP (by omega) | exact pT3 hP (by omega) | exact pF0 hP (by omega) | exact pF1 hP (by omega)) | (simp (maxSteps := 400000) (disch := omega) only [q_lit, q_neg, nI_ltI, nI_leI, nI_eq, nI_add, pk_mul, pk_sub, nI_clamp, vp_q, zu_same, zu_nc, zu_nj, ng_lt, ng_le, ng_gt, ng_ge, ng_eq, ng_qe, ng_ee, ng_add, not_false_eq_true, not_true_eq_false, ne_eq]; first | exact pM hP (by omega) | exact pT hP (by omega) | exact pF hP (by omega) | exact pM1 hP (by omega) | exact pM2 hP (by omega) | exact pM3 hP (by omega) | exact pM4 hP (by omega) | exact pM5 hP (by omega) | exact pM6 hP (by omega) | exact pW0 hP (by omega) | exact pW1 hP (by omega) | exact pW2 hP (by omega) | exact pW3 hP (by omega) | exact pW4 hP (by omega) | exact pT0 hP (by omega) | exact pT1 hP (by omega) | exact pT2 hP (by omega) | exact pT3 hP (by omega) | exact pF0 hP (by omega) | exact pF1 hP (by omega))) | (with_reducible refine s_inT ?_ ?_; · first | omega | decide | (simp (maxSteps := 400000) (disch := omega) only [q_lit, q_neg, nI_ltI, nI_leI, nI_eq, nI_add, pk_mul, pk_sub, nI_clamp, vp_q, zu_same, zu_nc, zu_nj, ng_lt, ng_le, ng_gt, ng_ge, ng_eq, ng_qe, ng_ee, ng_add, not_false_eq_true, not_true_eq_false, ne_eq]; done) | (simp (maxSteps := 400000) (disch := omega) only [q_lit, q_neg, nI_ltI, nI_leI, nI_eq, nI_add, pk_mul, pk_sub, nI_clamp, vp_q, zu_same, zu_nc, zu_nj, ng_lt, ng_le, ng_gt, ng_ge, ng_eq, ng_qe, ng_ee, ng_add, not_false_eq_true, not_true_eq_false, ne_eq]; omega)) | (with_reducible refine s_inF ?_ ?_; · first | omega | decide | (simp (maxSteps := 400000) (disch := omega) only [q_lit, q_neg, nI_ltI, nI_leI, nI_eq, nI_add, pk_mul, pk_sub, nI_clamp, vp_q, zu_same, zu_nc, zu_nj, ng_lt, ng_le, ng_gt, ng_ge, ng_eq, ng_qe, ng_ee, ng_add, not_false_eq_true, not_true_eq_false, ne_eq]; done) | (simp (maxSteps := 400000) (disch := omega) only [q_lit, q_neg, nI_ltI, nI_leI, nI_eq, nI_add, pk_mul, pk_sub, nI_clamp, vp_q, zu_same, zu_nc, zu_nj, ng_lt, ng_le, ng_gt, ng_ge, ng_eq, ng_qe, ng_ee, ng_add, not_false_eq_true, not_true_eq_false, ne_eq]; omega)) | (simp (maxSteps := 400000) (disch := omega) only [q_lit, q_neg, nI_ltI, nI_leI, nI_eq, nI_add, pk_mul, pk_sub, nI_clamp, vp_q, zu_same, zu_nc, zu_nj, ng_lt, ng_le, ng_gt, ng_ge, ng_eq, ng_qe, ng_ee, ng_add, not_false_eq_true, not_true_eq_false, ne_eq]))
    exact k
  by_cases h2 : c = 84
  · (repeat first | (with_reducible refine zip ?_ ?_; · first | omega | decide | (simp (maxSteps := 400000) (disch := omega) only [q_lit, q_neg, nI_ltI, nI_leI, nI_eq, nI_add, pk_mul, pk_sub, nI_clamp, vp_q, zu_same, zu_nc, zu_nj, ng_lt, ng_le, ng_gt, ng_ge, ng_eq, ng_qe, ng_ee, ng_add, not_false_eq_true, not_true_eq_false, ne_eq]; done) | (simp (maxSteps := 400000) (disch := omega) only [q_lit, q_neg, nI_ltI, nI_leI, nI_eq, nI_add, pk_mul, pk_sub, nI_clamp, vp_q, zu_same, zu_nc, zu_nj, ng_lt, ng_le, ng_gt, ng_ge, ng_eq, ng_qe, ng_ee, ng_add, not_false_eq_true, not_true_eq_false, ne_eq]; omega)) | (with_reducible refine zin ?_ ?_; · first | omega | decide | (simp (maxSteps := 400000) (disch := omega) only [q_lit, q_neg, nI_ltI, nI_leI, nI_eq, nI_add, pk_mul, pk_sub, nI_clamp, vp_q, zu_same, zu_nc, zu_nj, ng_lt, ng_le, ng_gt, ng_ge, ng_eq, ng_qe, ng_ee, ng_add, not_false_eq_true, not_true_eq_false, ne_eq]; done) | (simp (maxSteps := 400000) (disch := omega) only [q_lit, q_neg, nI_ltI, nI_leI, nI_eq, nI_add, pk_mul, pk_sub, nI_clamp, vp_q, zu_same, zu_nc, zu_nj, ng_lt, ng_le, ng_gt, ng_ge, ng_eq, ng_qe, ng_ee, ng_add, not_false_eq_true, not_true_eq_false, ne_eq]; omega)) | (with_reducible refine And.intro ?_ ?_; · first | (first | exact shM (by omega) | exact shW (by omega) | exact shT (by omega) | exact shF (by omega) | exact shM1 (by omega) | exact shM2 (by omega) | exact shM3 (by omega) | exact shM4 (by omega) | exact shM5 (by omega) | exact shW0 (by omega) | exact shW1 (by omega) | exact shW2 (by omega) | exact shW3 (by omega) | exact shW4 (by omega) | exact shT0 (by omega) | exact shT1 (by omega) | exact shT2 (by omega) | exact shT3 (by omega) | exact shF0 (by omega) | exact shF1 (by omega)) | (first | omega | decide | (simp (maxSteps := 400000) (disch := omega) only [q_lit, q_neg, nI_ltI, nI_leI, nI_eq, nI_add, pk_mul, pk_sub, nI_clamp, vp_q, zu_same, zu_nc, zu_nj, ng_lt, ng_le, ng_gt, ng_ge, ng_eq, ng_qe, ng_ee, ng_add, not_false_eq_true, not_true_eq_false, ne_eq]; done) | (simp (maxSteps := 400000) (disch := omega) only [q_lit, q_neg, nI_ltI, nI_leI, nI_eq, nI_add, pk_mul, pk_sub, nI_clamp, vp_q, zu_same, zu_nc, zu_nj, ng_lt, ng_le, ng_gt, ng_ge, ng_eq, ng_qe, ng_ee, ng_add, not_false_eq_true, not_true_eq_false, ne_eq]; omega))) | (with_reducible apply zex; · first | (first | exact pM hP (by omega) | exact pT hP (by omega) | exact pF hP (by omega) | exact pM1 hP (by omega) | exact pM2 hP (by omega) | exact pM3 hP (by omega) | exact pM4 hP (by omega) | exact pM5 hP (by omega) | exact pM6 hP (by omega) | exact pW0 hP (by omega) | exact pW1 hP (by omega) | exact pW2 hP (by omega) | exact pW3 hP (by omega) | exact pW4 hP (by omega) | exact pT0 hP (by omega) | exact pT1 hP (by omega) | exact pT2 hP (by omega) | exact pT3 hP (by omega) | exact pF0 hP (by omega) | exact pF1 hP (by omega)) | (simp (maxSteps := 400000) (disch := omega) only [q_lit, q_neg, nI_ltI, nI_leI, nI_eq, nI_add, pk_mul, pk_sub, nI_clamp, vp_q, zu_same, zu_nc, zu_nj, ng_lt, ng_le, ng_gt, ng_ge, ng_eq, ng_qe, ng_ee, ng_add, not_false_eq_true, not_true_eq_false, ne_eq]; first | exact pM hP (by omega) | exact pT hP (by omega) | exact pF hP (by omega) | exact pM1 hP (by omega) | exact pM2 hP (by omega) | exact pM3 hP (by omega) | exact pM4 hP (by omega) | exact pM5 hP (by omega) | exact pM6 hP (by omega) | exact pW0 hP (by omega) | exact pW1 hP (by omega) | exact pW2 hP (by omega) | exact pW3 hP (by omega) | exact pW4 hP (by omega) | exact pT0 hP (by omega) | exact pT1 hP (by omega) | exact pT2 hP (by omega) | exact pT3 hP (by omega) | exact pF0 hP (by omega) | exact pF1 hP (by omega))) | (with_reducible refine s_inT ?_ ?_; · first | omega | decide | (simp (maxSteps := 400000) (disch := omega) only [q_lit, q_neg, nI_ltI, nI_leI, nI_eq, nI_add, pk_mul, pk_sub, nI_clamp, vp_q, zu_same, zu_nc, zu_nj, ng_lt, ng_le, ng_gt, ng_ge, ng_eq, ng_qe, ng_ee, ng_add, not_false_eq_true, not_true_eq_false, ne_eq]; done) | (simp (maxSteps := 400000) (disch := omega) only [q_lit, q_neg, nI_ltI, nI_leI, nI_eq, nI_add, pk_mul, pk_sub, nI_clamp, vp_q, zu_same, zu_nc, zu_nj, ng_lt, ng_le, ng_gt, ng_ge, ng_eq, ng_qe, ng_ee, ng_add, not_false_eq_true, not_true_eq_false, ne_eq]; omega)) | (with_reducible refine s_inF ?_ ?_; · first | omega | decide | (simp (maxSteps := 400000) (disch := omega) only [q_lit, q_neg, nI_ltI, nI_leI, nI_eq, nI_add, pk_mul, pk_sub, nI_clamp, vp_q, zu_same, zu_nc, zu_nj, ng_lt, ng_le, ng_gt, ng_ge, ng_eq, ng_qe, ng_ee, ng_add, not_false_eq_true, not_true_eq_false, ne_eq]; done) | (simp (maxSteps := 400000) (disch := omega) only [q_lit, q_neg, nI_ltI, nI_leI, nI_eq, nI_add, pk_mul, pk_sub, nI_clamp, vp_q, zu_same, zu_nc, zu_nj, ng_lt, ng_le, ng_gt, ng_ge, ng_eq, ng_qe, ng_ee, ng_add, not_false_eq_true, not_true_eq_false, ne_eq]; omega)) | (simp (maxSteps := 400000) (disch := omega) only [q_lit, q_neg, nI_ltI, nI_leI, nI_eq, nI_add, pk_mul, pk_sub, nI_clamp, vp_q, zu_same, zu_nc, zu_nj, ng_lt, ng_le, ng_gt, ng_ge, ng_eq, ng_qe, ng_ee, ng_add, not_false_eq_true, not_true_eq_false, ne_eq]))
    exact k
  by_cases h3 : c = 33
  · (repeat first | (with_reducible refine zip ?_ ?_; · first | omega | decide | (simp (maxSteps := 400000) (disch := omega) only [q_lit, q_neg, nI_ltI, nI_leI, nI_eq, nI_add, pk_mul, pk_sub, nI_clamp, vp_q, zu_same, zu_nc, zu_nj, ng_lt, ng_le, ng_gt, ng_ge, ng_eq, ng_qe, ng_ee, ng_add, not_false_eq_true, not_true_eq_false, ne_eq]; done) | (simp (maxSteps := 400000) (disch := omega) only [q_lit, q_neg, nI_ltI, nI_leI, nI_eq, nI_add, pk_mul, pk_sub, nI_clamp, vp_q, zu_same, zu_nc, zu_nj, ng_lt, ng_le, ng_gt, ng_ge, ng_eq, ng_qe, ng_ee, ng_add, not_false_eq_true, not_true_eq_false, ne_eq]; omega)) | (with_reducible refine zin ?_ ?_; · first | omega | decide | (simp (maxSteps := 400000) (disch := omega) only [q_lit, q_neg, nI_ltI, nI_leI, nI_eq, nI_add, pk_mul, pk_sub, nI_clamp, vp_q, zu_same, zu_nc, zu_nj, ng_lt, ng_le, ng_gt, ng_ge, ng_eq, ng_qe, ng_ee, ng_add, not_false_eq_true, not_true_eq_false, ne_eq]; done) | (simp (maxSteps := 400000) (disch := omega) only [q_lit, q_neg, nI_ltI, nI_leI, nI_eq, nI_add, pk_mul, pk_sub, nI_clamp, vp_q, zu_same, zu_nc, zu_nj, ng_lt, ng_le, ng_gt, ng_ge, ng_eq, ng_qe, ng_ee, ng_add, not_false_eq_true, not_true_eq_false, ne_eq]; omega)) | (with_reducible refine And.intro ?_ ?_; · first | (first | exact shM (by omega) | exact shW (by omega) | exact shT (by omega) | exact shF (by omega) | exact shM1 (by omega) | exact shM2 (by omega) | exact shM3 (by omega) | exact shM4 (by omega) | exact shM5 (by omega) | exact shW0 (by omega) | exact shW1 (by omega) | exact shW2 (by omega) | exact shW3 (by omega) | exact shW4 (by omega) | exact shT0 (by omega) | exact shT1 (by omega) | exact shT2 (by omega) | exact shT3 (by omega) | exact shF0 (by omega) | exact shF1 (by omega)) | (first | omega | decide | (simp (maxSteps := 400000) (disch := omega) only [q_lit, q_neg, nI_ltI, nI_leI, nI_eq, nI_add, pk_mul, pk_sub, nI_clamp, vp_q, zu_same, zu_nc, zu_nj, ng_lt, ng_le, ng_gt, ng_ge, ng_eq, ng_qe, ng_ee, ng_add, not_false_eq_true, not_true_eq_false, ne_eq]; done) | (simp (maxSteps := 400000) (disch := omega) only [q_lit, q_neg, nI_ltI, nI_leI, nI_eq, nI_add, pk_mul, pk_sub, nI_clamp, vp_q, zu_same, zu_nc, zu_nj, ng_lt, ng_le, ng_gt, ng_ge, ng_eq, ng_qe, ng_ee, ng_add, not_false_eq_true, not_true_eq_false, ne_eq]; omega))) | (with_reducible apply zex; · first | (first | exact pM hP (by omega) | exact pT hP (by omega) | exact pF hP (by omega) | exact pM1 hP (by omega) | exact pM2 hP (by omega) | exact pM3 hP (by omega) | exact pM4 hP (by omega) | exact pM5 hP (by omega) | exact pM6 hP (by omega) | exact pW0 hP (by omega) | exact pW1 hP (by omega) | exact pW2 hP (by omega) | exact pW3 hP (by omega) | exact pW4 hP (by omega) | exact pT0 hP (by omega) | exact pT1 hP (by omega) | exact pT2 hP (by omega) | exact pT3 hP (by omega) | exact pF0 hP (by omega) | exact pF1 hP (by omega)) | (simp (maxSteps := 400000) (disch := omega) only [q_lit, q_neg, nI_ltI, nI_leI, nI_eq, nI_add, pk_mul, pk_sub, nI_clamp, vp_q, zu_same, zu_nc, zu_nj, ng_lt, ng_le, ng_gt, ng_ge, ng_eq, ng_qe, ng_ee, ng_add, not_false_eq_true, not_true_eq_false, ne_eq]; first | exact pM hP (by omega) | exact pT hP (by omega) | exact pF hP (by omega) | exact pM1 hP (by omega) | exact pM2 hP (by omega) | exact pM3 hP (by omega) | exact pM4 hP (by omega) | exact pM5 hP (by omega) | exact pM6 hP (by omega) | exact pW0 hP (by omega) | exact pW1 hP (by omega) | exact pW2 hP (by omega) | exact pW3 hP (by omega) | exact pW4 hP (by omega) | exact pT0 hP (by omega) | exact pT1 hP (by omega) | exact pT2 hP (by omega) | exact pT3 hP (by omega) | exact pF0 hP (by omega) | exact pF1 hP (by omega))) | (with_reducible refine s_inT ?_ ?_; · first | omega | decide | (simp (maxSteps := 400000) (disch := omega) only [q_lit, q_neg, nI_ltI, nI_leI, nI_eq, nI_add, pk_mul, pk_sub, nI_clamp, vp_q, zu_same, zu_nc, zu_nj, ng_lt, ng_le, ng_gt, ng_ge, ng_eq, ng_qe, ng_ee, ng_add, not_false_eq_true, not_true_eq_false, ne_eq]; done) | (simp (maxSteps := 400000) (disch := omega) only [q_lit, q_neg, nI_ltI, nI_leI, nI_eq, nI_add, pk_mul, pk_sub, nI_clamp, vp_q, zu_same, zu_nc, zu_nj, ng_lt, ng_le, ng_gt, ng_ge, ng_eq, ng_qe, ng_ee, ng_add, not_false_eq_true, not_true_eq_false, ne_eq]; omega)) | (with_reducible refine s_inF ?_ ?_; · first | omega | decide | (simp (maxSteps := 400000) (disch := omega) only [q_lit, q_neg, nI_ltI, nI_leI, nI_eq, nI_add, pk_mul, pk_sub, nI_clamp, vp_q, zu_same, zu_nc, zu_nj, ng_lt, ng_le, ng_gt, ng_ge, ng_eq, ng_qe, ng_ee, ng_add, not_false_eq_true, not_true_eq_false, ne_eq]; done) | (simp (maxSteps := 400000) (disch := omega) only [q_lit, q_neg, nI_ltI, nI_leI, nI_eq, nI_add, pk_mul, pk_sub, nI_clamp, vp_q, zu_same, zu_nc, zu_nj, ng_lt, ng_le, ng_gt, ng_ge, ng_eq, ng_qe, ng_ee, ng_add, not_false_eq_true, not_true_eq_false, ne_eq]; omega)) | (simp (maxSteps := 400000) (disch := omega) only [q_lit, q_neg, nI_ltI, nI_leI, nI_eq, nI_add, pk_mul, pk_sub, nI_clamp, vp_q, zu_same, zu_nc, zu_nj, ng_lt, ng_le, ng_gt, ng_ge, ng_eq, ng_qe, ng_ee, ng_add, not_false_eq_true, not_true_eq_false, ne_eq]))
    exact k
  by_cases h4 : c = 41
  · (repeat first | (with_reducible refine zip ?_ ?_; · first | omega | decide | (simp (maxSteps := 400000) (disch := omega) only [q_lit, q_neg, nI_ltI, nI_leI, nI_eq, nI_add, pk_mul, pk_sub, nI_clamp, vp_q, zu_same, zu_nc, zu_nj, ng_lt, ng_le, ng_gt, ng_ge, ng_eq, ng_qe, ng_ee, ng_add, not_false_eq_true, not_true_eq_false, ne_eq]; done) | (simp (maxSteps := 400000) (disch := omega) only [q_lit, q_neg, nI_ltI, nI_leI, nI_eq, nI_add, pk_mul, pk_sub, nI_clamp, vp_q, zu_same, zu_nc, zu_nj, ng_lt, ng_le, ng_gt, ng_ge, ng_eq, ng_qe, ng_ee, ng_add, not_false_eq_true, not_true_eq_false, ne_eq]; omega)) | (with_reducible refine zin ?_ ?_; · first | omega | decide | (simp (maxSteps := 400000) (disch := omega) only [q_lit, q_neg, nI_ltI, nI_leI, nI_eq, nI_add, pk_mul, pk_sub, nI_clamp, vp_q, zu_same, zu_nc, zu_nj, ng_lt, ng_le, ng_gt, ng_ge, ng_eq, ng_qe, ng_ee, ng_add, not_false_eq_true, not_true_eq_false, ne_eq]; done) | (simp (maxSteps := 400000) (disch := omega) only [q_lit, q_neg, nI_ltI, nI_leI, nI_eq, nI_add, pk_mul, pk_sub, nI_clamp, vp_q, zu_same, zu_nc, zu_nj, ng_lt, ng_le, ng_gt, ng_ge, ng_eq, ng_qe, ng_ee, ng_add, not_false_eq_true, not_true_eq_false, ne_eq]; omega)) | (with_reducible refine And.intro ?_ ?_; · first | (first | exact shM (by omega) | exact shW (by omega) | exact shT (by omega) | exact shF (by omega) | exact shM1 (by omega) | exact shM2 (by omega) | exact shM3 (by omega) | exact shM4 (by omega) | exact shM5 (by omega) | exact shW0 (by omega) | exact shW1 (by omega) | exact shW2 (by omega) | exact shW3 (by omega) | exact shW4 (by omega) | exact shT0 (by omega) | exact shT1 (by omega) | exact shT2 (by omega) | exact shT3 (by omega) | exact shF0 (by omega) | exact shF1 (by omega)) | (first | omega | decide | (simp (maxSteps := 400000) (disch := omega) only [q_lit, q_neg, nI_ltI, nI_leI, nI_eq, nI_add, pk_mul, pk_sub, nI_clamp, vp_q, zu_same, zu_nc, zu_nj, ng_lt, ng_le, ng_gt, ng_ge, ng_eq, ng_qe, ng_ee, ng_add, not_false_eq_true, not_true_eq_false, ne_eq]; done) | (simp (maxSteps := 400000) (disch := omega) only [q_lit, q_neg, nI_ltI, nI_leI, nI_eq, nI_add, pk_mul, pk_sub, nI_clamp, vp_q, zu_same, zu_nc, zu_nj, ng_lt, ng_le, ng_gt, ng_ge, ng_eq, ng_qe, ng_ee, ng_add, not_false_eq_true, not_true_eq_false, ne_eq]; omega))) | (with_reducible apply zex; · first | (first | exact pM hP (by omega) | exact pT hP (by omega) | exact pF hP (by omega) | exact pM1 hP (by omega) | exact pM2 hP (by omega) | exact pM3 hP (by omega) | exact pM4 hP (by omega) | exact pM5 hP (by omega) | exact pM6 hP (by omega) | exact pW0 hP (by omega) | exact pW1 hP (by omega) | exact pW2 hP (by omega) | exact pW3 hP (by omega) | exact pW4 hP (by omega) | exact pT0 hP (by omega) | exact pT1 hP (by omega) | exact pT2 hP (by omega) | exact pT3 hP (by omega) | exact pF0 hP (by omega) | exact pF1 hP (by omega)) | (simp (maxSteps := 400000) (disch := omega) only [q_lit, q_neg, nI_ltI, nI_leI, nI_eq, nI_add, pk_mul, pk_sub, nI_clamp, vp_q, zu_same, zu_nc, zu_nj, ng_lt, ng_le, ng_gt, ng_ge, ng_eq, ng_qe, ng_ee, ng_add, not_false_eq_true, not_true_eq_false, ne_eq]; first | exact pM hP (by omega) | exact pT hP (by omega) | exact pF hP (by omega) | exact pM1 hP (by omega) | exact pM2 hP (by omega) | exact pM3 hP (by omega) | exact pM4 hP (by omega) | exact pM5 hP (by omega) | exact pM6 hP (by omega) | exact pW0 hP (by omega) | exact pW1 hP (by omega) | exact pW2 hP (by omega) | exact pW3 hP (by omega) | exact pW4 hP (by omega) | exact pT0 hP (by omega) | exact pT1 hP (by omega) | exact pT2 hP (by omega) | exact pT3 hP (by omega) | exact pF0 hP (by omega) | exact pF1 hP (by omega))) | (with_reducible refine s_inT ?_ ?_; · first | omega | decide | (simp (maxSteps := 400000) (disch := omega) only [q_lit, q_neg, nI_ltI, nI_leI, nI_eq, nI_add, pk_mul, pk_sub, nI_clamp, vp_q, zu_same, zu_nc, zu_nj, ng_lt, ng_le, ng_gt, ng_ge, ng_eq, ng_qe, ng_ee, ng_add, not_false_eq_true, not_true_eq_false, ne_eq]; done) | (simp (maxSteps := 400000) (disch := omega) only [q_lit, q_neg, nI_ltI, nI_leI, nI_eq, nI_add, pk_mul, pk_sub, nI_clamp, vp_q, zu_same, zu_nc, zu_nj, ng_lt, ng_le, ng_gt, ng_ge, ng_eq, ng_qe, ng_ee, ng_add, not_false_eq_true, not_true_eq_false, ne_eq]; omega)) | (with_reducible refine s_inF ?_ ?_; · first | omega | decide | (simp (maxSteps := 400000) (disch := omega) only [q_lit, q_neg, nI_ltI, nI_leI, nI_eq, nI_add, pk_mul, pk_sub, nI_clamp, vp_q, zu_same, zu_nc, zu_nj, ng_lt, ng_le, ng_gt, ng_ge, ng_eq, ng_qe, ng_ee, ng_add, not_false_eq_true, not_true_eq_false, ne_eq]; done) | (simp (maxSteps := 400000) (disch := omega) only [q_lit, q_neg, nI_ltI, nI_leI, nI_eq, nI_add, pk_mul, pk_sub, nI_clamp, vp_q, zu_same, zu_nc, zu_nj, ng_lt, ng_le, ng_gt, ng_ge, ng_eq, ng_qe, ng_ee, ng_add, not_false_eq_true, not_true_eq_false, ne_eq]; omega)) | (simp (maxSteps := 400000) (disch := omega) only [q_lit, q_neg, nI_ltI, nI_leI, nI_eq, nI_add, pk_mul, pk_sub, nI_clamp, vp_q, zu_same, zu_nc, zu_nj, ng_lt, ng_le, ng_gt, ng_ge, ng_eq, ng_qe, ng_ee, ng_add, not_false_eq_true, not_true_eq_false, ne_eq]))
    exact k
  (repeat first | (with_reducible refine zip ?_ ?_; · first | omega | decide | (simp (maxSteps := 400000) (disch := omega) only [q_lit, q_neg, nI_ltI, nI_leI, nI_eq, nI_add, pk_mul, pk_sub, nI_clamp, vp_q, zu_same, zu_nc, zu_nj, ng_lt, ng_le, ng_gt, ng_ge, ng_eq, ng_qe, ng_ee, ng_add, not_false_eq_true, not_true_eq_false, ne_eq]; done) | (simp (maxSteps := 400000) (disch := omega) only [q_lit, q_neg, nI_ltI, nI_leI, nI_eq, nI_add, pk_mul, pk_sub, nI_clamp, vp_q, zu_same, zu_nc, zu_nj, ng_lt, ng_le, ng_gt, ng_ge, ng_eq, ng_qe, ng_ee, ng_add, not_false_eq_true, not_true_eq_false, ne_eq]; omega)) | (with_reducible refine zin ?_ ?_; · first | omega | decide | (simp (maxSteps := 400000) (disch := omega) only [q_lit, q_neg, nI_ltI, nI_leI, nI_eq, nI_add, pk_mul, pk_sub, nI_clamp, vp_q, zu_same, zu_nc, zu_nj, ng_lt, ng_le, ng_gt, ng_ge, ng_eq, ng_qe, ng_ee, ng_add, not_false_eq_true, not_true_eq_false, ne_eq]; done) | (simp (maxSteps := 400000) (disch := omega) only [q_lit, q_neg, nI_ltI, nI_leI, nI_eq, nI_add, pk_mul, pk_sub, nI_clamp, vp_q, zu_same, zu_nc, zu_nj, ng_lt, ng_le, ng_gt, ng_ge, ng_eq, ng_qe, ng_ee, ng_add, not_false_eq_true, not_true_eq_false, ne_eq]; omega)) | (with_reducible refine And.intro ?_ ?_; · first | (first | exact shM (by omega) | exact shW (by omega) | exact shT (by omega) | exact shF (by omega) | exact shM1 (by omega) | exact shM2 (by omega) | exact shM3 (by omega) | exact shM4 (by omega) | exact shM5 (by omega) | exact shW0 (by omega) | exact shW1 (by omega) | exact shW2 (by omega) | exact shW3 (by omega) | exact shW4 (by omega) | exact shT0 (by omega) | exact shT1 (by omega) | exact shT2 (by omega) | exact shT3 (by omega) | exact shF0 (by omega) | exact shF1 (by omega)) | (first | omega | decide | (simp (maxSteps := 400000) (disch := omega) only [q_lit, q_neg, nI_ltI, nI_leI, nI_eq, nI_add, pk_mul, pk_sub, nI_clamp, vp_q, zu_same, zu_nc, zu_nj, ng_lt, ng_le, ng_gt, ng_ge, ng_eq, ng_qe, ng_ee, ng_add, not_false_eq_true, not_true_eq_false, ne_eq]; done) | (simp (maxSteps := 400000) (disch := omega) only [q_lit, q_neg, nI_ltI, nI_leI, nI_eq, nI_add, pk_mul, pk_sub, nI_clamp, vp_q, zu_same, zu_nc, zu_nj, ng_lt, ng_le, ng_gt, ng_ge, ng_eq, ng_qe, ng_ee, ng_add, not_false_eq_true, not_true_eq_false, ne_eq]; omega))) | (with_reducible apply zex; · first | (first | exact pM hP (by omega) | exact pT hP (by omega) | exact pF hP (by omega) | exact pM1 hP (by omega) | exact pM2 hP (by omega) | exact pM3 hP (by omega) | exact pM4 hP (by omega) | exact pM5 hP (by omega) | exact pM6 hP (by omega) | exact pW0 hP (by omega) | exact pW1 hP (by omega) | exact pW2 hP (by omega) | exact pW3 hP (by omega) | exact pW4 hP (by omega) | exact pT0 hP (by omega) | exact pT1 hP (by omega) | exact pT2 hP (by omega) | exact pT3 hP (by omega) | exact pF0 hP (by omega) | exact pF1 hP (by omega)) | (simp (maxSteps := 400000) (disch := omega) only [q_lit, q_neg, nI_ltI, nI_leI, nI_eq, nI_add, pk_mul, pk_sub, nI_clamp, vp_q, zu_same, zu_nc, zu_nj, ng_lt, ng_le, ng_gt, ng_ge, ng_eq, ng_qe, ng_ee, ng_add, not_false_eq_true, not_true_eq_false, ne_eq]; first | exact pM hP (by omega) | exact pT hP (by omega) | exact pF hP (by omega) | exact pM1 hP (by omega) | exact pM2 hP (by omega) | exact pM3 hP (by omega) | exact pM4 hP (by omega) | exact pM5 hP (by omega) | exact pM6 hP (by omega) | exact pW0 hP (by omega) | exact pW1 hP (by omega) | exact pW2 hP (by omega) | exact pW3 hP (by omega) | exact pW4 hP (by omega) | exact pT0 hP (by omega) | exact pT1 hP (by omega) | exact pT2 hP (by omega) | exact pT3 hP (by omega) | exact pF0 hP (by omega) | exact pF1 hP (by omega))) | (with_reducible refine s_inT ?_ ?_; · first | omega | decide | (simp (maxSteps := 400000) (disch := omega) only [q_lit, q_neg, nI_ltI, nI_leI, nI_eq, nI_add, pk_mul, pk_sub, nI_clamp, vp_q, zu_same, zu_nc, zu_nj, ng_lt, ng_le, ng_gt, ng_ge, ng_eq, ng_qe, ng_ee, ng_add, not_false_eq_true, not_true_eq_false, ne_eq]; done) | (simp (maxSteps := 400000) (disch := omega) only [q_lit, q_neg, nI_ltI, nI_leI, nI_eq, nI_add, pk_mul, pk_sub, nI_clamp, vp_q, zu_same, zu_nc, zu_nj, ng_lt, ng_le, ng_gt, ng_ge, ng_eq, ng_qe, ng_ee, ng_add, not_false_eq_true, not_true_eq_false, ne_eq]; omega)) | (with_reducible refine s_inF ?_ ?_; · first | omega | decide | (simp (maxSteps := 400000) (disch := omega) only [q_lit, q_neg, nI_ltI, nI_leI, nI_eq, nI_add, pk_mul, pk_sub, nI_clamp, vp_q, zu_same, zu_nc, zu_nj, ng_lt, ng_le, ng_gt, ng_ge, ng_eq, ng_qe, ng_ee, ng_add, not_false_eq_true, not_true_eq_false, ne_eq]; done) | (simp (maxSteps := 400000) (disch := omega) only [q_lit, q_neg, nI_ltI, nI_leI, nI_eq, nI_add, pk_mul, pk_sub, nI_clamp, vp_q, zu_same, zu_nc, zu_nj, ng_lt, ng_le, ng_gt, ng_ge, ng_eq, ng_qe, ng_ee, ng_add, not_false_eq_true, not_true_eq_false, ne_eq]; omega)) | (simp (maxSteps := 400000) (disch := omega) only [q_lit, q_neg, nI_ltI, nI_leI, nI_eq, nI_add, pk_mul, pk_sub, nI_clamp, vp_q, zu_same, zu_nc, zu_nj, ng_lt, ng_le, ng_gt, ng_ge, ng_eq, ng_qe, ng_ee, ng_add, not_false_eq_true, not_true_eq_false, ne_eq]))
  exact k
theorem s_144 {A : Nat → Nat → Nat} {m p : Nat} {I : zI} {P : zP} {K : zI → zP → Prop} (hP : PSt P) (hm : m < 6) (hB : W0 A m) (hp : p < A 0 2) (h2 : 0 < A 2 p) (hL : LM0 A m I) (k : ∃ n, l_X1_goFrom_157 K n (20 + 12 * m) (nI p) (nI (njp A p)) (nI 0) I P) : j_X1_goFrom_144 K (20 + 12 * m) (nI p) I P := by
  unfold j_X1_goFrom_144
  exact ⟨shM hm, _, pM1 hP hm, s_tc hm hL hB hp h2 k⟩
theorem doOp_x {c : Nat} {x y : Int32} {I : zI} {P : zP} {K : zI → zP → Prop} (h : c < 44) (h3 : c ≠ 3) (h4 : c ≠ 4) (h5 : c ≠ 5) (h40 : c ≠ 40) (k : w_X1_doOp (nI c) y 19 I P K) : w_X1_doOp (nI c) x 19 I P K := by
  unfold w_X1_doOp at *
  have ne : ∀ v, v < 2 ^ 31 → c ≠ v → ¬ nI c = nI v := fun v hv h q => h ((nI_eq (by omega) hv).mp q)
  have k3 := zifn (ne 5 (by decide) h5) (zifn (ne 4 (by decide) h4) (zifn (ne 3 (by decide) h3) k))
  refine zin (ne 3 (by decide) h3) (zin (ne 4 (by decide) h4) (zin (ne 5 (by decide) h5) ?_))
  by_cases g6 : nI c = 6
  · exact zip g6 (zifp g6 k3)
  refine zin g6 ?_
  have k4 := zifn g6 k3
  by_cases g7 : nI c = 7
  · exact zip g7 (zifp g7 k4)
  refine zin g7 ?_
  have k5 := zifn g7 k4
  by_cases g8 : nI c = 8
  · exact zip g8 (zifp g8 k5)
  exact zin g8 (zin (ne 40 (by decide) h40) (zifn (ne 40 (by decide) h40) (zifn g8 k5)))
/-- what the judge does behind the HANDLERS -/
theorem s_behind {A : Nat → Nat → Nat} {m p : Nat} {ar : Nat → Nat} {s : List Nat} {l : Nat → Nat} {C : TS} {W : List Nat} {I : zI} {P : zP} {K : zI → zP → Prop} (hP : PSt P) (hm : m < 6) (hB : W0 A m) (hp : p < A 0 2) (h2 : 0 < A 2 p) (hj : jok A p) (hs : gs s) (hl : gl l) (har : ∀ n, n ≤ m → ar n ≤ 4 ∧ I (20 + 12 * n) 7 = nI (ar n))
    (hT : ∀ T, Cons A ar T → SC A ar T p s l) (h3 : I 4 3 = nI (enS s)) (h4 : I 4 4 = nI (pqk l 12))
    (hG : GI A m ar C W (fun D => ∀ k, k < A 0 3 → hin A k p → Cov D (A 3 (4 * k + 2)) [1] l) I)
    (k : ∀ I', (∀ c j, ¬ (c = 4 ∧ 2 ≤ j ∧ j ≤ 5) → c ≠ 5 → c ≠ 6 → c ≠ 23 + 12 * m → c ≠ 24 + 12 * m → I' c j = I c j) → GI A m ar C W (fun D => SC A ar D p s l) I' → K I' P) :
    ∃ v3, P (20 + 12 * m) 1 = some v3 ∧ (SHy[v3]? = some (11, (zlen v3)) ∧ (vp_in (nI p) (zlen v3) ∧ (w_X9_shortOf (I v3 ((nI p).toNatClampNeg)) I P (fun (v7 : Int32) (I7 : zI) (P7 : zP) => (∃ v8, P7 (20 + 12 * m) 1 = some v8 ∧ (w_X9_byteAt v8 (nI p + 1) I7 P7 (fun (v10 : Int32) (I10 : zI) (P10 : zP) => (w_X1_doOp v7 v10 19 I10 P10 (fun (I11 : zI) (P11 : zP) => (w_X9_goesOn (I v3 ((nI p).toNatClampNeg)) I11 P11 (fun (v12 : Int32) (I12 : zI) (P12 : zP) => (if v12 = 0 then (j_X1_goFrom_144 K (20 + 12 * m) (nI p) I12 P12) else (∃ v14, P12 (20 + 12 * m) 2 = some v14 ∧ (SHy[v14]? = some (11, (zlen v14)) ∧ (vp_in (nI p) (zlen v14) ∧ (w_X1_comeTo (20 + 12 * m) (nI p + (I12 v14 ((nI p).toNatClampNeg))) (I12 4 3) (I12 4 4) I12 P12 (fun (I18 : zI) (P18 : zP) => (j_X1_goFrom_144 K (20 + 12 * m) (nI p) I18 P18)))))))))))))))))) := by
  have hL := hG.1
  have hcd := hL.2.2.2.2.1
  have hB0 := hB
  obtain ⟨-, -, b12, -, b1, -, bb, -, -, b4, -⟩ := hB
  obtain ⟨c1, c2, c3, c4, c5, c6, c7, c8⟩ := b4 p hp h2
  have hcp := (hcd p hp).1
  have hc256 := bb p
  have hso := sho_lt c1
  -- size above 1 where the operand counts
  have use : sho (A 1 p) = 3 ∨ sho (A 1 p) = 4 ∨ sho (A 1 p) = 5 ∨ sho (A 1 p) = 40 → p + 1 < A 0 2 ∧ fitN (A 1 p) (A 0 1) m (A 1 (p + 1)) ∧ A 1 p = sho (A 1 p) := by
    intro h
    have e : A 1 p = sho (A 1 p) := by
      unfold sho at h ⊢
      by_cases hh : 84 ≤ A 1 p ∧ A 1 p ≤ 96
      · rw [if_pos hh] at h; omega
      · rw [if_neg hh]
    have e33 : A 1 p ≠ 33 := by omega
    have : opz (A 1 p) (A 1 (p + 1)) = fxz (A 1 p) := by unfold opz; rw [if_neg e33]
    rw [this] at c2
    have f2 : 2 ≤ fxz (A 1 p) := by
      unfold fxz
      (repeat' split) <;> omega
    exact ⟨by omega, c6 (by omega) e33, e⟩
  refine ⟨_, pM1 hP hm, shM1 hm, by rw [zzM1 hm]; exact vp_in_nI (by omega) (by decide), ?_⟩
  rw [nI_clamp (by omega), hcp]
  refine s_sho hc256 ⟨_, pM1 hP hm, ?_⟩
  rw [nI_1]
  -- the byte behind
  have hbyte : ∀ KK : Int32 → zI → zP → Prop, (∀ x, (p + 1 < A 0 2 → x = nI (A 1 (p + 1))) → KK x I P) → w_X9_byteAt (21 + 12 * m) (nI (p + 1)) I P KK := by
    intro KK kk
    by_cases h : p + 1 < 400
    · refine s_byte (shM1 hm) (zzM1 hm) (by decide) h (kk _ (fun h2 => (hcd _ h2).1))
    · unfold w_X9_byteAt
      refine zin (nI_pos (by omega)) ⟨shM1 hm, zip ?_ (kk _ (fun h2 => absurd h2 (by omega)))⟩
      rw [zzM1 hm]; exact nI_le (a := 400) (by omega) (by omega)
  refine hbyte _ (fun x hx => ?_)
  have h5 : zbo (I 4 5) := by
    rcases hG.2 with ⟨z, -⟩ | ⟨z, -⟩
    · rw [z]; exact zbo0
    · rw [z]; exact zbo1
  -- the OP itself
  have hop : ∀ KK : zI → zP → Prop, (∀ s2 l2 I', eff (sho (A 1 p)) (A 1 (p + 1)) ar s l = some (s2, l2) → I' 4 3 = nI (enS s2) → I' 4 4 = nI (pqk l2 12) → I' 4 5 = I 4 5 → FrJ I I' → KK I' P) → (∀ I', eff (sho (A 1 p)) (A 1 (p + 1)) ar s l = none → FrJ I I' → I' 4 5 = 1 → KK I' P) → w_X1_doOp (nI (sho (A 1 p))) x 19 I P KK := by
    intro KK kk1 kk2
    by_cases hu : sho (A 1 p) = 3 ∨ sho (A 1 p) = 4 ∨ sho (A 1 p) = 5 ∨ sho (A 1 p) = 40
    · obtain ⟨u1, u2, u3⟩ := use hu
      rw [hx u1]
      refine s_doOp hP hso hs hl ?_ ?_ h3 h4 h5 kk1 kk2
      · intro z
        have := u2.1 (by omega)
        omega
      · intro z
        have := u2.2.2 (by omega)
        exact ⟨by omega, (har _ this).1, (har _ this).2⟩
    · refine doOp_x (y := nI (A 1 (p + 1))) hso (by omega) (by omega) (by omega) (by omega) (s_doOp hP hso hs hl (by omega) (by omega) h3 h4 h5 kk1 kk2)
  have wk : ∀ {I1 I2 : zI}, FrJ I I1 → FrC m I1 I2 → ∀ c j, ¬ (c = 4 ∧ 2 ≤ j ∧ j ≤ 5) → c ≠ 5 → c ≠ 6 → c ≠ 23 + 12 * m → c ≠ 24 + 12 * m → I2 c j = I c j := fun f g c j q1 q2 q3 q4 q5 => by rw [g c j (by omega) q2 q3 q4 q5, f c j (by omega)]
  refine hop _ (fun s2 l2 I1 e1 i3 i4 i5 f1 => ?_) (fun I1 e1 f1 i5 => ?_)
  · have gG := GI_J hm hG f1 i5
    obtain ⟨gs2, gl2⟩ := eff_good hs hl e1
    have hTc : ∀ T, Cons A ar T → (∀ i, i < njp A p → ∀ q, tgx A p i = nI q → q < A 0 2 → Cov T q s2 l2) ∧ (gon (A 1 p) → p + A 2 p < A 0 2 ∧ Cov T (p + A 2 p) s2 l2) := fun T hc => by
      obtain ⟨-, s3, l3, e3, z1, z2⟩ := hT T hc
      rw [e1] at e3; cases e3
      exact ⟨z1, z2⟩
    -- from here on the targets
    have fin : ∀ I2, FrC m I1 I2 → GI A m ar C W (fun D => (∀ k, k < A 0 3 → hin A k p → Cov D (A 3 (4 * k + 2)) [1] l) ∧ (gon (A 1 p) → p + A 2 p < A 0 2 ∧ Cov D (p + A 2 p) s2 l2)) I2 → j_X1_goFrom_144 K (20 + 12 * m) (nI p) I2 P := by
      intro I2 f2 g2
      refine s_144 hP hm hB0 hp h2 g2.1 ⟨njp A p + 1, ?_⟩
      refine l_tg (C := C) (W := W) hP hm hB0 hp h2 hj gs2 gl2 (fun T hc => (hTc T hc).1) (Qc := fun D => (∀ k, k < A 0 3 → hin A k p → Cov D (A 3 (4 * k + 2)) [1] l) ∧ (gon (A 1 p) → p + A 2 p < A 0 2 ∧ Cov D (p + A 2 p) s2 l2)) ?_ (njp A p) 0 I2 (by omega) ?_ ?_ ?_ ?_
      · intro D E hb ⟨z1, z2⟩
        exact ⟨fun k hk hi => Cov_blw hb (z1 k hk hi), fun g => ⟨(z2 g).1, Cov_blw hb (z2 g).2⟩⟩
      · rw [f2 _ _ (by omega) (by omega) (by omega) (by omega) (by omega)]; exact i3
      · rw [f2 _ _ (by omega) (by omega) (by omega) (by omega) (by omega)]; exact i4
      · refine ⟨g2.1, ?_⟩
        rcases g2.2 with ⟨y1, D, V, y2, y3, y4, y5, y6, y7⟩ | z
        · exact Or.inl ⟨y1, D, V, y2, y3, y4, y5, y6, y7, fun j hj => absurd hj (by omega)⟩
        · exact Or.inr z
      · intro I3 f3 g3
        refine k I3 (wk f1 (FrC_t f2 f3)) ⟨g3.1, ?_⟩
        rcases g3.2 with ⟨y1, D, V, y2, y3, y4, y5, y6, ⟨y7, y8⟩, y9⟩ | z
        · exact Or.inl ⟨y1, D, V, y2, y3, y4, y5, y6, y7, s2, l2, e1, y9, y8⟩
        · exact Or.inr z
    by_cases hg : gon (A 1 p)
    · refine s_gonT hc256 hg (zin (by decide) ⟨_, pM2 hP hm, shM2 hm, by rw [zzM2 hm]; exact vp_in_nI (by omega) (by decide), ?_⟩)
      have hsz : I1 (22 + 12 * m) p = nI (A 2 p) := by rw [f1 _ _ (by omega)]; exact (hcd p hp).2
      rw [hsz, nI_add, i3, i4]
      by_cases hend : p + A 2 p = A 0 2
      · refine GI_no hP hm hB0 gG ?_ (fun ⟨T, hc⟩ => absurd ((hTc T hc).2 hg).1 (by omega)) (fun I2 f2 g2 => fin I2 f2 g2)
        rintro ⟨j, hj1, e, -⟩
        have := (nI_eq (by omega) (by omega)).mp e
        omega
      · refine GI_come hP hm hB0 gG (by omega) (by omega) gs2 gl2 (fun T hc => ((hTc T hc).2 hg).2) (fun D E hb z k hk hi => Cov_blw hb (z k hk hi)) (fun I2 f2 g2 => fin I2 f2 ?_)
        refine ⟨g2.1, ?_⟩
        rcases g2.2 with ⟨y1, D, V, y2, y3, y4, y5, y6, y7, y8⟩ | z
        · exact Or.inl ⟨y1, D, V, y2, y3, y4, y5, y6, y7, fun _ => ⟨by omega, y8⟩⟩
        · exact Or.inr z
    · refine s_gonF hc256 hg (zip rfl (fin I1 (FrC_r m I1) ⟨gG.1, ?_⟩))
      rcases gG.2 with ⟨y1, D, V, y2, y3, y4, y5, y6, y7⟩ | z
      · exact Or.inl ⟨y1, D, V, y2, y3, y4, y5, y6, y7, fun z => absurd z hg⟩
      · exact Or.inr z
  · have hno : NoT A ar := fun ⟨T, hc⟩ => by
      obtain ⟨-, s3, l3, e3, -⟩ := hT T hc
      rw [e1] at e3; cases e3
    have hL1 : LM0 A m I1 := by
      have : ∀ c j, c ≠ 4 → I1 c j = I c j := fun c j h => f1 c j (by omega)
      obtain ⟨y1, y2, y3, y4, y5, y6⟩ := hL
      exact ⟨by rw [this _ _ (by omega)]; exact y1, by rw [this _ _ (by omega)]; exact y2, by rw [this _ _ (by omega)]; exact y3, by rw [this _ _ (by omega)]; exact y4, fun p hp => ⟨by rw [this _ _ (by omega)]; exact (y5 p hp).1, by rw [this _ _ (by omega)]; exact (y5 p hp).2⟩, fun k hk => by rw [this _ _ (by omega)]; exact y6 k hk⟩
    have fin : ∀ I2, FrC m I1 I2 → I2 4 5 = 1 → LM0 A m I2 → j_X1_goFrom_144 K (20 + 12 * m) (nI p) I2 P := by
      intro I2 f2 z5 hL2
      refine s_144 hP hm hB0 hp h2 hL2 ⟨njp A p + 1, ?_⟩
      exact a_tg hP hm hB0 hp h2 (njp A p) 0 I2 (by omega) hL2 z5 (fun I3 f3 g3 => k I3 (wk f1 (FrC_t f2 f3)) ⟨LM0_C hm hL2 f3, Or.inr ⟨g3, hno⟩⟩)
    by_cases hg : gon (A 1 p)
    · refine s_gonT hc256 hg (zin (by decide) ⟨_, pM2 hP hm, shM2 hm, by rw [zzM2 hm]; exact vp_in_nI (by omega) (by decide), ?_⟩)
      exact a_come hP hm hL1 hB0 i5 (fun I2 f2 g2 => fin I2 f2 g2 (LM0_C hm hL1 f2))
    · exact s_gonF hc256 hg (zip rfl (fin I1 (FrC_r m I1) i5 hL1))
