/-! PURE 48: the loom's weaver: an INSTRUCTION, what lies behind it, the PADS -/
theorem s_wi {A B F : Nat → Nat → Nat} {m w p : Nat} {l : List WB3} {G J : zI} {P : zP} {K : zI → zP → Prop} (hP : PSt P) (hm : m < 6) (hB : W0 A m) (hj : jok A p) (hF : FOK A m B w F) (hX : CX A m B w F G) (hp : p < A 0 2) (hz : 0 < A 2 p) (hS : l.length = Sp A m B w F p) (hW : LW m l G J) (hn : l.length + A 2 p + F 0 p ≤ 1000) (k : ∀ J', LW m (l ++ selfL A m B w F p) G J' → K J' P) : w_X7_writeInstruction (20 + 12 * m) (nI p) J P K := by
  have hl := hB.2.2.2.2.1
  have hXJ := CX_w hl hm hX hW
  have hw := hX.1.2.2.1
  have v : vp_in (nI p) 400 := vp_in_nI (by omega) (by decide)
  have a256 := hB.2.2.2.2.2.2.1
  have b256 := a256 p
  obtain ⟨bG, -⟩ := bnd (B := B) hB hw hF.1
  obtain ⟨c1, c2, c3, c4, c5, -⟩ := hB.2.2.2.2.2.2.2.2.2.1 p hp hz
  have hs := len_s hB hF hp hz
  have hd : ∀ i, i < njp A p → dst A m B w F p i ≤ 200000 := fun i hi => by
    obtain ⟨t1, t2, t3⟩ := tg_n hB hj hz hi
    have := (bG _ (Nat.le_of_lt t2)).1
    have := (bG p (by omega)).2
    unfold dst; split <;> omega
  have o1 : nI p = oM (p + 1) := rfl
  unfold w_X7_writeInstruction
  refine ⟨shM hm, _, pM1 hP hm, shM1 hm, by rw [zzM1 hm]; exact v, ?_⟩
  rw [nI_clamp (by omega), (hXJ.1.1.2.2.2.2.1 p hp).1]
  have jump : ∀ (x : Int32) (lg : Bool), (isSt (A 1 p) ∨ isLg (A 1 p)) → x = nI (sho (A 1 p) + if lg then 64 else 0) → lg = decide (isLg (A 1 p) ∨ F 0 p = 1) → 20 ≤ sho (A 1 p) ∧ sho (A 1 p) ≤ 32 → j_X7_writeInstruction_38 K (20 + 12 * m) (nI p) x J P := fun x lg g hx hlg ho => by
    unfold j_X7_writeInstruction_38
    have es : selfL A m B w F p = jl (sho (A 1 p)) lg ((dst A m B w F p 0 : Int) - Sp A m B w F p) (p + 1) (p + 1) := by unfold selfL; rw [if_pos g, hlg]
    rw [es, len_jl] at hs
    refine ⟨shM hm, _, pM6 hP hm, s_ld (i := 0) hP hm hB hXJ.1.1 hXJ.2.1 hw hXJ.2.2.2 hp hz hj (njp_1 g) (s_wj (o := p + 1) (lg := lg) hP hm ho hx (by have := hd 0 (njp_1 g); omega) o1 hW (by omega) (fun J' h' => k J' ?_))⟩
    rw [es]; rw [hS] at h'; exact h'
  have j21 : (isSt (A 1 p) ∨ isLg (A 1 p)) → j_X7_writeInstruction_21 K (20 + 12 * m) (nI p) (nI (A 1 p)) J P := fun g => by
    unfold j_X7_writeInstruction_21
    rw [nI_clamp (by omega), (hXJ.2.2.1.1 p (by omega)).1]
    refine ⟨v, ?_⟩
    by_cases gl : isLg (A 1 p)
    · have e0 : F 0 p = 0 := by
        have := hF.1 0 p
        have : F 0 p ≠ 1 := fun q => by have := (hF.2.1 p q).2.2; unfold isSt isLg at *; omega
        omega
      have es : sho (A 1 p) = A 1 p - 64 := by unfold sho isLg at *; split <;> omega
      refine zip (by rw [e0]; rfl) (jump _ true g (by rw [es]; unfold isLg at gl; rw [if_pos rfl]; congr 1; omega) (decide_eq_true (Or.inl gl)).symm (by unfold isLg at gl; omega))
    · have gs := g.resolve_right gl
      have es : sho (A 1 p) = A 1 p := by unfold sho isSt at *; split <;> omega
      rcases f01 hF.1 0 p with z | z
      · exact zip (by rw [z]; rfl) (jump _ false g (by rw [es]; rfl) (decide_eq_false (fun q => q.elim gl (fun y => by omega))).symm (by unfold isSt at gs; omega))
      · exact zin (by rw [z]; decide) (jump _ true g (by rw [es, if_pos rfl, show (64 : Int32) = nI 64 from rfl, nI_add]) (decide_eq_true (Or.inr z)).symm (by unfold isSt at gs; omega))
  by_cases g1 : isSt (A 1 p)
  · exact s_stT g1 (zin (by decide) (j21 (Or.inl g1)))
  refine s_stF b256 g1 (zip rfl ?_)
  by_cases g2 : isLg (A 1 p)
  · exact s_lgT g2 (zin (by decide) (j21 (Or.inr g2)))
  refine s_lgF b256 g2 (zip rfl ?_)
  have gn : ¬ (isSt (A 1 p) ∨ isLg (A 1 p)) := fun q => q.elim g1 g2
  by_cases e : A 1 p = 33
  · have es : selfL A m B w F p = (33, p + 1, p + 1) :: (A 1 (p + 1), p + 1, 0) :: cat (fun i => [(hi8 ((dst A m B w F p i : Int) - Sp A m B w F p), p + 1, 0), (lo8 ((dst A m B w F p i : Int) - Sp A m B w F p), p + 1, 0)]) (njp A p) := by unfold selfL; rw [if_neg gn, if_pos e]
    have ho : A 2 p = 4 + 2 * A 1 (p + 1) := by rw [c2]; unfold opz; rw [if_pos e]
    have hnj : njp A p = A 1 (p + 1) + 1 := by unfold njp; rw [if_pos e]
    rw [es] at hs k
    generalize hf : (fun i => [(hi8 ((dst A m B w F p i : Int) - Sp A m B w F p), p + 1, 0), (lo8 ((dst A m B w F p i : Int) - Sp A m B w F p), p + 1, 0)]) = f at hs k
    have lp : ∀ d i J, i + d = njp A p → LW m (l ++ ((33, p + 1, p + 1) :: (A 1 (p + 1), p + 1, 0) :: cat f i)) G J → l_X7_writeInstruction_115 K (d + 1) (20 + 12 * m) (nI p) (nI l.length) (nI (njp A p)) (nI i) J P := by
      intro d
      induction d with
      | zero =>
        intro i J hi h1
        obtain rfl : i = njp A p := by omega
        rw [l_X7_writeInstruction_115]
        exact zip (by first | omega | decide | (simp (maxSteps := 400000) (disch := omega) only [q_lit, q_neg, nI_ltI, nI_leI, nI_eq, nI_add, pk_mul, pk_sub, nI_clamp, vp_q, zu_same, zu_nc, zu_nj, ng_lt, ng_le, ng_gt, ng_ge, ng_eq, ng_qe, ng_ee, ng_add, not_false_eq_true, not_true_eq_false, ne_eq]; done) | (simp (maxSteps := 400000) (disch := omega) only [q_lit, q_neg, nI_ltI, nI_leI, nI_eq, nI_add, pk_mul, pk_sub, nI_clamp, vp_q, zu_same, zu_nc, zu_nj, ng_lt, ng_le, ng_gt, ng_ge, ng_eq, ng_qe, ng_ee, ng_add, not_false_eq_true, not_true_eq_false, ne_eq]; omega)) (k J h1)
      | succ d ih =>
        intro i J hi h1
        have hX1 := CX_w hl hm hX h1
        have hdi := hd i (by omega)
        have lf : (cat f i).length = 2 * i := by rw [← hf]; exact len_k (k := 2) (fun i => rfl) i
        have eT := pk_sub_toInt (a := dst A m B w F p i) (b := l.length) (by omega) (by omega)
        rw [l_X7_writeInstruction_115, nI_1]
        refine zin (by first | omega | decide | (simp (maxSteps := 400000) (disch := omega) only [q_lit, q_neg, nI_ltI, nI_leI, nI_eq, nI_add, pk_mul, pk_sub, nI_clamp, vp_q, zu_same, zu_nc, zu_nj, ng_lt, ng_le, ng_gt, ng_ge, ng_eq, ng_qe, ng_ee, ng_add, not_false_eq_true, not_true_eq_false, ne_eq]; done) | (simp (maxSteps := 400000) (disch := omega) only [q_lit, q_neg, nI_ltI, nI_leI, nI_eq, nI_add, pk_mul, pk_sub, nI_clamp, vp_q, zu_same, zu_nc, zu_nj, ng_lt, ng_le, ng_gt, ng_ge, ng_eq, ng_qe, ng_ee, ng_add, not_false_eq_true, not_true_eq_false, ne_eq]; omega)) ⟨shM hm, _, pM6 hP hm, s_ld hP hm hB hX1.1.1 hX1.2.1 hw hX1.2.2.2 hp hz hj (by omega) ?_⟩
        unfold w_X7_writePair
        refine s_w2 (o := 0) (o' := 0) hP hm h1 (by rw [List.length_append, List.length_cons, List.length_cons, lf]; omega) (by_hi eT) (by_lo eT) o1 (fun J2 h2 => ih (i + 1) J2 (by omega) ?_)
        rw [cat]
        rw [List.append_assoc, List.cons_append, List.cons_append] at h2
        rw [hS] at h2
        rw [← hf] at h2 ⊢
        exact h2
    refine zip (by rw [e]; rfl) ⟨_, pM6 hP hm, s_wb (b := 33) (o := p + 1) hP hm hW (by omega) (by rw [e]; rfl) o1 (fun J1 h1 => ⟨_, pM6 hP hm, _, pM1 hP hm, ?_⟩)⟩
    have hX1 := CX_w hl hm hX h1
    rw [nI_1]
    refine s_byte (shM1 hm) (zzM1 hm) (by decide) (by omega) ?_
    rw [(hX1.1.1.2.2.2.2.1 (p + 1) (by omega)).1]
    refine s_wb (b := A 1 (p + 1)) (o := 0) hP hm h1 (by rw [List.length_append]; show _ + 1 < _; omega) (by_n (a256 _)) o1 (fun J2 h2 => ⟨_, pM1 hP hm, s_tc hm (CX_w hl hm hX h2).1.1 hB hp hz ?_⟩)
    rw [hW.1]
    exact ⟨_, lp (njp A p) 0 J2 (by omega) (by rw [List.append_assoc] at h2; exact h2)⟩
  · refine zin (by first | omega | decide | (simp (maxSteps := 400000) (disch := omega) only [q_lit, q_neg, nI_ltI, nI_leI, nI_eq, nI_add, pk_mul, pk_sub, nI_clamp, vp_q, zu_same, zu_nc, zu_nj, ng_lt, ng_le, ng_gt, ng_ge, ng_eq, ng_qe, ng_ee, ng_add, not_false_eq_true, not_true_eq_false, ne_eq]; done) | (simp (maxSteps := 400000) (disch := omega) only [q_lit, q_neg, nI_ltI, nI_leI, nI_eq, nI_add, pk_mul, pk_sub, nI_clamp, vp_q, zu_same, zu_nc, zu_nj, ng_lt, ng_le, ng_gt, ng_ge, ng_eq, ng_qe, ng_ee, ng_add, not_false_eq_true, not_true_eq_false, ne_eq]; omega)) ?_
    have es : selfL A m B w F p = cat (fun i => [(A 1 (p + i), p + 1, if i = 0 then p + 1 else 0)]) (A 2 p) := by unfold selfL; rw [if_neg gn, if_neg e]
    rw [es] at hs k
    generalize hf : (fun i => [(A 1 (p + i), p + 1, if i = 0 then p + 1 else 0)]) = f at hs k
    have lp : ∀ d i J, i + d = A 2 p → LW m (l ++ cat f i) G J → l_X7_writeInstruction_154 K (d + 1) (20 + 12 * m) (nI p) (nI i) J P := by
      intro d
      induction d with
      | zero =>
        intro i J hi h1
        obtain rfl : i = A 2 p := by omega
        have hX1 := CX_w hl hm hX h1
        rw [l_X7_writeInstruction_154, nI_clamp (by omega)]
        exact ⟨shM hm, _, pM2 hP hm, shM2 hm, by rw [zzM2 hm]; exact v, zip (by rw [(hX1.1.1.2.2.2.2.1 p hp).2]; first | omega | decide | (simp (maxSteps := 400000) (disch := omega) only [q_lit, q_neg, nI_ltI, nI_leI, nI_eq, nI_add, pk_mul, pk_sub, nI_clamp, vp_q, zu_same, zu_nc, zu_nj, ng_lt, ng_le, ng_gt, ng_ge, ng_eq, ng_qe, ng_ee, ng_add, not_false_eq_true, not_true_eq_false, ne_eq]; done) | (simp (maxSteps := 400000) (disch := omega) only [q_lit, q_neg, nI_ltI, nI_leI, nI_eq, nI_add, pk_mul, pk_sub, nI_clamp, vp_q, zu_same, zu_nc, zu_nj, ng_lt, ng_le, ng_gt, ng_ge, ng_eq, ng_qe, ng_ee, ng_add, not_false_eq_true, not_true_eq_false, ne_eq]; omega)) (k J h1)⟩
      | succ d ih =>
        intro i J hi h1
        have hX1 := CX_w hl hm hX h1
        have lf : (cat f i).length = 1 * i := by rw [← hf]; exact len_k (k := 1) (fun i => rfl) i
        rw [l_X7_writeInstruction_154, nI_clamp (by omega), nI_1, nI_add]
        refine ⟨shM hm, _, pM2 hP hm, shM2 hm, by rw [zzM2 hm]; exact v, zin (by rw [(hX1.1.1.2.2.2.2.1 p hp).2]; first | omega | decide | (simp (maxSteps := 400000) (disch := omega) only [q_lit, q_neg, nI_ltI, nI_leI, nI_eq, nI_add, pk_mul, pk_sub, nI_clamp, vp_q, zu_same, zu_nc, zu_nj, ng_lt, ng_le, ng_gt, ng_ge, ng_eq, ng_qe, ng_ee, ng_add, not_false_eq_true, not_true_eq_false, ne_eq]; done) | (simp (maxSteps := 400000) (disch := omega) only [q_lit, q_neg, nI_ltI, nI_leI, nI_eq, nI_add, pk_mul, pk_sub, nI_clamp, vp_q, zu_same, zu_nc, zu_nj, ng_lt, ng_le, ng_gt, ng_ge, ng_eq, ng_qe, ng_ee, ng_add, not_false_eq_true, not_true_eq_false, ne_eq]; omega)) ⟨_, pM6 hP hm, _, pM1 hP hm, s_byte (shM1 hm) (zzM1 hm) (by decide) (by omega) ?_⟩⟩
        rw [(hX1.1.1.2.2.2.2.1 (p + i) (by omega)).1]
        refine s_wb (b := A 1 (p + i)) (o := if i = 0 then p + 1 else 0) hP hm h1 (by rw [List.length_append, lf]; omega) (by_n (a256 _)) o1 (fun J2 h2 => ih (i + 1) J2 (by omega) ?_)
        rw [cat]
        rw [List.append_assoc] at h2
        rw [← hf] at h2 ⊢
        exact h2
    exact ⟨_, lp (A 2 p) 0 J (by omega) (by rw [cat, List.append_nil]; exact hW)⟩
theorem s_ws {m q sd h : Nat} {l : List WB3} {y : Int32} {G J : zI} {P : zP} {K : zI → zP → Prop} (hP : PSt P) (hm : m < 6) (hq : q < 256) (hsd : sd < 2) (hy : y = oM h) (hW : LW m l G J) (hn : l.length + 3 ≤ 1000) (k : ∀ J', LW m (l ++ e3 q sd h) G J' → K J' P) : w_X7_writeSide (26 + 12 * m) (nI q) (nI sd) y J P K := by
  unfold w_X7_writeSide
  refine s_wb (b := 49) (o := 0) hP hm hW (by omega) (by decide) hy (fun J1 h1 => s_w2 (o := 0) (o' := 0) hP hm h1 (by rw [List.length_append]; show _ + 1 + 2 ≤ _; omega) (by_n hq) (by_n (by omega)) hy (fun J2 h2 => k J2 ?_))
  rw [List.append_assoc] at h2; exact h2
theorem s_wbh {A B F : Nat → Nat → Nat} {m w p : Nat} {l : List WB3} {G J : zI} {P : zP} {K : zI → zP → Prop} (hP : PSt P) (hm : m < 6) (hl : A 0 2 ≤ 400) (hX : CX A m B w F G) (hQ : BQ A m B w) (hp : p < A 0 2) (hz : 0 < A 2 p) (hW : LW m l G J) (hn : l.length + bhn m B w p ≤ 1000) (k : ∀ J', LW m (l ++ cat (fB m B p) w) G J' → K J' P) : w_X7_writeBehind (20 + 12 * m) (nI p) J P K := by
  unfold w_X7_writeBehind
  have hXJ := CX_w hl hm hX hW
  have hw := hX.1.2.2.1
  have v : vp_in (nI p) 400 := vp_in_nI (by omega) (by decide)
  have al := bhn_le (B := B) (m := m) (p := p) hw
  have lB := len_B (B := B) (m := m) (p := p) w
  have o1 : nI p = oM (p + 1) := rfl
  rw [nI_clamp (by omega), (hXJ.2.1.1 p hp hz).2]
  refine ⟨v, ?_⟩
  by_cases e : bhn m B w p = 0
  · refine zip (by rw [e]; rfl) (k J ?_)
    rw [List.eq_nil_of_length_eq_zero (l := cat (fB m B p) w) (by omega), List.append_nil]
    exact hW
  refine zin (by first | omega | decide | (simp (maxSteps := 400000) (disch := omega) only [q_lit, q_neg, nI_ltI, nI_leI, nI_eq, nI_add, pk_mul, pk_sub, nI_clamp, vp_q, zu_same, zu_nc, zu_nj, ng_lt, ng_le, ng_gt, ng_ge, ng_eq, ng_qe, ng_ee, ng_add, not_false_eq_true, not_true_eq_false, ne_eq]; done) | (simp (maxSteps := 400000) (disch := omega) only [q_lit, q_neg, nI_ltI, nI_leI, nI_eq, nI_add, pk_mul, pk_sub, nI_clamp, vp_q, zu_same, zu_nc, zu_nj, ng_lt, ng_le, ng_gt, ng_ge, ng_eq, ng_qe, ng_ee, ng_add, not_false_eq_true, not_true_eq_false, ne_eq]; omega)) ?_
  have lp : ∀ d q J, q + d = w → LW m (l ++ cat (fB m B p) q) G J → l_X7_writeBehind_13 K (d + 1) (20 + 12 * m) (nI p) (nI q) J P := by
    intro d
    induction d with
    | zero =>
      intro q J hq hW
      obtain rfl : q = w := by omega
      rw [l_X7_writeBehind_13]
      exact zip (by rw [(CX_w hl hm hX hW).1.2.2.2.1]; first | omega | decide | (simp (maxSteps := 400000) (disch := omega) only [q_lit, q_neg, nI_ltI, nI_leI, nI_eq, nI_add, pk_mul, pk_sub, nI_clamp, vp_q, zu_same, zu_nc, zu_nj, ng_lt, ng_le, ng_gt, ng_ge, ng_eq, ng_qe, ng_ee, ng_add, not_false_eq_true, not_true_eq_false, ne_eq]; done) | (simp (maxSteps := 400000) (disch := omega) only [q_lit, q_neg, nI_ltI, nI_leI, nI_eq, nI_add, pk_mul, pk_sub, nI_clamp, vp_q, zu_same, zu_nc, zu_nj, ng_lt, ng_le, ng_gt, ng_ge, ng_eq, ng_qe, ng_ee, ng_add, not_false_eq_true, not_true_eq_false, ne_eq]; omega)) (k J hW)
    | succ d ih =>
      intro q J hq hW
      have hXJ := CX_w hl hm hX hW
      obtain ⟨q1, q2, q3, -⟩ := hQ q (by omega)
      have cl := cat_le (f := fB m B p) (q := q) (w := w) (by omega)
      have skip : fB m B p q = [] → l_X7_writeBehind_13 K (d + 1) (20 + 12 * m) (nI p) (nI (q + 1)) J P := fun e =>
        ih (q + 1) J (by omega) (by rw [cat, e, List.append_nil]; exact hW)
      rw [l_X7_writeBehind_13, nI_1, hXJ.1.2.1]
      refine zin (by rw [hXJ.1.2.2.2.1]; first | omega | decide | (simp (maxSteps := 400000) (disch := omega) only [q_lit, q_neg, nI_ltI, nI_leI, nI_eq, nI_add, pk_mul, pk_sub, nI_clamp, vp_q, zu_same, zu_nc, zu_nj, ng_lt, ng_le, ng_gt, ng_ge, ng_eq, ng_qe, ng_ee, ng_add, not_false_eq_true, not_true_eq_false, ne_eq]; done) | (simp (maxSteps := 400000) (disch := omega) only [q_lit, q_neg, nI_ltI, nI_leI, nI_eq, nI_add, pk_mul, pk_sub, nI_clamp, vp_q, zu_same, zu_nc, zu_nj, ng_lt, ng_le, ng_gt, ng_ge, ng_eq, ng_qe, ng_ee, ng_add, not_false_eq_true, not_true_eq_false, ne_eq]; omega)) ⟨shM hm, s_at hXJ.1.2.2 (by omega) (by omega) (by omega) (by omega) (by omega) (fun y1 y2 => zin (by decide) (s_so hXJ.1.2.2 (by omega) ?_)) (fun e1 => zip rfl (skip ?_))⟩
      · by_cases h1 : B 0 q = 1
        · have ef : fB m B p q = e3 q 0 (p + 1) := by unfold fB; rw [if_neg (fun z => by have := z.1; omega), if_neg (fun z => by have := z.1; omega), if_pos ⟨h1, y1, y2⟩]
          rw [ef] at cl
          have l3 : (e3 q 0 (p + 1)).length = 3 := rfl
          refine zip (by rw [h1]; rfl) ⟨_, pM6 hP hm, s_ws (sd := 0) hP hm (by omega) (by decide) o1 hW (by rw [List.length_append]; omega) (fun J2 h2 => ih (q + 1) J2 (by omega) ?_)⟩
          rw [cat, ef, ← List.append_assoc]; exact h2
        · refine zin (by first | omega | decide | (simp (maxSteps := 400000) (disch := omega) only [q_lit, q_neg, nI_ltI, nI_leI, nI_eq, nI_add, pk_mul, pk_sub, nI_clamp, vp_q, zu_same, zu_nc, zu_nj, ng_lt, ng_le, ng_gt, ng_ge, ng_eq, ng_qe, ng_ee, ng_add, not_false_eq_true, not_true_eq_false, ne_eq]; done) | (simp (maxSteps := 400000) (disch := omega) only [q_lit, q_neg, nI_ltI, nI_leI, nI_eq, nI_add, pk_mul, pk_sub, nI_clamp, vp_q, zu_same, zu_nc, zu_nj, ng_lt, ng_le, ng_gt, ng_ge, ng_eq, ng_qe, ng_ee, ng_add, not_false_eq_true, not_true_eq_false, ne_eq]; omega)) ?_
          have go : ∀ (x : Int32) (op : Nat), x &&& 255 = nI op → fB m B p q = e2 op q (p + 1) → j_X7_writeBehind_99 (l_X7_writeBehind_13 K (d + 1)) K (20 + 12 * m) (nI p) (nI q) x (26 + 12 * m) J P := fun x op hx ef => by
            unfold j_X7_writeBehind_99
            rw [ef] at cl
            have l3 : (e2 op q (p + 1)).length = 2 := rfl
            rw [nI_1]
            refine s_wb (b := op) (o := 0) hP hm hW (by rw [List.length_append]; omega) hx o1 (fun J1 h1 => ⟨shM hm, _, pM6 hP hm, s_wb (o := 0) hP hm h1 (by rw [List.length_append, List.length_append]; show _ + 1 < _; omega) (by_n (by omega)) o1 (fun J2 h2 => ih (q + 1) J2 (by omega) ?_)⟩)
            rw [cat, ef]
            rw [List.append_assoc, List.append_assoc] at h2
            exact h2
          by_cases h4 : B 0 q = 4
          · refine zip (by rw [h4]; rfl) ?_
            unfold j_X7_writeBehind_81
            refine ⟨shM hm, _, pM6 hP hm, zip (by rw [h4]; rfl) (go 54 54 (by decide) ?_)⟩
            unfold fB; rw [if_pos ⟨h4, y1, y2⟩]
          · refine zin (by first | omega | decide | (simp (maxSteps := 400000) (disch := omega) only [q_lit, q_neg, nI_ltI, nI_leI, nI_eq, nI_add, pk_mul, pk_sub, nI_clamp, vp_q, zu_same, zu_nc, zu_nj, ng_lt, ng_le, ng_gt, ng_ge, ng_eq, ng_qe, ng_ee, ng_add, not_false_eq_true, not_true_eq_false, ne_eq]; done) | (simp (maxSteps := 400000) (disch := omega) only [q_lit, q_neg, nI_ltI, nI_leI, nI_eq, nI_add, pk_mul, pk_sub, nI_clamp, vp_q, zu_same, zu_nc, zu_nj, ng_lt, ng_le, ng_gt, ng_ge, ng_eq, ng_qe, ng_ee, ng_add, not_false_eq_true, not_true_eq_false, ne_eq]; omega)) ?_
            by_cases h7 : B 0 q = 7
            · refine zip (by rw [h7]; rfl) ?_
              unfold j_X7_writeBehind_81
              refine ⟨shM hm, _, pM6 hP hm, zin (by first | omega | decide | (simp (maxSteps := 400000) (disch := omega) only [q_lit, q_neg, nI_ltI, nI_leI, nI_eq, nI_add, pk_mul, pk_sub, nI_clamp, vp_q, zu_same, zu_nc, zu_nj, ng_lt, ng_le, ng_gt, ng_ge, ng_eq, ng_qe, ng_ee, ng_add, not_false_eq_true, not_true_eq_false, ne_eq]; done) | (simp (maxSteps := 400000) (disch := omega) only [q_lit, q_neg, nI_ltI, nI_leI, nI_eq, nI_add, pk_mul, pk_sub, nI_clamp, vp_q, zu_same, zu_nc, zu_nj, ng_lt, ng_le, ng_gt, ng_ge, ng_eq, ng_qe, ng_ee, ng_add, not_false_eq_true, not_true_eq_false, ne_eq]; omega)) (go 57 57 (by decide) ?_)⟩
              unfold fB; rw [if_neg (fun z => h4 z.1), if_pos ⟨h7, y1, y2⟩]
            · refine zin (by first | omega | decide | (simp (maxSteps := 400000) (disch := omega) only [q_lit, q_neg, nI_ltI, nI_leI, nI_eq, nI_add, pk_mul, pk_sub, nI_clamp, vp_q, zu_same, zu_nc, zu_nj, ng_lt, ng_le, ng_gt, ng_ge, ng_eq, ng_qe, ng_ee, ng_add, not_false_eq_true, not_true_eq_false, ne_eq]; done) | (simp (maxSteps := 400000) (disch := omega) only [q_lit, q_neg, nI_ltI, nI_leI, nI_eq, nI_add, pk_mul, pk_sub, nI_clamp, vp_q, zu_same, zu_nc, zu_nj, ng_lt, ng_le, ng_gt, ng_ge, ng_eq, ng_qe, ng_ee, ng_add, not_false_eq_true, not_true_eq_false, ne_eq]; omega)) (skip ?_)
              unfold fB; rw [if_neg (fun z => h4 z.1), if_neg (fun z => h7 z.1), if_neg (fun z => h1 z.1)]
      · unfold fB; rw [if_neg (fun z => e1 z.2), if_neg (fun z => e1 z.2), if_neg (fun z => e1 z.2)]
  exact ⟨_, lp w 0 J (by omega) (by rw [cat, List.append_nil]; exact hW)⟩
theorem s_wsp {A B F : Nat → Nat → Nat} {m w : Nat} {l : List WB3} {G J : zI} {P : zP} {K : zI → zP → Prop} (hP : PSt P) (hm : m < 6) (hB : W0 A m) (hJ : ∀ p, p < A 0 2 → jok A p) (hF : FOK A m B w F) (hX : CX A m B w F G) (hQ : BQ A m B w) (hT : TOT A m B w F ≤ 1000) (hS : l.length = SPp A m B w F 0) (hlen : ∀ p, p ≤ A 0 2 → (l ++ cat (spL A m B w F) p).length = SPp A m B w F p) (hW : LW m l G J) (k : ∀ J', LW m (l ++ cat (spL A m B w F) (A 0 2)) G J' → K J' P) : w_X7_writeSidePads (20 + 12 * m) J P K := by
  have hl := hB.2.2.2.2.1
  have hw := hX.1.2.2.1
  obtain ⟨bG, -⟩ := bnd (B := B) hB hw hF.1
  have lp : ∀ d i J, i + d = A 0 2 → LW m (l ++ cat (spL A m B w F) i) G J → l_X7_writeSidePads_2 K (d + 1) (20 + 12 * m) (nI i) J P := by
    intro d
    induction d with
    | zero =>
      intro i J hi hW
      obtain rfl : i = A 0 2 := by omega
      rw [l_X7_writeSidePads_2]
      exact ⟨shM hm, zip (by rw [(CX_w hl hm hX hW).1.1.2.2.1]; first | omega | decide | (simp (maxSteps := 400000) (disch := omega) only [q_lit, q_neg, nI_ltI, nI_leI, nI_eq, nI_add, pk_mul, pk_sub, nI_clamp, vp_q, zu_same, zu_nc, zu_nj, ng_lt, ng_le, ng_gt, ng_ge, ng_eq, ng_qe, ng_ee, ng_add, not_false_eq_true, not_true_eq_false, ne_eq]; done) | (simp (maxSteps := 400000) (disch := omega) only [q_lit, q_neg, nI_ltI, nI_leI, nI_eq, nI_add, pk_mul, pk_sub, nI_clamp, vp_q, zu_same, zu_nc, zu_nj, ng_lt, ng_le, ng_gt, ng_ge, ng_eq, ng_qe, ng_ee, ng_add, not_false_eq_true, not_true_eq_false, ne_eq]; omega)) (k J hW)⟩
    | succ d ih =>
      intro i J hi hW
      have hXJ := CX_w hl hm hX hW
      have v : vp_in (nI i) 400 := vp_in_nI (by omega) (by decide)
      have c1 := cnq_le (B := B) (m := m) (s := 1) (p := i) w
      have L1 := hlen i (by omega)
      have L2 := hlen (i + 1) (by omega)
      rw [cat, ← List.append_assoc, List.length_append, L1] at L2
      have bT : SPp A m B w F (i + 1) ≤ 1000 := by
        have a := SP_le (A := A) (B := B) (F := F) (m := m) (w := w) (p := i + 1) (by omega)
        have b := CP_0 (A := A) (B := B) (F := F) (m := m) (w := w) (A 0 3)
        have c := LP_le (A := A) (B := B) (F := F) (m := m) (w := w)
        unfold LPp at c
        omega
      rw [l_X7_writeSidePads_2, nI_1, nI_clamp (by omega), (hXJ.2.1.2.1 i (by omega)).1]
      refine ⟨shM hm, zin (by rw [hXJ.1.1.2.2.1]; first | omega | decide | (simp (maxSteps := 400000) (disch := omega) only [q_lit, q_neg, nI_ltI, nI_leI, nI_eq, nI_add, pk_mul, pk_sub, nI_clamp, vp_q, zu_same, zu_nc, zu_nj, ng_lt, ng_le, ng_gt, ng_ge, ng_eq, ng_qe, ng_ee, ng_add, not_false_eq_true, not_true_eq_false, ne_eq]; done) | (simp (maxSteps := 400000) (disch := omega) only [q_lit, q_neg, nI_ltI, nI_leI, nI_eq, nI_add, pk_mul, pk_sub, nI_clamp, vp_q, zu_same, zu_nc, zu_nj, ng_lt, ng_le, ng_gt, ng_ge, ng_eq, ng_qe, ng_ee, ng_add, not_false_eq_true, not_true_eq_false, ne_eq]; omega)) ⟨v, ?_⟩⟩
      by_cases e : cnq B m 1 i w = 0
      · refine zip (by rw [e]; rfl) (ih (i + 1) J (by omega) ?_)
        rw [cat, spL, if_pos e, List.append_nil]; exact hW
      refine zin (by first | omega | decide | (simp (maxSteps := 400000) (disch := omega) only [q_lit, q_neg, nI_ltI, nI_leI, nI_eq, nI_add, pk_mul, pk_sub, nI_clamp, vp_q, zu_same, zu_nc, zu_nj, ng_lt, ng_le, ng_gt, ng_ge, ng_eq, ng_qe, ng_ee, ng_add, not_false_eq_true, not_true_eq_false, ne_eq]; done) | (simp (maxSteps := 400000) (disch := omega) only [q_lit, q_neg, nI_ltI, nI_leI, nI_eq, nI_add, pk_mul, pk_sub, nI_clamp, vp_q, zu_same, zu_nc, zu_nj, ng_lt, ng_le, ng_gt, ng_ge, ng_eq, ng_qe, ng_ee, ng_add, not_false_eq_true, not_true_eq_false, ne_eq]; omega)) ?_
      obtain ⟨s1, s2, s3⟩ := sd_ok hQ (p := i) (by omega)
      obtain ⟨t1, t2, t3⟩ := tg_n hB (hJ i (by omega)) s2 (njp_1 s3)
      have es : spL A m B w F i = cat (fun q => if atq B m 1 i q then e3 q 1 0 else []) w ++ jl 20 (decide (F 1 i = 1)) ((Gp A m B w F (tgn A i 0) : Int) - (SPp A m B w F i + 3 * cnq B m 1 i w : Nat)) 0 0 := by unfold spL; rw [if_neg e]
      have lc := len_c (B := B) (m := m) (s := 1) (p := i) (f := fun q => e3 q 1 0) (k := 3) (fun q => rfl) w
      rw [es, List.length_append, lc, len_jl] at L2
      generalize hf : (fun q => if atq B m 1 i q then e3 q 1 0 else []) = f at es lc
      have lp2 : ∀ d' q J, q + d' = w → LW m (l ++ cat (spL A m B w F) i ++ cat f q) G J → l_X7_writeSidePads_25 (l_X7_writeSidePads_2 K (d + 1)) K (d' + 1) (20 + 12 * m) (nI i) (nI q) J P := by
        intro d'
        induction d' with
        | zero =>
          intro q J hq hW
          obtain rfl : q = w := by omega
          have hXJ := CX_w hl hm hX hW
          have bg := (bG _ (Nat.le_of_lt t2)).1
          rw [l_X7_writeSidePads_25, nI_clamp (by omega)]
          refine zip (by rw [hXJ.1.2.2.2.1]; first | omega | decide | (simp (maxSteps := 400000) (disch := omega) only [q_lit, q_neg, nI_ltI, nI_leI, nI_eq, nI_add, pk_mul, pk_sub, nI_clamp, vp_q, zu_same, zu_nc, zu_nj, ng_lt, ng_le, ng_gt, ng_ge, ng_eq, ng_qe, ng_ee, ng_add, not_false_eq_true, not_true_eq_false, ne_eq]; done) | (simp (maxSteps := 400000) (disch := omega) only [q_lit, q_neg, nI_ltI, nI_leI, nI_eq, nI_add, pk_mul, pk_sub, nI_clamp, vp_q, zu_same, zu_nc, zu_nj, ng_lt, ng_le, ng_gt, ng_ge, ng_eq, ng_qe, ng_ee, ng_add, not_false_eq_true, not_true_eq_false, ne_eq]; omega)) ⟨shM hm, _, pM1 hP hm, s_ta (i := 0) hm hXJ.1.1 hB (by omega) s2 (njp_1 s3) ?_⟩
          rw [t1]
          refine s_ga (by omega) ⟨_, pM6 hP hm, v, ?_⟩
          rw [(hXJ.2.2.2.1 _ t2 t3).1, (hXJ.2.2.1.1 i (by omega)).2]
          have fin : ∀ (x : Int32) (lg : Bool), x = nI (20 + if lg then 64 else 0) → lg = decide (F 1 i = 1) → j_X7_writeSidePads_112 (l_X7_writeSidePads_2 K (d + 1)) K (20 + 12 * m) (nI i) (nI (Gp A m B q F (tgn A i 0))) x (26 + 12 * m) J P := fun x lg hx hlg => by
            unfold j_X7_writeSidePads_112
            rw [nI_1]
            refine s_wj (h := 0) (o := 0) (lg := lg) hP hm (by decide) hx (by omega) rfl hW (by rw [List.length_append, L1, lc, hlg]; omega) (fun J' h' => ih (i + 1) J' (by omega) ?_)
            rw [cat, es, ← hlg]
            rw [List.length_append, L1, lc] at h'
            rw [List.append_assoc, List.append_assoc] at h'
            exact h'
          rcases f01 hF.1 1 i with z | z
          · exact zip (by rw [z]; rfl) (fin _ false rfl (decide_eq_false (by omega)).symm)
          · exact zin (by rw [z]; decide) (fin _ true rfl (decide_eq_true z).symm)
        | succ d' ih2 =>
          intro q J hq hW
          have hXJ := CX_w hl hm hX hW
          obtain ⟨q1, q2, q3, -⟩ := hQ q (by omega)
          have cl := cat_le (f := f) (q := q) (w := w) (by omega)
          have skip : ¬ atq B m 1 i q → l_X7_writeSidePads_25 (l_X7_writeSidePads_2 K (d + 1)) K (d' + 1) (20 + 12 * m) (nI i) (nI (q + 1)) J P := fun e2 => ih2 (q + 1) J (by omega) (by
            have : f q = [] := by rw [← hf]; exact if_neg e2
            rw [cat, this, List.append_nil]; exact hW)
          rw [l_X7_writeSidePads_25, nI_1]
          refine zin (by rw [hXJ.1.2.2.2.1]; first | omega | decide | (simp (maxSteps := 400000) (disch := omega) only [q_lit, q_neg, nI_ltI, nI_leI, nI_eq, nI_add, pk_mul, pk_sub, nI_clamp, vp_q, zu_same, zu_nc, zu_nj, ng_lt, ng_le, ng_gt, ng_ge, ng_eq, ng_qe, ng_ee, ng_add, not_false_eq_true, not_true_eq_false, ne_eq]; done) | (simp (maxSteps := 400000) (disch := omega) only [q_lit, q_neg, nI_ltI, nI_leI, nI_eq, nI_add, pk_mul, pk_sub, nI_clamp, vp_q, zu_same, zu_nc, zu_nj, ng_lt, ng_le, ng_gt, ng_ge, ng_eq, ng_qe, ng_ee, ng_add, not_false_eq_true, not_true_eq_false, ne_eq]; omega)) (s_so hXJ.1.2.2 (by omega) ?_)
          by_cases h1 : B 0 q = 1
          · refine zip (by rw [h1]; rfl) ⟨shM hm, ?_⟩
            rw [hXJ.1.2.1]
            refine s_at hXJ.1.2.2 (by omega) (by omega) (by omega) (by omega) (by omega) (fun y1 y2 => zin (by decide) ⟨_, pM6 hP hm, ?_⟩) (fun e1 => zip rfl (skip (fun z => e1 z.2)))
            have ef : f q = e3 q 1 0 := by rw [← hf]; exact if_pos ⟨h1, y1, y2⟩
            rw [ef] at cl
            have l3 : (e3 q 1 0).length = 3 := rfl
            refine s_ws (sd := 1) (h := 0) hP hm (by omega) (by decide) rfl hW (by rw [List.length_append, L1]; omega) (fun J2 h2 => ih2 (q + 1) J2 (by omega) ?_)
            rw [cat, ef, ← List.append_assoc]; exact h2
          · exact zin (by first | omega | decide | (simp (maxSteps := 400000) (disch := omega) only [q_lit, q_neg, nI_ltI, nI_leI, nI_eq, nI_add, pk_mul, pk_sub, nI_clamp, vp_q, zu_same, zu_nc, zu_nj, ng_lt, ng_le, ng_gt, ng_ge, ng_eq, ng_qe, ng_ee, ng_add, not_false_eq_true, not_true_eq_false, ne_eq]; done) | (simp (maxSteps := 400000) (disch := omega) only [q_lit, q_neg, nI_ltI, nI_leI, nI_eq, nI_add, pk_mul, pk_sub, nI_clamp, vp_q, zu_same, zu_nc, zu_nj, ng_lt, ng_le, ng_gt, ng_ge, ng_eq, ng_qe, ng_ee, ng_add, not_false_eq_true, not_true_eq_false, ne_eq]; omega)) (skip (fun z => h1 z.1))
      exact ⟨_, lp2 w 0 J (by omega) (by rw [cat, List.append_nil]; exact hW)⟩
  exact ⟨_, lp (A 0 2) 0 J (by omega) (by rw [cat, List.append_nil]; exact hW)⟩
theorem s_wcp {A B F : Nat → Nat → Nat} {m w : Nat} {l : List WB3} {G J : zI} {P : zP} {K : zI → zP → Prop} (hP : PSt P) (hm : m < 6) (hB : W0 A m) (hH : ∀ k, k < A 0 3 → hok A k) (hF : FOK A m B w F) (hX : CX A m B w F G) (hQ : BQ A m B w) (hT : TOT A m B w F ≤ 1000) (hlen : ∀ p, p ≤ A 0 3 → (l ++ cat (cpL A m B w F) p).length = CPp A m B w F p) (hW : LW m l G J) (k : ∀ J', LW m (l ++ cat (cpL A m B w F) (A 0 3)) G J' → K J' P) : w_X7_writeCaughtPads (20 + 12 * m) J P K := by
  have hl := hB.2.2.2.2.1
  have h8 := hB.2.2.2.2.2.1
  have hw := hX.1.2.2.1
  obtain ⟨bG, -⟩ := bnd (B := B) hB hw hF.1
  have lp : ∀ d i J, i + d = A 0 3 → LW m (l ++ cat (cpL A m B w F) i) G J → l_X7_writeCaughtPads_2 K (d + 1) (20 + 12 * m) (nI i) J P := by
    intro d
    induction d with
    | zero =>
      intro i J hi hW
      obtain rfl : i = A 0 3 := by omega
      rw [l_X7_writeCaughtPads_2]
      exact ⟨shM hm, zip (by rw [(CX_w hl hm hX hW).1.1.2.2.2.1]; first | omega | decide | (simp (maxSteps := 400000) (disch := omega) only [q_lit, q_neg, nI_ltI, nI_leI, nI_eq, nI_add, pk_mul, pk_sub, nI_clamp, vp_q, zu_same, zu_nc, zu_nj, ng_lt, ng_le, ng_gt, ng_ge, ng_eq, ng_qe, ng_ee, ng_add, not_false_eq_true, not_true_eq_false, ne_eq]; done) | (simp (maxSteps := 400000) (disch := omega) only [q_lit, q_neg, nI_ltI, nI_leI, nI_eq, nI_add, pk_mul, pk_sub, nI_clamp, vp_q, zu_same, zu_nc, zu_nj, ng_lt, ng_le, ng_gt, ng_ge, ng_eq, ng_qe, ng_ee, ng_add, not_false_eq_true, not_true_eq_false, ne_eq]; omega)) (k J hW)⟩
    | succ d ih =>
      intro i J hi hW
      have hXJ := CX_w hl hm hX hW
      have v : vp_in (nI i) 8 := vp_in_nI (by omega) (by decide)
      obtain ⟨t1, t2⟩ := hk_t hB (hH i (by omega))
      have c1 := cnq_le (B := B) (m := m) (s := 5) (p := A 3 (4 * i + 2)) w
      have bg := (bG _ (Nat.le_of_lt t1)).1
      have L1 := hlen i (by omega)
      have L2 := hlen (i + 1) (by omega)
      rw [cat, ← List.append_assoc, List.length_append, L1] at L2
      have bT : CPp A m B w F (i + 1) ≤ 1000 := by
        have b := CP_le (A := A) (B := B) (F := F) (m := m) (w := w) (p := i + 1) (by omega)
        have c := LP_le (A := A) (B := B) (F := F) (m := m) (w := w)
        omega
      rw [l_X7_writeCaughtPads_2, nI_1]
      refine ⟨shM hm, zin (by rw [hXJ.1.1.2.2.2.1]; first | omega | decide | (simp (maxSteps := 400000) (disch := omega) only [q_lit, q_neg, nI_ltI, nI_leI, nI_eq, nI_add, pk_mul, pk_sub, nI_clamp, vp_q, zu_same, zu_nc, zu_nj, ng_lt, ng_le, ng_gt, ng_ge, ng_eq, ng_qe, ng_ee, ng_add, not_false_eq_true, not_true_eq_false, ne_eq]; done) | (simp (maxSteps := 400000) (disch := omega) only [q_lit, q_neg, nI_ltI, nI_leI, nI_eq, nI_add, pk_mul, pk_sub, nI_clamp, vp_q, zu_same, zu_nc, zu_nj, ng_lt, ng_le, ng_gt, ng_ge, ng_eq, ng_qe, ng_ee, ng_add, not_false_eq_true, not_true_eq_false, ne_eq]; omega)) (s_ca hP hm hB hXJ.1.1 hXJ.2.1 (by omega) (hH i (by omega)) ?_)⟩
      by_cases e : cnq B m 5 (A 3 (4 * i + 2)) w = 0
      · refine zip (by rw [e]; decide) (ih (i + 1) J (by omega) ?_)
        rw [cat, cpL, if_pos e, List.append_nil]; exact hW
      refine zin (by first | omega | decide | (simp (maxSteps := 400000) (disch := omega) only [q_lit, q_neg, nI_ltI, nI_leI, nI_eq, nI_add, pk_mul, pk_sub, nI_clamp, vp_q, zu_same, zu_nc, zu_nj, ng_lt, ng_le, ng_gt, ng_ge, ng_eq, ng_qe, ng_ee, ng_add, not_false_eq_true, not_true_eq_false, ne_eq]; done) | (simp (maxSteps := 400000) (disch := omega) only [q_lit, q_neg, nI_ltI, nI_leI, nI_eq, nI_add, pk_mul, pk_sub, nI_clamp, vp_q, zu_same, zu_nc, zu_nj, ng_lt, ng_le, ng_gt, ng_ge, ng_eq, ng_qe, ng_ee, ng_add, not_false_eq_true, not_true_eq_false, ne_eq]; omega)) ⟨_, pM5 hP hm, s_hpart (w := 2) (shM5 hm) (zzM5 hm) (by decide) (by omega) ?_⟩
      rw [hXJ.1.1.2.2.2.2.2 _ (by omega)]
      have es : cpL A m B w F i = cat (fun q => if atq B m 5 (A 3 (4 * i + 2)) q then e2 55 q 0 else []) w ++ jl 20 (decide (F 2 i = 1)) ((Gp A m B w F (A 3 (4 * i + 2)) : Int) - (CPp A m B w F i + 2 * cnq B m 5 (A 3 (4 * i + 2)) w : Nat)) 0 0 := by unfold cpL; rw [if_neg e]
      have lc := len_c (B := B) (m := m) (s := 5) (p := A 3 (4 * i + 2)) (f := fun q => e2 55 q 0) (k := 2) (fun q => rfl) w
      rw [es, List.length_append, lc, len_jl] at L2
      have ew : cat (fW m B 5 (A 3 (4 * i + 2)) 0) w = cat (fun q => if atq B m 5 (A 3 (4 * i + 2)) q then e2 55 q 0 else []) w := fW_s (by decide)
      rw [← ew] at es lc
      refine s_wp (s := 5) (h := 0) hP hm hl hX hQ (by decide) (by omega) rfl hW (by rw [L1, lc]; omega) (fun J1 h1 => ⟨_, pM6 hP hm, v, ?_⟩)
      have hX1 := CX_w hl hm hX h1
      rw [nI_clamp (by omega), hX1.2.2.1.2 i (by omega)]
      have fin : ∀ (x : Int32) (lg : Bool), x = nI (20 + if lg then 64 else 0) → lg = decide (F 2 i = 1) → j_X7_writeCaughtPads_61 (l_X7_writeCaughtPads_2 K (d + 1)) K (20 + 12 * m) (nI i) (nI (A 3 (4 * i + 2))) x (26 + 12 * m) J1 P := fun x lg hx hlg => by
        unfold j_X7_writeCaughtPads_61
        rw [nI_1]
        refine s_ga (by omega) ?_
        rw [(hX1.2.2.2.1 _ t1 t2).1]
        refine s_wj (h := 0) (o := 0) (lg := lg) hP hm (by decide) hx (by omega) rfl h1 (by rw [List.length_append, L1, lc, hlg]; omega) (fun J' h' => ih (i + 1) J' (by omega) ?_)
        rw [cat, es, ← hlg]
        rw [List.length_append, L1, lc] at h'
        rw [List.append_assoc, List.append_assoc] at h'
        exact h'
      rcases f01 hF.1 2 i with z | z
      · exact zip (by rw [z]; rfl) (fin _ false rfl (decide_eq_false (by omega)).symm)
      · exact zin (by rw [z]; decide) (fin _ true rfl (decide_eq_true z).symm)
  exact ⟨_, lp (A 0 3) 0 J (by omega) (by rw [cat, List.append_nil]; exact hW)⟩
theorem s_wlf {A B F : Nat → Nat → Nat} {m w : Nat} {l : List WB3} {G J : zI} {P : zP} {K : zI → zP → Prop} (hP : PSt P) (hm : m < 6) (hl : A 0 2 ≤ 400) (hX : CX A m B w F G) (hQ : BQ A m B w) (hT : l.length + (lfL m B w).length ≤ 1000) (hW : LW m l G J) (k : ∀ J', LW m (l ++ lfL m B w) G J' → K J' P) : w_X7_writeLeftPad (20 + 12 * m) J P K := by
  have hw := hX.1.2.2.1
  have hXJ := CX_w hl hm hX hW
  have c3 := cnq_le (B := B) (m := m) (s := 3) (p := 0) w
  unfold w_X7_writeLeftPad
  rw [hXJ.2.1.2.2.2]
  by_cases e : cnq B m 3 0 w = 0
  · refine zip (by rw [e]; rfl) (k J ?_)
    unfold lfL; rw [if_pos e, List.append_nil]; exact hW
  refine zin (by first | omega | decide | (simp (maxSteps := 400000) (disch := omega) only [q_lit, q_neg, nI_ltI, nI_leI, nI_eq, nI_add, pk_mul, pk_sub, nI_clamp, vp_q, zu_same, zu_nc, zu_nj, ng_lt, ng_le, ng_gt, ng_ge, ng_eq, ng_qe, ng_ee, ng_add, not_false_eq_true, not_true_eq_false, ne_eq]; done) | (simp (maxSteps := 400000) (disch := omega) only [q_lit, q_neg, nI_ltI, nI_leI, nI_eq, nI_add, pk_mul, pk_sub, nI_clamp, vp_q, zu_same, zu_nc, zu_nj, ng_lt, ng_le, ng_gt, ng_ge, ng_eq, ng_qe, ng_ee, ng_add, not_false_eq_true, not_true_eq_false, ne_eq]; omega)) ?_
  have es : lfL m B w = cat (fun q => if atq B m 3 0 q then e2 52 q 0 else []) w ++ [(58, 0, 0)] := by unfold lfL; rw [if_neg e]
  rw [es] at hT k
  rw [List.length_append] at hT
  generalize hf : (fun q => if atq B m 3 0 q then e2 52 q 0 else []) = f at hT k
  have hT' : l.length + (cat f w).length + 1 ≤ 1000 := by simp only [List.length_cons, List.length_nil] at hT; omega
  have lp : ∀ d q J, q + d = w → LW m (l ++ cat f q) G J → l_X7_writeLeftPad_10 K (d + 1) (20 + 12 * m) (nI q) J P := by
    intro d
    induction d with
    | zero =>
      intro q J hq hW
      obtain rfl : q = w := by omega
      rw [l_X7_writeLeftPad_10]
      refine zip (by rw [(CX_w hl hm hX hW).1.2.2.2.1]; first | omega | decide | (simp (maxSteps := 400000) (disch := omega) only [q_lit, q_neg, nI_ltI, nI_leI, nI_eq, nI_add, pk_mul, pk_sub, nI_clamp, vp_q, zu_same, zu_nc, zu_nj, ng_lt, ng_le, ng_gt, ng_ge, ng_eq, ng_qe, ng_ee, ng_add, not_false_eq_true, not_true_eq_false, ne_eq]; done) | (simp (maxSteps := 400000) (disch := omega) only [q_lit, q_neg, nI_ltI, nI_leI, nI_eq, nI_add, pk_mul, pk_sub, nI_clamp, vp_q, zu_same, zu_nc, zu_nj, ng_lt, ng_le, ng_gt, ng_ge, ng_eq, ng_qe, ng_ee, ng_add, not_false_eq_true, not_true_eq_false, ne_eq]; omega)) ⟨shM hm, _, pM6 hP hm, s_wb (b := 58) (h := 0) (o := 0) hP hm hW (by rw [List.length_append]; omega) (by decide) rfl (fun J' h' => k J' ?_)⟩
      rw [List.append_assoc] at h'; exact h'
    | succ d ih =>
      intro q J hq hW
      have hXJ := CX_w hl hm hX hW
      obtain ⟨q1, q2, q3, -⟩ := hQ q (by omega)
      have cl := cat_le (f := f) (q := q) (w := w) (by omega)
      have skip : ¬ atq B m 3 0 q → l_X7_writeLeftPad_10 K (d + 1) (20 + 12 * m) (nI (q + 1)) J P := fun e2 => ih (q + 1) J (by omega) (by
        have : f q = [] := by rw [← hf]; exact if_neg e2
        rw [cat, this, List.append_nil]; exact hW)
      rw [l_X7_writeLeftPad_10, nI_1]
      refine zin (by rw [hXJ.1.2.2.2.1]; first | omega | decide | (simp (maxSteps := 400000) (disch := omega) only [q_lit, q_neg, nI_ltI, nI_leI, nI_eq, nI_add, pk_mul, pk_sub, nI_clamp, vp_q, zu_same, zu_nc, zu_nj, ng_lt, ng_le, ng_gt, ng_ge, ng_eq, ng_qe, ng_ee, ng_add, not_false_eq_true, not_true_eq_false, ne_eq]; done) | (simp (maxSteps := 400000) (disch := omega) only [q_lit, q_neg, nI_ltI, nI_leI, nI_eq, nI_add, pk_mul, pk_sub, nI_clamp, vp_q, zu_same, zu_nc, zu_nj, ng_lt, ng_le, ng_gt, ng_ge, ng_eq, ng_qe, ng_ee, ng_add, not_false_eq_true, not_true_eq_false, ne_eq]; omega)) (s_so hXJ.1.2.2 (by omega) ?_)
      by_cases h1 : B 0 q = 3
      · refine zip (by rw [h1]; rfl) ⟨shM hm, ?_⟩
        rw [hXJ.1.2.1]
        refine s_at (p := 0) hXJ.1.2.2 (by omega) (by omega) (by omega) (by omega) (by omega) (fun y1 y2 => zin (by decide) ⟨_, pM6 hP hm, ?_⟩) (fun e1 => zip rfl (skip (fun z => e1 z.2)))
        have ef : f q = e2 52 q 0 := by rw [← hf]; exact if_pos ⟨h1, y1, y2⟩
        rw [ef] at cl
        have l3 : (e2 52 q 0).length = 2 := rfl
        refine s_wb (b := 52) (h := 0) (o := 0) hP hm hW (by rw [List.length_append]; omega) (by decide) rfl (fun J1 h1 => ⟨_, pM6 hP hm, s_wb (h := 0) (o := 0) hP hm h1 (by rw [List.length_append, List.length_append]; show _ + 1 < _; omega) (by_n (by omega)) rfl (fun J2 h2 => ih (q + 1) J2 (by omega) ?_)⟩)
        rw [cat, ef]
        rw [List.append_assoc, List.append_assoc] at h2
        exact h2
      · exact zin (by first | omega | decide | (simp (maxSteps := 400000) (disch := omega) only [q_lit, q_neg, nI_ltI, nI_leI, nI_eq, nI_add, pk_mul, pk_sub, nI_clamp, vp_q, zu_same, zu_nc, zu_nj, ng_lt, ng_le, ng_gt, ng_ge, ng_eq, ng_qe, ng_ee, ng_add, not_false_eq_true, not_true_eq_false, ne_eq]; done) | (simp (maxSteps := 400000) (disch := omega) only [q_lit, q_neg, nI_ltI, nI_leI, nI_eq, nI_add, pk_mul, pk_sub, nI_clamp, vp_q, zu_same, zu_nc, zu_nj, ng_lt, ng_le, ng_gt, ng_ge, ng_eq, ng_qe, ng_ee, ng_add, not_false_eq_true, not_true_eq_false, ne_eq]; omega)) (skip (fun z => h1 z.1))
  exact ⟨_, lp w 0 J (by omega) (by rw [cat, List.append_nil]; exact hW)⟩
