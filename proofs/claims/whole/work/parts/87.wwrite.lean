/-! PURE 47: the loom's weaver: writing bytes -/
theorem gd_l {l l' : List WB3} {i : Nat} (h : i < l.length) : (l ++ l').getD i (0, 0, 0) = l.getD i (0, 0, 0) := by
  rw [List.getD_eq_getElem?_getD, List.getD_eq_getElem?_getD, List.getElem?_append_left h]
theorem gd_r {l : List WB3} {x : WB3} : (l ++ [x]).getD l.length (0, 0, 0) = x := by
  rw [List.getD_eq_getElem?_getD, List.getElem?_concat_length]; rfl
/-- these bytes are written; all else as in G -/
def LW (m : Nat) (l : List WB3) (G J : zI) : Prop := J 7 16 = nI l.length ∧ (∀ i, i < l.length → J (27 + 12 * m) i = nI (l.getD i (0, 0, 0)).1 ∧ J (28 + 12 * m) i = oM (l.getD i (0, 0, 0)).2.1) ∧ ∀ c j, c ≠ 27 + 12 * m → c ≠ 28 + 12 * m → ¬ (c = 7 ∧ j = 16) → J c j = G c j
theorem s_wb {m b h o : Nat} {l : List WB3} {x y : Int32} {G J : zI} {P : zP} {K : zI → zP → Prop} (hP : PSt P) (hm : m < 6) (hW : LW m l G J) (hn : l.length < 1000) (hx : x &&& 255 = nI b) (hy : y = oM h) (k : ∀ J', LW m (l ++ [(b, h, o)]) G J' → K J' P) : w_X7_writeByte (26 + 12 * m) x y J P K := by
  unfold w_X7_writeByte
  obtain ⟨w1, w2, w3⟩ := hW
  rw [w1, nI_clamp (by omega)]
  have y1 : ∀ z : Int32, zu J (27 + 12 * m) l.length z 7 16 = nI l.length := fun z => by rw [zu_nc (by omega)]; exact w1
  have y2 : ∀ z z' : Int32, zu (zu J (27 + 12 * m) l.length z) (28 + 12 * m) l.length z' 7 16 = nI l.length := fun z z' => by rw [zu_nc (by omega), zu_nc (by omega)]; exact w1
  refine zin (by first | omega | decide | (simp (maxSteps := 400000) (disch := omega) only [q_lit, q_neg, nI_ltI, nI_leI, nI_eq, nI_add, pk_mul, pk_sub, nI_clamp, vp_q, zu_same, zu_nc, zu_nj, ng_lt, ng_le, ng_gt, ng_ge, ng_eq, ng_qe, ng_ee, ng_add, not_false_eq_true, not_true_eq_false, ne_eq]; done) | (simp (maxSteps := 400000) (disch := omega) only [q_lit, q_neg, nI_ltI, nI_leI, nI_eq, nI_add, pk_mul, pk_sub, nI_clamp, vp_q, zu_same, zu_nc, zu_nj, ng_lt, ng_le, ng_gt, ng_ge, ng_eq, ng_qe, ng_ee, ng_add, not_false_eq_true, not_true_eq_false, ne_eq]; omega)) (zin (by first | omega | decide | (simp (maxSteps := 400000) (disch := omega) only [q_lit, q_neg, nI_ltI, nI_leI, nI_eq, nI_add, pk_mul, pk_sub, nI_clamp, vp_q, zu_same, zu_nc, zu_nj, ng_lt, ng_le, ng_gt, ng_ge, ng_eq, ng_qe, ng_ee, ng_add, not_false_eq_true, not_true_eq_false, ne_eq]; done) | (simp (maxSteps := 400000) (disch := omega) only [q_lit, q_neg, nI_ltI, nI_leI, nI_eq, nI_add, pk_mul, pk_sub, nI_clamp, vp_q, zu_same, zu_nc, zu_nj, ng_lt, ng_le, ng_gt, ng_ge, ng_eq, ng_qe, ng_ee, ng_add, not_false_eq_true, not_true_eq_false, ne_eq]; omega)) ⟨shW hm, _, pW0 hP hm, shW0 hm, by rw [zzW0 hm]; exact vp_in_nI hn (by decide), _, pW1 hP hm, shW1 hm, by rw [zzW1 hm, y1]; exact vp_in_nI hn (by decide), ?_⟩)
  rw [y1, nI_clamp (by omega), y2, nI_1, hx, hy]
  refine k _ ⟨?_, fun i hi => ?_, fun c j a b c => ?_⟩
  · rw [zu_same, List.length_append]; rfl
  · rw [List.length_append] at hi
    rw [zu_nc (a := 27 + 12 * m) (by omega), zu_nc (a := 28 + 12 * m) (by omega), zu_nc (a := 27 + 12 * m) (by omega)]
    by_cases e : i = l.length
    · subst e
      rw [zu_same, zu_same, gd_r]; exact ⟨rfl, rfl⟩
    · have hi2 : i < l.length := by simp only [List.length_cons, List.length_nil] at hi; omega
      rw [zu_nj e, zu_nj e, zu_nc (by omega), gd_l hi2]; exact w2 i hi2
  · rw [zu_ne c, zu_nc b, zu_nc a]; exact w3 _ _ a b c
theorem s_w2 {m b h o b' o' : Nat} {l : List WB3} {x y x' : Int32} {G J : zI} {P : zP} {K : zI → zP → Prop} (hP : PSt P) (hm : m < 6) (hW : LW m l G J) (hn : l.length + 2 ≤ 1000) (hx : x &&& 255 = nI b) (hx' : x' &&& 255 = nI b') (hy : y = oM h) (k : ∀ J', LW m (l ++ [(b, h, o), (b', h, o')]) G J' → K J' P) : w_X7_writeByte (26 + 12 * m) x y J P (fun I1 P1 => w_X7_writeByte (26 + 12 * m) x' y I1 P1 K) :=
  s_wb hP hm hW (by omega) hx hy (fun J1 h1 => s_wb hP hm h1 (by rw [List.length_append]; show _ + 1 < _; omega) hx' hy (fun J2 h2 => k J2 (by rw [List.append_assoc] at h2; exact h2)))
def CX (A : Nat → Nat → Nat) (m : Nat) (B : Nat → Nat → Nat) (w : Nat) (F : Nat → Nat → Nat) (G : zI) : Prop := CL A m B w G ∧ LCn A m B w G ∧ LF F G ∧ LG A m B w F G
theorem CX_c {A B F : Nat → Nat → Nat} {m w : Nat} {G J : zI} (hl : A 0 2 ≤ 400) (hm : m < 6) (h : CX A m B w F G) (f : ∀ c j, ¬ (26 + 12 * m ≤ c ∧ c ≤ 31 + 12 * m) → ¬ (c = 7 ∧ j = 16) → J c j = G c j) : CX A m B w F J :=
  ⟨CL_c h.1 (fun c j q => f c j (by omega) (by omega)), LCn_c hl h.2.1 (fun c j q => f c j (by omega) (by omega)), LF_c h.2.2.1 (fun c j q => f c j (by omega) (by omega)), LG_c h.2.2.2 (fun c j q => f c j (by omega) (by omega))⟩
theorem CX_w {A B F : Nat → Nat → Nat} {m w : Nat} {l : List WB3} {G J : zI} (hl : A 0 2 ≤ 400) (hm : m < 6) (h : CX A m B w F G) (hW : LW m l G J) : CX A m B w F J := CX_c hl hm h (fun c j a b => hW.2.2 c j (by omega) (by omega) b)
theorem s_at {B : Nat → Nat → Nat} {w q m p : Nat} {J : zI} {P : zP} {K : Int32 → zI → zP → Prop} (hQ : LQ B w J) (hq : q < w) (h1 : B 1 q < 2 ^ 31) (h2 : B 2 q < 2 ^ 31) (hm : m < 2 ^ 31) (hp : p < 2 ^ 31) (k1 : B 1 q = m → B 2 q = p → K 1 J P) (k0 : ¬ (B 1 q = m ∧ B 2 q = p) → K 0 J P) : w_X4_isAt (nI q) (nI m) (nI p) J P K := by
  unfold w_X4_isAt
  obtain ⟨hw, r5, r⟩ := hQ
  obtain ⟨-, r10, r11⟩ := r q hq
  have v : vp_in (nI q) 24 := vp_in_nI (by omega) (by decide)
  rw [nI_clamp (by omega), r5, r10, r11]
  refine zin (by first | omega | decide | (simp (maxSteps := 400000) (disch := omega) only [q_lit, q_neg, nI_ltI, nI_leI, nI_eq, nI_add, pk_mul, pk_sub, nI_clamp, vp_q, zu_same, zu_nc, zu_nj, ng_lt, ng_le, ng_gt, ng_ge, ng_eq, ng_qe, ng_ee, ng_add, not_false_eq_true, not_true_eq_false, ne_eq]; done) | (simp (maxSteps := 400000) (disch := omega) only [q_lit, q_neg, nI_ltI, nI_leI, nI_eq, nI_add, pk_mul, pk_sub, nI_clamp, vp_q, zu_same, zu_nc, zu_nj, ng_lt, ng_le, ng_gt, ng_ge, ng_eq, ng_qe, ng_ee, ng_add, not_false_eq_true, not_true_eq_false, ne_eq]; omega)) (zin (by first | omega | decide | (simp (maxSteps := 400000) (disch := omega) only [q_lit, q_neg, nI_ltI, nI_leI, nI_eq, nI_add, pk_mul, pk_sub, nI_clamp, vp_q, zu_same, zu_nc, zu_nj, ng_lt, ng_le, ng_gt, ng_ge, ng_eq, ng_qe, ng_ee, ng_add, not_false_eq_true, not_true_eq_false, ne_eq]; done) | (simp (maxSteps := 400000) (disch := omega) only [q_lit, q_neg, nI_ltI, nI_leI, nI_eq, nI_add, pk_mul, pk_sub, nI_clamp, vp_q, zu_same, zu_nc, zu_nj, ng_lt, ng_le, ng_gt, ng_ge, ng_eq, ng_qe, ng_ee, ng_add, not_false_eq_true, not_true_eq_false, ne_eq]; omega)) (zin (by first | omega | decide | (simp (maxSteps := 400000) (disch := omega) only [q_lit, q_neg, nI_ltI, nI_leI, nI_eq, nI_add, pk_mul, pk_sub, nI_clamp, vp_q, zu_same, zu_nc, zu_nj, ng_lt, ng_le, ng_gt, ng_ge, ng_eq, ng_qe, ng_ee, ng_add, not_false_eq_true, not_true_eq_false, ne_eq]; done) | (simp (maxSteps := 400000) (disch := omega) only [q_lit, q_neg, nI_ltI, nI_leI, nI_eq, nI_add, pk_mul, pk_sub, nI_clamp, vp_q, zu_same, zu_nc, zu_nj, ng_lt, ng_le, ng_gt, ng_ge, ng_eq, ng_qe, ng_ee, ng_add, not_false_eq_true, not_true_eq_false, ne_eq]; omega)) ⟨v, ?_⟩))
  by_cases e : B 1 q = m
  · refine zip (by rw [e]) ⟨v, ?_⟩
    by_cases e2 : B 2 q = p
    · exact zip (by rw [e2]) (k1 e e2)
    · exact zin (fun z => e2 (nI_inj h2 hp z)) (k0 (fun z => e2 z.2))
  · exact zin (fun z => e (nI_inj h1 hm z)) (k0 (fun z => e z.1))
theorem s_so {B : Nat → Nat → Nat} {w q : Nat} {J : zI} {P : zP} {K : Int32 → zI → zP → Prop} (hQ : LQ B w J) (hq : q < w) (k : K (nI (B 0 q)) J P) : w_X4_sortOf (nI q) J P K := by
  unfold w_X4_sortOf
  obtain ⟨hw, r5, r⟩ := hQ
  obtain ⟨r9, -, -⟩ := r q hq
  have v : vp_in (nI q) 24 := vp_in_nI (by omega) (by decide)
  rw [nI_clamp (by omega), r9]
  exact zin (by first | omega | decide | (simp (maxSteps := 400000) (disch := omega) only [q_lit, q_neg, nI_ltI, nI_leI, nI_eq, nI_add, pk_mul, pk_sub, nI_clamp, vp_q, zu_same, zu_nc, zu_nj, ng_lt, ng_le, ng_gt, ng_ge, ng_eq, ng_qe, ng_ee, ng_add, not_false_eq_true, not_true_eq_false, ne_eq]; done) | (simp (maxSteps := 400000) (disch := omega) only [q_lit, q_neg, nI_ltI, nI_leI, nI_eq, nI_add, pk_mul, pk_sub, nI_clamp, vp_q, zu_same, zu_nc, zu_nj, ng_lt, ng_le, ng_gt, ng_ge, ng_eq, ng_qe, ng_ee, ng_add, not_false_eq_true, not_true_eq_false, ne_eq]; omega)) (zin (by first | omega | decide | (simp (maxSteps := 400000) (disch := omega) only [q_lit, q_neg, nI_ltI, nI_leI, nI_eq, nI_add, pk_mul, pk_sub, nI_clamp, vp_q, zu_same, zu_nc, zu_nj, ng_lt, ng_le, ng_gt, ng_ge, ng_eq, ng_qe, ng_ee, ng_add, not_false_eq_true, not_true_eq_false, ne_eq]; done) | (simp (maxSteps := 400000) (disch := omega) only [q_lit, q_neg, nI_ltI, nI_leI, nI_eq, nI_add, pk_mul, pk_sub, nI_clamp, vp_q, zu_same, zu_nc, zu_nj, ng_lt, ng_le, ng_gt, ng_ge, ng_eq, ng_qe, ng_ee, ng_add, not_false_eq_true, not_true_eq_false, ne_eq]; omega)) ⟨v, k⟩)
def aop (s : Nat) : Nat := if s = 0 then 48 else if s = 6 then 56 else if s = 2 then 50 else if s = 3 then 51 else if s = 4 then 53 else 55
theorem s_ao {s : Nat} {J : zI} {P : zP} {K : Int32 → zI → zP → Prop} (hs : s < 8) (k : K (nI (aop s)) J P) : w_X7_aheadOp (nI s) J P K := by
  unfold w_X7_aheadOp
  rcases (by omega : s = 0 ∨ s = 1 ∨ s = 2 ∨ s = 3 ∨ s = 4 ∨ s = 5 ∨ s = 6 ∨ s = 7) with rfl | rfl | rfl | rfl | rfl | rfl | rfl | rfl
  · exact zip (by decide) k
  · exact zin (by decide) (zip (by decide) k)
  · exact zin (by decide) (zin (by decide) (zip (by decide) k))
  · exact zin (by decide) (zin (by decide) (zin (by decide) (zip (by decide) k)))
  · exact zin (by decide) (zin (by decide) (zin (by decide) (zin (by decide) (zip (by decide) k))))
  · exact zin (by decide) (zin (by decide) (zin (by decide) (zin (by decide) (zin (by decide) (zip (by decide) k)))))
  · exact zin (by decide) (zin (by decide) (zin (by decide) (zin (by decide) (zin (by decide) (zin (by decide) (zip (by decide) k))))))
  · exact zin (by decide) (zin (by decide) (zin (by decide) (zin (by decide) (zin (by decide) (zin (by decide) (zin (by decide) k))))))
def fW (m : Nat) (B : Nat → Nat → Nat) (s p h q : Nat) : List WB3 := if (B 0 q = s ∨ (s = 0 ∧ B 0 q = 6)) ∧ B 1 q = m ∧ B 2 q = p then e2 (aop (B 0 q)) q h else []
theorem aop_lt (s : Nat) : aop s < 256 := by unfold aop; (repeat' split) <;> omega
theorem cat_le {α : Type} {f : Nat → List α} {q w : Nat} (h : q < w) : (cat f q).length + (f q).length ≤ (cat f w).length := by
  obtain ⟨d, rfl⟩ : ∃ d, w = q + 1 + d := ⟨w - q - 1, by omega⟩
  clear h
  induction d with
  | zero => rw [Nat.add_zero, cat, List.length_append]; exact Nat.le_refl _
  | succ d ih => rw [← Nat.add_assoc, cat, List.length_append]; omega
theorem s_wp {A B F : Nat → Nat → Nat} {m w s p h : Nat} {l : List WB3} {y : Int32} {G J : zI} {P : zP} {K : zI → zP → Prop} (hP : PSt P) (hm : m < 6) (hl : A 0 2 ≤ 400) (hX : CX A m B w F G) (hQ : BQ A m B w) (hs : s < 8) (hp : p < 400) (hy : y = oM h) (hW : LW m l G J) (hn : l.length + (cat (fW m B s p h) w).length ≤ 1000) (k : ∀ J', LW m (l ++ cat (fW m B s p h) w) G J' → K J' P) : w_X7_writeProbes (20 + 12 * m) (nI s) (nI p) y J P K := by
  have hw := hX.1.2.2.1
  have lp : ∀ d q J, q + d = w → LW m (l ++ cat (fW m B s p h) q) G J → l_X7_writeProbes_3 K (d + 1) (20 + 12 * m) (nI s) (nI p) y (nI q) J P := by
    intro d
    induction d with
    | zero =>
      intro q J hq hW
      obtain rfl : q = w := by omega
      rw [l_X7_writeProbes_3]
      exact zip (by rw [(CX_w hl hm hX hW).1.2.2.2.1]; first | omega | decide | (simp (maxSteps := 400000) (disch := omega) only [q_lit, q_neg, nI_ltI, nI_leI, nI_eq, nI_add, pk_mul, pk_sub, nI_clamp, vp_q, zu_same, zu_nc, zu_nj, ng_lt, ng_le, ng_gt, ng_ge, ng_eq, ng_qe, ng_ee, ng_add, not_false_eq_true, not_true_eq_false, ne_eq]; done) | (simp (maxSteps := 400000) (disch := omega) only [q_lit, q_neg, nI_ltI, nI_leI, nI_eq, nI_add, pk_mul, pk_sub, nI_clamp, vp_q, zu_same, zu_nc, zu_nj, ng_lt, ng_le, ng_gt, ng_ge, ng_eq, ng_qe, ng_ee, ng_add, not_false_eq_true, not_true_eq_false, ne_eq]; omega)) (k J hW)
    | succ d ih =>
      intro q J hq hW
      have hXJ := CX_w hl hm hX hW
      obtain ⟨q1, q2, q3, -⟩ := hQ q (by omega)
      have cl := cat_le (f := fW m B s p h) (q := q) (w := w) (by omega)
      have skip : ¬ ((B 0 q = s ∨ (s = 0 ∧ B 0 q = 6)) ∧ B 1 q = m ∧ B 2 q = p) → l_X7_writeProbes_3 K (d + 1) (20 + 12 * m) (nI s) (nI p) y (nI (q + 1)) J P := fun e =>
        ih (q + 1) J (by omega) (by rw [cat, fW, if_neg e, List.append_nil]; exact hW)
      have go : (B 0 q = s ∨ (s = 0 ∧ B 0 q = 6)) → j_X7_writeProbes_42 (l_X7_writeProbes_3 K (d + 1)) K (20 + 12 * m) (nI s) (nI p) y (nI q) (nI (B 0 q)) 1 J P := fun e => by
        unfold j_X7_writeProbes_42
        rw [nI_1, hXJ.1.2.1]
        refine zin (by decide) ⟨shM hm, s_at hXJ.1.2.2 (by omega) (by omega) (by omega) (by omega) (by omega) (fun y1 y2 => zin (by decide) ⟨_, pM6 hP hm, s_ao q1 ?_⟩) (fun e1 => zip rfl (skip (fun z => e1 z.2)))⟩
        have ef : fW m B s p h q = e2 (aop (B 0 q)) q h := by rw [fW, if_pos ⟨e, y1, y2⟩]
        rw [ef] at cl
        have len2 : (e2 (aop (B 0 q)) q h).length = 2 := rfl
        refine s_wb (o := 0) hP hm hW (by rw [List.length_append]; omega) (by_n (aop_lt _)) hy (fun J1 h1 => ⟨_, pM6 hP hm, s_wb (o := 0) hP hm h1 (by rw [List.length_append, List.length_append]; show _ + 1 < _; omega) (by_n (by omega)) hy (fun J2 h2 => ih (q + 1) J2 (by omega) ?_)⟩)
        rw [cat, ef]
        rw [List.append_assoc, List.append_assoc] at h2
        exact h2
      have no : B 0 q ≠ s → ¬ (s = 0 ∧ B 0 q = 6) → j_X7_writeProbes_41 (l_X7_writeProbes_3 K (d + 1)) K (20 + 12 * m) (nI s) (nI p) y (nI q) (nI (B 0 q)) J P := fun y1 y2 => by
        unfold j_X7_writeProbes_41 j_X7_writeProbes_42
        rw [nI_1]
        exact zip rfl (skip (fun z => z.1.elim y1 y2))
      rw [l_X7_writeProbes_3]
      refine zin (by rw [hXJ.1.2.2.2.1]; first | omega | decide | (simp (maxSteps := 400000) (disch := omega) only [q_lit, q_neg, nI_ltI, nI_leI, nI_eq, nI_add, pk_mul, pk_sub, nI_clamp, vp_q, zu_same, zu_nc, zu_nj, ng_lt, ng_le, ng_gt, ng_ge, ng_eq, ng_qe, ng_ee, ng_add, not_false_eq_true, not_true_eq_false, ne_eq]; done) | (simp (maxSteps := 400000) (disch := omega) only [q_lit, q_neg, nI_ltI, nI_leI, nI_eq, nI_add, pk_mul, pk_sub, nI_clamp, vp_q, zu_same, zu_nc, zu_nj, ng_lt, ng_le, ng_gt, ng_ge, ng_eq, ng_qe, ng_ee, ng_add, not_false_eq_true, not_true_eq_false, ne_eq]; omega)) (s_so hXJ.1.2.2 (by omega) ?_)
      by_cases e : B 0 q = s
      · exact zip (by rw [e]) (go (Or.inl e))
      · refine zin (fun z => e (nI_inj (by omega) (by omega) z)) ?_
        by_cases e2 : s = 0
        · refine zip (by rw [e2]; rfl) ?_
          by_cases e3 : B 0 q = 6
          · exact zip (by rw [e3]; rfl) (go (Or.inr ⟨e2, e3⟩))
          · exact zin (by first | omega | decide | (simp (maxSteps := 400000) (disch := omega) only [q_lit, q_neg, nI_ltI, nI_leI, nI_eq, nI_add, pk_mul, pk_sub, nI_clamp, vp_q, zu_same, zu_nc, zu_nj, ng_lt, ng_le, ng_gt, ng_ge, ng_eq, ng_qe, ng_ee, ng_add, not_false_eq_true, not_true_eq_false, ne_eq]; done) | (simp (maxSteps := 400000) (disch := omega) only [q_lit, q_neg, nI_ltI, nI_leI, nI_eq, nI_add, pk_mul, pk_sub, nI_clamp, vp_q, zu_same, zu_nc, zu_nj, ng_lt, ng_le, ng_gt, ng_ge, ng_eq, ng_qe, ng_ee, ng_add, not_false_eq_true, not_true_eq_false, ne_eq]; omega)) (no e (fun z => e3 z.2))
        · exact zin (by first | omega | decide | (simp (maxSteps := 400000) (disch := omega) only [q_lit, q_neg, nI_ltI, nI_leI, nI_eq, nI_add, pk_mul, pk_sub, nI_clamp, vp_q, zu_same, zu_nc, zu_nj, ng_lt, ng_le, ng_gt, ng_ge, ng_eq, ng_qe, ng_ee, ng_add, not_false_eq_true, not_true_eq_false, ne_eq]; done) | (simp (maxSteps := 400000) (disch := omega) only [q_lit, q_neg, nI_ltI, nI_leI, nI_eq, nI_add, pk_mul, pk_sub, nI_clamp, vp_q, zu_same, zu_nc, zu_nj, ng_lt, ng_le, ng_gt, ng_ge, ng_eq, ng_qe, ng_ee, ng_add, not_false_eq_true, not_true_eq_false, ne_eq]; omega)) (no e (fun z => e2 z.1))
  exact ⟨_, lp w 0 J (by omega) (by rw [cat, List.append_nil]; exact hW)⟩
theorem fW_P {B : Nat → Nat → Nat} {m p w : Nat} : cat (fW m B 0 p (p + 1)) w = cat (fP m B p) w := cat_c (fun q _ => by
  unfold fW fP
  by_cases h : B 1 q = m ∧ B 2 q = p
  · by_cases e : B 0 q = 0
    · rw [if_pos ⟨Or.inl e, h⟩, if_pos ⟨e, h⟩, e]; rfl
    · by_cases e6 : B 0 q = 6
      · rw [if_pos ⟨Or.inr ⟨rfl, e6⟩, h⟩, if_neg (fun z => e z.1), if_pos ⟨e6, h⟩, e6]; rfl
      · rw [if_neg (fun z => z.1.elim e (fun y => e6 y.2)), if_neg (fun z => e z.1), if_neg (fun z => e6 z.1)]
  · rw [if_neg (fun z => h z.2), if_neg (fun z => h z.2), if_neg (fun z => h z.2)])
theorem fW_s {B : Nat → Nat → Nat} {m s p h w : Nat} (hs : s ≠ 0) : cat (fW m B s p h) w = cat (fun q => if atq B m s p q then e2 (aop s) q h else []) w := cat_c (fun q _ => by
  unfold fW
  by_cases e : atq B m s p q
  · rw [if_pos e, if_pos ⟨Or.inl e.1, e.2⟩, e.1]
  · rw [if_neg e, if_neg (fun z => e ⟨z.1.elim id (fun y => absurd y.1 hs), z.2⟩)])
theorem fW_E {B : Nat → Nat → Nat} {m w : Nat} : cat (fW m B 2 0 0) w = cat (fE m B) w := fW_s (by decide)
theorem fW_O {B : Nat → Nat → Nat} {m p w : Nat} : cat (fW m B 4 p (p + 1)) w = cat (fO m B p) w := fW_s (by decide)
theorem fW_L {A B : Nat → Nat → Nat} {m p w : Nat} (h : A 1 p = 42) : cat (fW m B 3 0 (p + 1)) w = cat (fL A m B p) w := by
  rw [fW_s (by decide)]
  exact cat_c (fun q _ => by
    unfold fL
    by_cases e : atq B m 3 0 q
    · rw [if_pos e, if_pos ⟨h, e⟩]; rfl
    · rw [if_neg e, if_neg (fun z => e z.2)])
theorem fL_no {A B : Nat → Nat → Nat} {m p : Nat} (h : A 1 p ≠ 42) : ∀ w, cat (fL A m B p) w = []
  | 0 => rfl
  | w + 1 => by rw [cat, fL_no h w, fL, if_neg (fun z => h z.1)]; rfl
theorem s_wah {A B F : Nat → Nat → Nat} {m w p : Nat} {l : List WB3} {G J : zI} {P : zP} {K : zI → zP → Prop} (hP : PSt P) (hm : m < 6) (hl : A 0 2 ≤ 400) (hX : CX A m B w F G) (hQ : BQ A m B w) (h256 : A 1 p < 256) (hp : p < A 0 2) (hz : 0 < A 2 p) (hW : LW m l G J) (hn : l.length + ahn A m B w p ≤ 1000) (k : ∀ J', LW m (l ++ (cat (fP m B p) w ++ cat (fL A m B p) w ++ cat (fO m B p) w)) G J' → K J' P) : w_X7_writeAhead (20 + 12 * m) (nI p) J P K := by
  unfold w_X7_writeAhead
  have hXJ := CX_w hl hm hX hW
  have hw := hX.1.2.2.1
  have v : vp_in (nI p) 400 := vp_in_nI (by omega) (by decide)
  have al := ahn_le (A := A) (B := B) (m := m) (p := p) hw
  have lP := len_P (B := B) (m := m) (p := p) w
  have lL := len_L (A := A) (B := B) (m := m) (p := p) w
  have lO := len_O (B := B) (m := m) (p := p) w
  have sum : (cat (fP m B p) w).length + (cat (fL A m B p) w).length + (cat (fO m B p) w).length = ahn A m B w p := by rw [lP, lL, lO]; rfl
  rw [nI_clamp (by omega), (hXJ.2.1.1 p hp hz).1]
  have o1 : nI p = oM (p + 1) := rfl
  refine ⟨v, ?_⟩
  by_cases e : ahn A m B w p = 0
  · refine zip (by rw [e]; rfl) (k J ?_)
    rw [List.eq_nil_of_length_eq_zero (l := cat (fP m B p) w) (by omega), List.eq_nil_of_length_eq_zero (l := cat (fL A m B p) w) (by omega), List.eq_nil_of_length_eq_zero (l := cat (fO m B p) w) (by omega), List.append_nil, List.append_nil, List.append_nil]
    exact hW
  · have fin : ∀ l' J', l'.length + (cat (fO m B p) w).length ≤ 1000 → LW m l' G J' → (∀ J2, LW m (l' ++ cat (fO m B p) w) G J2 → K J2 P) → j_X7_writeAhead_39 K (20 + 12 * m) (nI p) J' P := fun l' J' hn' hW' k' => by
      unfold j_X7_writeAhead_39
      exact s_wp (s := 4) (h := p + 1) hP hm hl hX hQ (by decide) (by omega) o1 hW' (by rw [fW_O]; exact hn') (fun J2 h2 => k' J2 (by rw [fW_O] at h2; exact h2))
    refine zin (by first | omega | decide | (simp (maxSteps := 400000) (disch := omega) only [q_lit, q_neg, nI_ltI, nI_leI, nI_eq, nI_add, pk_mul, pk_sub, nI_clamp, vp_q, zu_same, zu_nc, zu_nj, ng_lt, ng_le, ng_gt, ng_ge, ng_eq, ng_qe, ng_ee, ng_add, not_false_eq_true, not_true_eq_false, ne_eq]; done) | (simp (maxSteps := 400000) (disch := omega) only [q_lit, q_neg, nI_ltI, nI_leI, nI_eq, nI_add, pk_mul, pk_sub, nI_clamp, vp_q, zu_same, zu_nc, zu_nj, ng_lt, ng_le, ng_gt, ng_ge, ng_eq, ng_qe, ng_ee, ng_add, not_false_eq_true, not_true_eq_false, ne_eq]; omega)) (s_wp (s := 0) (h := p + 1) hP hm hl hX hQ (by decide) (by omega) o1 hW (by rw [fW_P]; omega) (fun J1 h1 => ?_))
    rw [fW_P] at h1
    have hX1 := CX_w hl hm hX h1
    refine ⟨shM hm, _, pM1 hP hm, shM1 hm, by rw [zzM1 hm]; exact v, ?_⟩
    rw [(hX1.1.1.2.2.2.2.1 p hp).1]
    by_cases e4 : A 1 p = 42
    · refine zip (by rw [e4]; rfl) (s_wp (s := 3) (p := 0) (h := p + 1) hP hm hl hX hQ (by decide) (by omega) o1 h1 (by rw [fW_L e4, List.length_append]; omega) (fun J2 h2 => fin _ J2 (by rw [fW_L e4, List.length_append, List.length_append]; omega) h2 (fun J3 h3 => k J3 ?_)))
      rw [fW_L e4] at h3
      rw [← List.append_assoc, ← List.append_assoc]; exact h3
    · refine zin (by first | omega | decide | (simp (maxSteps := 400000) (disch := omega) only [q_lit, q_neg, nI_ltI, nI_leI, nI_eq, nI_add, pk_mul, pk_sub, nI_clamp, vp_q, zu_same, zu_nc, zu_nj, ng_lt, ng_le, ng_gt, ng_ge, ng_eq, ng_qe, ng_ee, ng_add, not_false_eq_true, not_true_eq_false, ne_eq]; done) | (simp (maxSteps := 400000) (disch := omega) only [q_lit, q_neg, nI_ltI, nI_leI, nI_eq, nI_add, pk_mul, pk_sub, nI_clamp, vp_q, zu_same, zu_nc, zu_nj, ng_lt, ng_le, ng_gt, ng_ge, ng_eq, ng_qe, ng_ee, ng_add, not_false_eq_true, not_true_eq_false, ne_eq]; omega)) (fin _ J1 (by rw [List.length_append]; omega) h1 (fun J3 h3 => k J3 ?_))
      rw [fL_no e4, List.append_nil, ← List.append_assoc]; exact h3
theorem s_wj {m op t h o : Nat} {lg : Bool} {l : List WB3} {x y : Int32} {G J : zI} {P : zP} {K : zI → zP → Prop} (hP : PSt P) (hm : m < 6) (hop : 20 ≤ op ∧ op ≤ 32) (hx : x = nI (op + if lg then 64 else 0)) (ht : t < 2 ^ 30) (hy : y = oM h) (hW : LW m l G J) (hn : l.length + (if lg then 3 else 2) ≤ 1000) (k : ∀ J', LW m (l ++ jl op lg ((t : Int) - l.length) h o) G J' → K J' P) : w_X7_writeJump (26 + 12 * m) x (nI t) y J P K := by
  unfold w_X7_writeJump
  have e := pk_sub_toInt (a := t) (b := l.length) ht (by split at hn <;> omega)
  rw [hW.1, hx]
  unfold jl at k
  cases lg with
  | true =>
    simp only [if_true] at k hn
    rw [if_pos rfl]
    refine s_wb (b := op + 64) (o := o) hP hm hW (by omega) (by_n (by omega)) hy (fun J1 h1 => s_lgT (by unfold isLg; omega) (zin (by decide) ?_))
    unfold w_X7_writePair
    refine s_w2 (o := 0) (o' := 0) hP hm h1 (by rw [List.length_append]; show _ + 1 + 2 ≤ _; omega) (by_hi e) (by_lo e) hy (fun J2 h2 => k J2 ?_)
    rw [List.append_assoc] at h2; exact h2
  | false =>
    simp only [Bool.false_eq_true, if_false] at k hn
    rw [if_neg (by decide)]
    refine s_wb (b := op) (o := o) hP hm hW (by omega) (by_n (by omega)) hy (fun J1 h1 => s_lgF (by omega) (by unfold isLg; omega) (zip rfl ?_))
    refine s_wb (o := 0) hP hm h1 (by rw [List.length_append]; show _ + 1 < _; omega) (by_lo e) hy (fun J2 h2 => k J2 ?_)
    rw [List.append_assoc] at h2; exact h2
