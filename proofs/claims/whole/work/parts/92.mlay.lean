/-! PURE 52: the reference's weaver: PADS, all laid -/
theorem nsp_lt {B : Nat → Nat → Nat} {m w p : Nat} (h : 0 < cnq B m 1 p w) : ∀ d, nsp m B w p < nsp m B w (p + 1 + d)
  | 0 => by rw [Nat.add_zero, nsp_s, if_neg (by omega)]; omega
  | d + 1 => by have := nsp_lt h d; rw [show p + 1 + (d + 1) = (p + 1 + d) + 1 by omega, nsp_s]; omega
theorem nsp_ll {B : Nat → Nat → Nat} {m w p q : Nat} (h : 0 < cnq B m 1 p w) (hq : p < q) : nsp m B w p < nsp m B w q := by
  have := nsp_lt h (q - p - 1)
  rw [show p + 1 + (q - p - 1) = q by omega] at this; exact this
theorem ncp_lt {A B : Nat → Nat → Nat} {m w p : Nat} (h : 0 < cnq B m 5 (A 3 (4 * p + 2)) w) : ∀ d, ncp A m B w p < ncp A m B w (p + 1 + d)
  | 0 => by rw [Nat.add_zero, ncp_s, if_neg (by omega)]; omega
  | d + 1 => by have := ncp_lt h d; rw [show p + 1 + (d + 1) = (p + 1 + d) + 1 by omega, ncp_s]; omega
theorem ncp_ll {A B : Nat → Nat → Nat} {m w p q : Nat} (h : 0 < cnq B m 5 (A 3 (4 * p + 2)) w) (hq : p < q) : ncp A m B w p < ncp A m B w q := by
  have := ncp_lt h (q - p - 1)
  rw [show p + 1 + (q - p - 1) = q by omega] at this; exact this
theorem nsp_ne {B : Nat → Nat → Nat} {m w p q : Nat} (h : 0 < cnq B m 1 p w) (h' : 0 < cnq B m 1 q w) (hq : p ≠ q) : nsp m B w p ≠ nsp m B w q := by
  rcases Nat.lt_or_gt_of_ne hq with z | z
  · have := nsp_ll h z; omega
  · have := nsp_ll h' z; omega
theorem ncp_ne {A B : Nat → Nat → Nat} {m w p q : Nat} (h : 0 < cnq B m 5 (A 3 (4 * p + 2)) w) (h' : 0 < cnq B m 5 (A 3 (4 * q + 2)) w) (hq : p ≠ q) : ncp A m B w p ≠ ncp A m B w q := by
  rcases Nat.lt_or_gt_of_ne hq with z | z
  · have := ncp_ll h z; omega
  · have := ncp_ll h' z; omega
/-- what is laid so far: groups below i, side pads below a, caught pads below b -/
def RSw (ok : Prop) (A : Nat → Nat → Nat) (m : Nat) (B : Nat → Nat → Nat) (w : Nat) (F : Nat → Nat → Nat) (i a b : Nat) (G : zI) : Prop :=
  (∀ p, p ≤ A 0 2 → (p = A 0 2 ∨ 0 < A 2 p) → (ok ∨ p < i) → G 191 p = nI (Gp A m B w F p)) ∧
  (∀ p, p < A 0 2 → 0 < A 2 p → (ok ∨ p < i) → G 192 p = nI (Sp A m B w F p)) ∧
  (∀ p, p < A 0 2 → 0 < cnq B m 1 p w → (ok ∨ p < a) → G 193 (nsp m B w p) = nI (SPp A m B w F p)) ∧
  (∀ k, k < A 0 3 → 0 < cnq B m 5 (A 3 (4 * k + 2)) w → (ok ∨ k < b) → G 193 (nsp m B w (A 0 2) + ncp A m B w k) = nI (CPp A m B w F k)) ∧
  (ok → ∀ p, p < A 0 2 → p < i → 0 < A 2 p → isSt (A 1 p) ∨ isLg (A 1 p) → G 195 p = nI (dst A m B w F p 0) - nI (Sp A m B w F p)) ∧
  (ok → ∀ p, p < a → 0 < cnq B m 1 p w → G 195 (400 + nsp m B w p) = nI (Gp A m B w F (tgn A p 0)) - nI (SPp A m B w F p + 3 * cnq B m 1 p w)) ∧
  (ok → ∀ k, k < b → 0 < cnq B m 5 (A 3 (4 * k + 2)) w → G 195 (400 + (nsp m B w (A 0 2) + ncp A m B w k)) = nI (Gp A m B w F (A 3 (4 * k + 2))) - nI (CPp A m B w F k + 2 * cnq B m 5 (A 3 (4 * k + 2)) w))
/-- one PAD -/
theorem s_pad {ok : Prop} {A B F : Nat → Nat → Nat} {m w s p t n ps : Nat} {lg : Bool} {l : List WB3} {f : Nat → List WB3} {G J : zI} {P : zP} {K : zI → zP → Prop} (hm : m < 6) (hY : CY A m B w F G) (hQ : BQ A m B w) (hs : s = 1 ∨ s = 5) (hp : p < 400) (ht : t ≤ 400) (hn : n < 450) (h47 : G 155 47 = nI n) (hlg : G 194 (400 + n) = if lg then 1 else 0) (hg : ok → G 191 t = nI ps) (hps : ps < 2 ^ 30) (hl : l.length ≤ 300000) (hf : f = fun q => if atq B m s p q then (if s = 1 then e3 q 1 0 else e2 55 q 0) else []) (hW : RLw ok l G J) (k : ∀ G' J', RLw ok (l ++ cat f w ++ jl 20 lg ((ps : Int) - (l ++ cat f w).length) 0 0) G' J' → (∀ c j, ¬ (c = 193 ∧ j = n) → ¬ (c = 195 ∧ j = 400 + n) → ¬ (c = 155 ∧ j = 47) → G' c j = G c j) → G' 193 n = nI l.length → G' 155 47 = nI (n + 1) → (ok → G' 195 (400 + n) = nI ps - nI (l ++ cat f w).length) → K J' P) : w_X10_pad (nI m) (nI s) (nI p) (nI t) J P K := by
  have hw := hY.2.1.1
  have q01 : ∀ q, q < w → B 0 q < 2 ^ 31 ∧ B 1 q < 2 ^ 31 ∧ B 2 q < 2 ^ 31 := fun q hq => by obtain ⟨a, b, c, -⟩ := hQ q hq; omega
  unfold w_X10_pad
  rw [hW.2.2 155 47 (by omega) (by omega) (by omega), h47, nI_clamp (by omega), hW.1]
  have hW1 : RLw ok l (zu G 193 n (nI l.length)) (zu J 193 n (nI l.length)) := RLw_u hW (by omega) (by omega) (by omega)
  have hY1 : CY A m B w F (zu G 193 n (nI l.length)) := CY_c hY (fun c j a => zu_nc (by omega))
  have g1 : ∀ c j, ¬ (c = 193 ∧ j = n) → zu G 193 n (nI l.length) c j = G c j := fun c j a => zu_ne a
  have g2 : zu G 193 n (nI l.length) 193 n = nI l.length := zu_same
  generalize zu G 193 n (nI l.length) = G1 at hW1 hY1 g1 g2
  generalize zu J 193 n (nI l.length) = J1 at hW1 ⊢
  have f3 : ∀ q, (f q).length ≤ 3 := fun q => by rw [hf]; dsimp only; (repeat' split) <;> simp [e2, e3]
  refine ⟨vp_in_nI (by omega) (by decide), ?_⟩
  have lp : ∀ d q J, q + d = w → RLw ok (l ++ cat f q) G1 J → l_X10_pad_16 K (d + 1) (nI m) (nI s) (nI p) (nI t) (nI q) J P := by
    intro d
    induction d with
    | zero =>
      intro q J hq h1
      obtain rfl : q = w := by omega
      have c3 := cat_3 f3 q
      have hYJ := CY_w hY1 h1
      have y47 : J 155 47 = nI n := by rw [h1.2.2 _ _ (by omega) (by omega) (by omega), g1 _ _ (by omega)]; exact h47
      have hW2 : RLw ok (l ++ cat f q) (zu G1 155 47 (nI (n + 1))) (zu J 155 47 (nI (n + 1))) := RLw_u h1 (by omega) (by omega) (by omega)
      rw [l_X10_pad_16, y47, nI_1, show (400 : Int32) = nI 400 from rfl, nI_add, ← nq1, pk_sub (by omega), nI_clamp (by omega), zu_nc (a := 191) (by omega), show 400 + (n + 1) - 1 = 400 + n by omega]
      refine zip (by rw [hYJ.2.1.2.1]; first | omega | decide | (simp (maxSteps := 400000) (disch := omega) only [q_lit, q_neg, nI_ltI, nI_leI, nI_eq, nI_add, pk_mul, pk_sub, nI_clamp, vp_q, zu_same, zu_nc, zu_nj, ng_lt, ng_le, ng_gt, ng_ge, ng_eq, ng_qe, ng_ee, ng_add, not_false_eq_true, not_true_eq_false, ne_eq]; done) | (simp (maxSteps := 400000) (disch := omega) only [q_lit, q_neg, nI_ltI, nI_leI, nI_eq, nI_add, pk_mul, pk_sub, nI_clamp, vp_q, zu_same, zu_nc, zu_nj, ng_lt, ng_le, ng_gt, ng_ge, ng_eq, ng_qe, ng_ee, ng_add, not_false_eq_true, not_true_eq_false, ne_eq]; omega)) ⟨vp_in_nI (by omega) (by decide), s_jp (op := 20) (h := 0) (t := ps) (lg := lg) (by decide) (Or.inl rfl) (by omega) (by rw [zu_nc (by omega), g1 _ _ (by omega)]; exact hlg) (fun o => ⟨by rw [h1.2.2 _ _ (by omega) (by omega) (by omega), g1 _ _ (by omega)]; exact hg o, hps⟩) hW2 (by rw [List.length_append]; omega) (fun J2 h2 => k _ J2 h2 (fun c j a b c' => ?_) ?_ ?_ (fun o => ?_))⟩
      · rw [zu_ne b, zu_ne c']; exact g1 c j a
      · rw [zu_nc (by omega), zu_nc (by omega)]; exact g2
      · rw [zu_nc (by omega), zu_same]
      · rw [zu_same, h1.2.2 _ _ (by omega) (by omega) (by omega), g1 _ _ (by omega), hg o]
    | succ d ih =>
      intro q J hq h1
      obtain ⟨z0, z1, z2⟩ := q01 q (by omega)
      have hc := cat_3 f3 q
      have hYJ := CY_w hY1 h1
      rw [l_X10_pad_16, hYJ.2.1.2.1, nI_1]
      refine zin (by first | omega | decide | (simp (maxSteps := 400000) (disch := omega) only [q_lit, q_neg, nI_ltI, nI_leI, nI_eq, nI_add, pk_mul, pk_sub, nI_clamp, vp_q, zu_same, zu_nc, zu_nj, ng_lt, ng_le, ng_gt, ng_ge, ng_eq, ng_qe, ng_ee, ng_add, not_false_eq_true, not_true_eq_false, ne_eq]; done) | (simp (maxSteps := 400000) (disch := omega) only [q_lit, q_neg, nI_ltI, nI_leI, nI_eq, nI_add, pk_mul, pk_sub, nI_clamp, vp_q, zu_same, zu_nc, zu_nj, ng_lt, ng_le, ng_gt, ng_ge, ng_eq, ng_qe, ng_ee, ng_add, not_false_eq_true, not_true_eq_false, ne_eq]; omega)) (s_sd hYJ.2.1 (by omega) z0 z1 z2 (by omega) (by omega) (by omega) (fun z => zin (by decide) ?_) (fun z => zip rfl (ih (q + 1) J (by omega) ?_)))
      · rcases hs with rfl | rfl
        · refine zip rfl ?_
          unfold j_X10_pad_54
          rw [nI_1]
          refine s_po (op := 49) (h := 0) h1 (by decide) (by omega) (by rw [List.length_append]; omega) (fun J2 h2 => zip rfl (s_mput (b := 1) (h := 0) h2 (by rw [List.length_append, List.length_append]; show _ + 2 < _; omega) (fun _ => by decide) (fun J3 h3 => ih (q + 1) J3 (by omega) ?_)))
          have ef : f q = e3 q 1 0 := by rw [hf]; dsimp only; rw [if_pos z, if_pos rfl]
          rw [cat, ef]
          rw [List.append_assoc, List.append_assoc] at h3
          exact h3
        · refine zin (by decide) ?_
          unfold j_X10_pad_54
          rw [nI_1]
          refine s_po (op := 55) (h := 0) h1 (by decide) (by omega) (by rw [List.length_append]; omega) (fun J2 h2 => zin (by decide) (ih (q + 1) J2 (by omega) ?_))
          have ef : f q = e2 55 q 0 := by rw [hf]; dsimp only; rw [if_pos z, if_neg (by decide)]
          rw [cat, ef, ← List.append_assoc]; exact h2
      · have ef : f q = [] := by rw [hf]; exact if_neg z
        rw [cat, ef, List.append_nil]; exact h1
  exact ⟨_, lp w 0 J1 (by omega) (by rw [cat, List.append_nil]; exact hW1)⟩
theorem s_mlay {ok : Prop} {A B F : Nat → Nat → Nat} {m w : Nat} {I : zI} {P : zP} {K : zI → zP → Prop} (hm : m < 6) (hB : W0 A m) (hJ : ∀ p, p < A 0 2 → jok A p) (hH : ∀ k, k < A 0 3 → hok A k) (hF : FOK A m B w F) (hY : CY A m B w F I) (hQ : BQ A m B w) (hR : RSw ok A m B w F 0 0 0 I) (k : ∀ G J, RLw ok (codL A m B w F) G J → (∀ c j, ¬ (c = 191 ∨ c = 192 ∨ c = 193 ∨ c = 195) → ¬ (c = 155 ∧ (j = 47 ∨ j = 48)) → G c j = I c j) → RSw ok A m B w F (A 0 2 + 1) (A 0 2) (A 0 3) G → G 155 47 = nI (nsp m B w (A 0 2) + ncp A m B w (A 0 3)) → G 155 48 = nI (LPp A m B w F) → K J P) : w_X10_layAll (nI m) I P K := by
  have hl := hB.2.2.2.2.1
  have h8 := hB.2.2.2.2.2.1
  have hw := hY.2.1.1
  obtain ⟨bG, bC⟩ := bnd (B := B) hB hw hF.1
  have q01 : ∀ q, q < w → B 0 q < 2 ^ 31 ∧ B 1 q < 2 ^ 31 ∧ B 2 q < 2 ^ 31 := fun q hq => by obtain ⟨a, b, c, -⟩ := hQ q hq; omega
  have nl := nsp_le (B := B) (m := m) (w := w) (A 0 2)
  -- left
  have l5 : ∀ G J, RLw ok (pfC A m B w F (A 0 3)) G J → CY A m B w F G → G 155 48 = nI (LPp A m B w F) → (∀ J', RLw ok (codL A m B w F) G J' → K J' P) → ∃ n9, l_X10_layAll_243 K n9 (nI m) 0 J P := by
    intro G J hW hY h48 kk
    have L := len_pC hB hF (A 0 3) (Nat.le_refl _)
    have bL := bC (A 0 3) (Nat.le_refl _)
    have f3 : ∀ q, ((fun q => if atq B m 3 0 q then e2 52 q 0 else []) q).length ≤ 3 := fun q => by dsimp only; split <;> simp [e2]
    have lp : ∀ d q J, q + d = w → RLw ok (pfC A m B w F (A 0 3) ++ cat (fun q => if atq B m 3 0 q then e2 52 q 0 else []) q) G J → l_X10_layAll_243 K (d + 1) (nI m) (nI q) J P := by
      intro d
      induction d with
      | zero =>
        intro q J hq h1
        obtain rfl : q = w := by omega
        have hYJ := CY_w hY h1
        have lc := len_c (B := B) (m := m) (s := 3) (p := 0) (f := fun q => e2 52 q 0) (k := 2) (fun q => rfl) q
        have c3 := cnq_le (B := B) (m := m) (s := 3) (p := 0) q
        rw [l_X10_layAll_243, h1.1, h1.2.2 155 48 (by omega) (by omega) (by omega), h48, List.length_append, L, lc]
        refine zip (by rw [hYJ.2.1.2.1]; first | omega | decide | (simp (maxSteps := 400000) (disch := omega) only [q_lit, q_neg, nI_ltI, nI_leI, nI_eq, nI_add, pk_mul, pk_sub, nI_clamp, vp_q, zu_same, zu_nc, zu_nj, ng_lt, ng_le, ng_gt, ng_ge, ng_eq, ng_qe, ng_ee, ng_add, not_false_eq_true, not_true_eq_false, ne_eq]; done) | (simp (maxSteps := 400000) (disch := omega) only [q_lit, q_neg, nI_ltI, nI_leI, nI_eq, nI_add, pk_mul, pk_sub, nI_clamp, vp_q, zu_same, zu_nc, zu_nj, ng_lt, ng_le, ng_gt, ng_ge, ng_eq, ng_qe, ng_ee, ng_add, not_false_eq_true, not_true_eq_false, ne_eq]; omega)) ?_
        have el : LPp A m B q F = CPp A m B q F (A 0 3) := rfl
        by_cases e : cnq B m 3 0 q = 0
        · refine zip (by rw [e, el]; first | omega | decide | (simp (maxSteps := 400000) (disch := omega) only [q_lit, q_neg, nI_ltI, nI_leI, nI_eq, nI_add, pk_mul, pk_sub, nI_clamp, vp_q, zu_same, zu_nc, zu_nj, ng_lt, ng_le, ng_gt, ng_ge, ng_eq, ng_qe, ng_ee, ng_add, not_false_eq_true, not_true_eq_false, ne_eq]; done) | (simp (maxSteps := 400000) (disch := omega) only [q_lit, q_neg, nI_ltI, nI_leI, nI_eq, nI_add, pk_mul, pk_sub, nI_clamp, vp_q, zu_same, zu_nc, zu_nj, ng_lt, ng_le, ng_gt, ng_ge, ng_eq, ng_qe, ng_ee, ng_add, not_false_eq_true, not_true_eq_false, ne_eq]; omega)) (kk J ?_)
          have : cat (fun q => if atq B m 3 0 q then e2 52 q 0 else []) q = [] := List.eq_nil_of_length_eq_zero (by rw [lc, e])
          rw [this] at h1
          rw [codL_e, lfL, if_pos e]; exact h1
        · refine zin (by rw [el]; first | omega | decide | (simp (maxSteps := 400000) (disch := omega) only [q_lit, q_neg, nI_ltI, nI_leI, nI_eq, nI_add, pk_mul, pk_sub, nI_clamp, vp_q, zu_same, zu_nc, zu_nj, ng_lt, ng_le, ng_gt, ng_ge, ng_eq, ng_qe, ng_ee, ng_add, not_false_eq_true, not_true_eq_false, ne_eq]; done) | (simp (maxSteps := 400000) (disch := omega) only [q_lit, q_neg, nI_ltI, nI_leI, nI_eq, nI_add, pk_mul, pk_sub, nI_clamp, vp_q, zu_same, zu_nc, zu_nj, ng_lt, ng_le, ng_gt, ng_ge, ng_eq, ng_qe, ng_ee, ng_add, not_false_eq_true, not_true_eq_false, ne_eq]; omega)) (s_mput (b := 58) (h := 0) h1 (by rw [List.length_append, L, lc]; omega) (fun _ => by decide) (fun J2 h2 => kk J2 ?_))
          rw [codL_e, lfL, if_neg e, ← List.append_assoc]; exact h2
      | succ d ih =>
        intro q J hq h1
        obtain ⟨z0, z1, z2⟩ := q01 q (by omega)
        have hc := cat_3 f3 q
        have hYJ := CY_w hY h1
        rw [l_X10_layAll_243, hYJ.2.1.2.1, nI_1]
        refine zin (by first | omega | decide | (simp (maxSteps := 400000) (disch := omega) only [q_lit, q_neg, nI_ltI, nI_leI, nI_eq, nI_add, pk_mul, pk_sub, nI_clamp, vp_q, zu_same, zu_nc, zu_nj, ng_lt, ng_le, ng_gt, ng_ge, ng_eq, ng_qe, ng_ee, ng_add, not_false_eq_true, not_true_eq_false, ne_eq]; done) | (simp (maxSteps := 400000) (disch := omega) only [q_lit, q_neg, nI_ltI, nI_leI, nI_eq, nI_add, pk_mul, pk_sub, nI_clamp, vp_q, zu_same, zu_nc, zu_nj, ng_lt, ng_le, ng_gt, ng_ge, ng_eq, ng_qe, ng_ee, ng_add, not_false_eq_true, not_true_eq_false, ne_eq]; omega)) (s_sd (s := 3) (p := 0) hYJ.2.1 (by omega) z0 z1 z2 (by decide) (by omega) (by omega) (fun z => zin (by decide) ?_) (fun z => zip rfl (ih (q + 1) J (by omega) ?_)))
        · refine s_po (op := 52) (h := 0) h1 (by decide) (by omega) (by rw [List.length_append, L]; omega) (fun J2 h2 => ih (q + 1) J2 (by omega) ?_)
          rw [cat, if_pos z, ← List.append_assoc]; exact h2
        · rw [cat, if_neg z, List.append_nil]; exact h1
    exact ⟨_, lp w 0 J (by omega) (by rw [cat, List.append_nil]; exact hW)⟩
  have frm : ∀ {G : zI}, (∀ c j, ¬ (c = 191 ∨ c = 192 ∨ c = 193 ∨ c = 195) → ¬ (c = 155 ∧ (j = 47 ∨ j = 48)) → G c j = I c j) → CY A m B w F G := fun f => CY_c hY (fun c j a => f c j (by omega) (by omega))
  -- caught pads
  have l4 : ∀ d i G J, i + d = A 0 3 → RLw ok (pfC A m B w F i) G J → (∀ c j, ¬ (c = 191 ∨ c = 192 ∨ c = 193 ∨ c = 195) → ¬ (c = 155 ∧ (j = 47 ∨ j = 48)) → G c j = I c j) → RSw ok A m B w F (A 0 2 + 1) (A 0 2) i G → G 155 47 = nI (nsp m B w (A 0 2) + ncp A m B w i) → l_X10_layAll_165 K (d + 1) (nI m) (nI i) J P := by
    intro d
    induction d with
    | zero =>
      intro i G J hi hW f hS h47
      obtain rfl : i = A 0 3 := by omega
      have L := len_pC hB hF (A 0 3) (Nat.le_refl _)
      have hYJ := CY_w (frm f) hW
      rw [l_X10_layAll_165, nI_clamp (by omega), hYJ.1.2.2.2.1, hW.1, L]
      have hW2 : RLw ok (pfC A m B w F (A 0 3)) (zu G 155 48 (nI (CPp A m B w F (A 0 3)))) (zu J 155 48 (nI (CPp A m B w F (A 0 3)))) := RLw_u hW (by omega) (by omega) (by omega)
      have f2 : ∀ c j, ¬ (c = 191 ∨ c = 192 ∨ c = 193 ∨ c = 195) → ¬ (c = 155 ∧ (j = 47 ∨ j = 48)) → zu G 155 48 (nI (CPp A m B w F (A 0 3))) c j = I c j := fun c j a b => by rw [zu_ne (by omega)]; exact f c j a b
      refine ⟨vp_in_nI hm (by decide), zip (by first | omega | decide | (simp (maxSteps := 400000) (disch := omega) only [q_lit, q_neg, nI_ltI, nI_leI, nI_eq, nI_add, pk_mul, pk_sub, nI_clamp, vp_q, zu_same, zu_nc, zu_nj, ng_lt, ng_le, ng_gt, ng_ge, ng_eq, ng_qe, ng_ee, ng_add, not_false_eq_true, not_true_eq_false, ne_eq]; done) | (simp (maxSteps := 400000) (disch := omega) only [q_lit, q_neg, nI_ltI, nI_leI, nI_eq, nI_add, pk_mul, pk_sub, nI_clamp, vp_q, zu_same, zu_nc, zu_nj, ng_lt, ng_le, ng_gt, ng_ge, ng_eq, ng_qe, ng_ee, ng_add, not_false_eq_true, not_true_eq_false, ne_eq]; omega)) (l5 _ _ hW2 (frm f2) zu_same (fun J' h' => k _ J' h' f2 ?_ ?_ zu_same))⟩
      · obtain ⟨s1, s2, s3, s4, s5, s6, s7⟩ := hS
        exact ⟨fun p a b c => by rw [zu_nc (by omega)]; exact s1 p a b c, fun p a b c => by rw [zu_nc (by omega)]; exact s2 p a b c, fun p a b c => by rw [zu_nc (by omega)]; exact s3 p a b c, fun p a b c => by rw [zu_nc (by omega)]; exact s4 p a b c, fun o p a b c d => by rw [zu_nc (by omega)]; exact s5 o p a b c d, fun o p a b => by rw [zu_nc (by omega)]; exact s6 o p a b, fun o p a b => by rw [zu_nc (by omega)]; exact s7 o p a b⟩
      · rw [zu_nj (by omega)]; exact h47
    | succ d ih =>
      intro i G J hi hW f hS h47
      have hYG := frm f
      have hYJ := CY_w hYG hW
      have L := len_pC hB hF i (by omega)
      have bL := bC i (by omega)
      obtain ⟨t1, t2⟩ := hk_t hB (hH i (by omega))
      have c5 := cnq_le (B := B) (m := m) (s := 5) (p := A 3 (4 * i + 2)) w
      have e8 : (8 : Int32) * nI m + nI i = nI (8 * m + i) := by rw [show (8 : Int32) = nI 8 from rfl, pk_mul, nI_add]
      have nc := ncp_le (A := A) (B := B) (m := m) (w := w) i
      rw [l_X10_layAll_165, nI_clamp (by omega), hYJ.1.2.2.2.1, nI_1, e8, nI_clamp (by omega), (hYJ.1.2.2.2.2.2 i (by omega)).2.2.1, hYJ.2.1.2.1]
      refine ⟨vp_in_nI hm (by decide), zin (by first | omega | decide | (simp (maxSteps := 400000) (disch := omega) only [q_lit, q_neg, nI_ltI, nI_leI, nI_eq, nI_add, pk_mul, pk_sub, nI_clamp, vp_q, zu_same, zu_nc, zu_nj, ng_lt, ng_le, ng_gt, ng_ge, ng_eq, ng_qe, ng_ee, ng_add, not_false_eq_true, not_true_eq_false, ne_eq]; done) | (simp (maxSteps := 400000) (disch := omega) only [q_lit, q_neg, nI_ltI, nI_leI, nI_eq, nI_add, pk_mul, pk_sub, nI_clamp, vp_q, zu_same, zu_nc, zu_nj, ng_lt, ng_le, ng_gt, ng_ge, ng_eq, ng_qe, ng_ee, ng_add, not_false_eq_true, not_true_eq_false, ne_eq]; omega)) ⟨vp_in_nI (by omega) (by decide), s_hm (s := 5) hYJ.2.1 hQ (by decide) hm (by omega) ?_⟩⟩
      by_cases e : cnq B m 5 (A 3 (4 * i + 2)) w = 0
      · refine zip (by rw [e]; decide) (ih (i + 1) G J (by omega) ?_ f ?_ (by rw [ncp_s, if_pos e]; exact h47))
        · unfold pfC at hW ⊢
          rw [cat, cpL, if_pos e, List.append_nil]; exact hW
        · obtain ⟨s1, s2, s3, s4, s5, s6, s7⟩ := hS
          refine ⟨s1, s2, s3, fun q a b c => s4 q a b (c.imp id (fun z => ?_)), s5, s6, fun o q a b => s7 o q ?_ b⟩
          · by_cases e2 : q = i
            · rw [e2] at b; omega
            · omega
          · by_cases e2 : q = i
            · rw [e2] at b; omega
            · omega
      · refine zin (by first | omega | decide | (simp (maxSteps := 400000) (disch := omega) only [q_lit, q_neg, nI_ltI, nI_leI, nI_eq, nI_add, pk_mul, pk_sub, nI_clamp, vp_q, zu_same, zu_nc, zu_nj, ng_lt, ng_le, ng_gt, ng_ge, ng_eq, ng_qe, ng_ee, ng_add, not_false_eq_true, not_true_eq_false, ne_eq]; done) | (simp (maxSteps := 400000) (disch := omega) only [q_lit, q_neg, nI_ltI, nI_leI, nI_eq, nI_add, pk_mul, pk_sub, nI_clamp, vp_q, zu_same, zu_nc, zu_nj, ng_lt, ng_le, ng_gt, ng_ge, ng_eq, ng_qe, ng_ee, ng_add, not_false_eq_true, not_true_eq_false, ne_eq]; omega)) ⟨vp_in_nI (by omega) (by decide), vp_in_nI (by omega) (by decide), ?_⟩
        rw [(hYJ.1.2.2.2.2.2 i (by omega)).2.2.1]
        have bg := (bG _ (Nat.le_of_lt t1)).1
        have lc := len_c (B := B) (m := m) (s := 5) (p := A 3 (4 * i + 2)) (f := fun q => e2 55 q 0) (k := 2) (fun q => rfl) w
        refine s_pad (s := 5) (lg := decide (F 2 i = 1)) (ps := Gp A m B w F (A 3 (4 * i + 2))) (n := nsp m B w (A 0 2) + ncp A m B w i) (f := fun q => if atq B m 5 (A 3 (4 * i + 2)) q then e2 55 q 0 else []) hm hYG hQ (Or.inr rfl) (by omega) (by omega) (by omega) h47 ?_ (fun o => hS.1 _ (by omega) (Or.inr t2) (Or.inl o)) (by omega) (by rw [L]; omega) (by funext q; rw [if_neg (by decide : ¬ (5 : Nat) = 1)]) hW (fun G' J' h' f' y1 y2 y3 => ih (i + 1) G' J' (by omega) ?_ (fun c j a b => by rw [f' c j (by omega) (by omega) (by omega)]; exact f c j a b) ?_ (by rw [ncp_s, if_neg e]; exact y2))
        · rw [hYG.2.2.2.2 i (by omega) (by omega)]
          rcases f01 hF.1 2 i with z | z
          · rw [z, if_neg (by decide)]; rfl
          · rw [z, if_pos (by decide)]; rfl
        · unfold pfC at h' L ⊢
          rw [cat, cpL, if_neg e, ← List.append_assoc, ← List.append_assoc]
          rw [List.length_append, L, lc] at h'
          exact h'
        · obtain ⟨s1, s2, s3, s4, s5, s6, s7⟩ := hS
          refine ⟨fun p a b c => by rw [f' _ _ (by omega) (by omega) (by omega)]; exact s1 p a b c, fun p a b c => by rw [f' _ _ (by omega) (by omega) (by omega)]; exact s2 p a b c, fun p a b c => ?_, fun q a b c => ?_, fun o p a b c d => by rw [f' _ _ (by omega) (by omega) (by omega)]; exact s5 o p a b c d, fun o p a b => ?_, fun o q a b => ?_⟩
          · have := nsp_ll b a
            rw [f' _ _ (by omega) (by omega) (by omega)]; exact s3 p a b c
          · by_cases e2 : q = i
            · subst e2; rw [y1, L]
            · have := ncp_ne b (by omega : 0 < cnq B m 5 (A 3 (4 * i + 2)) w) e2
              rw [f' _ _ (by omega) (by omega) (by omega)]; exact s4 q a b (c.imp id (fun z => by omega))
          · have := nsp_ll b a
            rw [f' _ _ (by omega) (by omega) (by omega)]; exact s6 o p a b
          · by_cases e2 : q = i
            · subst e2
              rw [y3 o, List.length_append, L, lc]
            · have := ncp_ne b (by omega : 0 < cnq B m 5 (A 3 (4 * i + 2)) w) e2
              rw [f' _ _ (by omega) (by omega) (by omega)]; exact s7 o q (by omega) b
  -- side pads
  have l3 : ∀ d i G J, i + d = A 0 2 → RLw ok (pfS A m B w F i) G J → (∀ c j, ¬ (c = 191 ∨ c = 192 ∨ c = 193 ∨ c = 195) → ¬ (c = 155 ∧ (j = 47 ∨ j = 48)) → G c j = I c j) → RSw ok A m B w F (A 0 2 + 1) i 0 G → G 155 47 = nI (nsp m B w i) → l_X10_layAll_104 K (d + 1) (nI m) (nI i) J P := by
    intro d
    induction d with
    | zero =>
      intro i G J hi hW f hS h47
      obtain rfl : i = A 0 2 := by omega
      have hYJ := CY_w (frm f) hW
      rw [l_X10_layAll_104, nI_clamp (by omega), hYJ.1.2.2.1]
      refine ⟨vp_in_nI hm (by decide), zip (by first | omega | decide | (simp (maxSteps := 400000) (disch := omega) only [q_lit, q_neg, nI_ltI, nI_leI, nI_eq, nI_add, pk_mul, pk_sub, nI_clamp, vp_q, zu_same, zu_nc, zu_nj, ng_lt, ng_le, ng_gt, ng_ge, ng_eq, ng_qe, ng_ee, ng_add, not_false_eq_true, not_true_eq_false, ne_eq]; done) | (simp (maxSteps := 400000) (disch := omega) only [q_lit, q_neg, nI_ltI, nI_leI, nI_eq, nI_add, pk_mul, pk_sub, nI_clamp, vp_q, zu_same, zu_nc, zu_nj, ng_lt, ng_le, ng_gt, ng_ge, ng_eq, ng_qe, ng_ee, ng_add, not_false_eq_true, not_true_eq_false, ne_eq]; omega)) ⟨_, l4 (A 0 3) 0 G J (by omega) ?_ f hS h47⟩⟩
      unfold pfC
      rw [cat, List.append_nil]; exact hW
    | succ d ih =>
      intro i G J hi hW f hS h47
      have hYG := frm f
      have hYJ := CY_w hYG hW
      have L := len_pS hB hF i (by omega)
      have bL := (bG i (by omega)).2
      have c5 := cnq_le (B := B) (m := m) (s := 1) (p := i) w
      have ns := nsp_le (B := B) (m := m) (w := w) i
      rw [l_X10_layAll_104, nI_clamp (by omega), hYJ.1.2.2.1, nI_1, e400, nI_clamp (by omega), (hYJ.1.2.2.2.2.1 i (by omega)).2, hYJ.2.1.2.1]
      refine ⟨vp_in_nI hm (by decide), zin (by first | omega | decide | (simp (maxSteps := 400000) (disch := omega) only [q_lit, q_neg, nI_ltI, nI_leI, nI_eq, nI_add, pk_mul, pk_sub, nI_clamp, vp_q, zu_same, zu_nc, zu_nj, ng_lt, ng_le, ng_gt, ng_ge, ng_eq, ng_qe, ng_ee, ng_add, not_false_eq_true, not_true_eq_false, ne_eq]; done) | (simp (maxSteps := 400000) (disch := omega) only [q_lit, q_neg, nI_ltI, nI_leI, nI_eq, nI_add, pk_mul, pk_sub, nI_clamp, vp_q, zu_same, zu_nc, zu_nj, ng_lt, ng_le, ng_gt, ng_ge, ng_eq, ng_qe, ng_ee, ng_add, not_false_eq_true, not_true_eq_false, ne_eq]; omega)) ⟨vp_in_nI (by omega) (by decide), ?_⟩⟩
      have same : cnq B m 1 i w = 0 → l_X10_layAll_104 K (d + 1) (nI m) (nI (i + 1)) J P := fun e => by
        refine ih (i + 1) G J (by omega) ?_ f ?_ (by rw [nsp_s, if_pos e]; exact h47)
        · unfold pfS at hW ⊢
          rw [cat, spL, if_pos e, List.append_nil]; exact hW
        · obtain ⟨s1, s2, s3, s4, s5, s6, s7⟩ := hS
          refine ⟨s1, s2, fun q a b c => s3 q a b (c.imp id (fun z => ?_)), s4, s5, fun o q a b => s6 o q ?_ b, s7⟩
          · by_cases e2 : q = i
            · rw [e2] at b; omega
            · omega
          · by_cases e2 : q = i
            · rw [e2] at b; omega
            · omega
      by_cases hz : A 2 i = 0
      · rw [if_pos hz]
        refine zip rfl (same ?_)
        by_cases z2 : cnq B m 1 i w = 0
        · exact z2
        · have := (sd_ok hQ (p := i) (by omega)).2.1; omega
      · rw [if_neg hz]
        refine zin (by decide) (s_hm (s := 1) hYJ.2.1 hQ (by decide) hm (by omega) ?_)
        by_cases e : cnq B m 1 i w = 0
        · exact zip (by rw [e]; decide) (same e)
        · obtain ⟨g1, g2, g3⟩ := sd_ok hQ (p := i) (by omega)
          obtain ⟨t1, t2, t3⟩ := tg_n hB (hJ i (by omega)) g2 (njp_1 g3)
          refine zin (by first | omega | decide | (simp (maxSteps := 400000) (disch := omega) only [q_lit, q_neg, nI_ltI, nI_leI, nI_eq, nI_add, pk_mul, pk_sub, nI_clamp, vp_q, zu_same, zu_nc, zu_nj, ng_lt, ng_le, ng_gt, ng_ge, ng_eq, ng_qe, ng_ee, ng_add, not_false_eq_true, not_true_eq_false, ne_eq]; done) | (simp (maxSteps := 400000) (disch := omega) only [q_lit, q_neg, nI_ltI, nI_leI, nI_eq, nI_add, pk_mul, pk_sub, nI_clamp, vp_q, zu_same, zu_nc, zu_nj, ng_lt, ng_le, ng_gt, ng_ge, ng_eq, ng_qe, ng_ee, ng_add, not_false_eq_true, not_true_eq_false, ne_eq]; omega)) (s_mta (i := 0) hm hYJ.1 hB (by omega) g2 (njp_1 g3) ?_)
          rw [t1]
          have bg := (bG _ (Nat.le_of_lt t2)).1
          have lc := len_c (B := B) (m := m) (s := 1) (p := i) (f := fun q => e3 q 1 0) (k := 3) (fun q => rfl) w
          refine s_pad (s := 1) (lg := decide (F 1 i = 1)) (ps := Gp A m B w F (tgn A i 0)) (n := nsp m B w i) (f := fun q => if atq B m 1 i q then e3 q 1 0 else []) hm hYG hQ (Or.inl rfl) (by omega) (by omega) (by omega) h47 ?_ (fun o => hS.1 _ (by omega) (Or.inr t3) (Or.inl o)) (by omega) (by rw [L]; omega) (by funext q; rw [if_pos rfl]) hW (fun G' J' h' f' y1 y2 y3 => ih (i + 1) G' J' (by omega) ?_ (fun c j a b => by rw [f' c j (by omega) (by omega) (by omega)]; exact f c j a b) ?_ (by rw [nsp_s, if_neg e]; exact y2))
          · rw [hYG.2.2.2.1 i (by omega) (by omega)]
            rcases f01 hF.1 1 i with z | z
            · rw [z, if_neg (by decide)]; rfl
            · rw [z, if_pos (by decide)]; rfl
          · unfold pfS at h' L ⊢
            rw [cat, spL, if_neg e, ← List.append_assoc, ← List.append_assoc]
            rw [List.length_append, L, lc] at h'
            exact h'
          · obtain ⟨s1, s2, s3, s4, s5, s6, s7⟩ := hS
            have nlt := nsp_ll (p := i) (q := A 0 2) (by omega : 0 < cnq B m 1 i w) (by omega)
            refine ⟨fun p a b c => by rw [f' _ _ (by omega) (by omega) (by omega)]; exact s1 p a b c, fun p a b c => by rw [f' _ _ (by omega) (by omega) (by omega)]; exact s2 p a b c, fun p a b c => ?_, fun q a b c => by rw [f' _ _ (by omega) (by omega) (by omega)]; exact s4 q a b c, fun o p a b c d => by rw [f' _ _ (by omega) (by omega) (by omega)]; exact s5 o p a b c d, fun o p a b => ?_, fun o q a b => by rw [f' _ _ (by omega) (by omega) (by omega)]; exact s7 o q a b⟩
            · by_cases e2 : p = i
              · subst e2; rw [y1, L]
              · have := nsp_ne b (by omega : 0 < cnq B m 1 i w) e2
                rw [f' _ _ (by omega) (by omega) (by omega)]; exact s3 p a b (c.imp id (fun z => by omega))
            · by_cases e2 : p = i
              · subst e2
                rw [y3 o, List.length_append, L, lc]
              · have := nsp_ne b (by omega : 0 < cnq B m 1 i w) e2
                rw [f' _ _ (by omega) (by omega) (by omega)]; exact s6 o p (by omega) b
  -- groups
  have l2 : ∀ d i G J, i + d = A 0 2 → RLw ok (pfG A m B w F i) G J → (∀ c j, ¬ (c = 191 ∨ c = 192 ∨ c = 193 ∨ c = 195) → ¬ (c = 155 ∧ (j = 47 ∨ j = 48)) → G c j = I c j) → RSw ok A m B w F i 0 0 G → G 155 47 = 0 → l_X10_layAll_50 K (d + 1) (nI m) (nI i) J P := by
    intro d
    induction d with
    | zero =>
      intro i G J hi hW f hS h47
      obtain rfl : i = A 0 2 := by omega
      have hYJ := CY_w (frm f) hW
      have L := len_pG hB hF (A 0 2) (by omega)
      rw [l_X10_layAll_50, nI_clamp (by omega), hYJ.1.2.2.1, nI_clamp (by omega), hW.1, L]
      have hW2 : RLw ok (pfG A m B w F (A 0 2)) (zu G 191 (A 0 2) (nI (Gp A m B w F (A 0 2)))) (zu J 191 (A 0 2) (nI (Gp A m B w F (A 0 2)))) := RLw_u hW (by omega) (by omega) (by omega)
      refine ⟨vp_in_nI hm (by decide), zip (by first | omega | decide | (simp (maxSteps := 400000) (disch := omega) only [q_lit, q_neg, nI_ltI, nI_leI, nI_eq, nI_add, pk_mul, pk_sub, nI_clamp, vp_q, zu_same, zu_nc, zu_nj, ng_lt, ng_le, ng_gt, ng_ge, ng_eq, ng_qe, ng_ee, ng_add, not_false_eq_true, not_true_eq_false, ne_eq]; done) | (simp (maxSteps := 400000) (disch := omega) only [q_lit, q_neg, nI_ltI, nI_leI, nI_eq, nI_add, pk_mul, pk_sub, nI_clamp, vp_q, zu_same, zu_nc, zu_nj, ng_lt, ng_le, ng_gt, ng_ge, ng_eq, ng_qe, ng_ee, ng_add, not_false_eq_true, not_true_eq_false, ne_eq]; omega)) ⟨vp_in_nI hm (by decide), vp_in_nI (by omega) (by decide), ⟨_, l3 (A 0 2) 0 (zu G 191 (A 0 2) (nI (Gp A m B w F (A 0 2)))) _ (by omega) ?_ (fun c j a b => by rw [zu_nc (by omega)]; exact f c j a b) ?_ (by rw [zu_nc (by omega)]; exact h47)⟩⟩⟩
      · have e : pfS A m B w F 0 = pfG A m B w F (A 0 2) := by unfold pfS; rw [cat, List.append_nil]
        rw [e]; exact hW2
      · obtain ⟨s1, s2, s3, s4, s5, s6, s7⟩ := hS
        refine ⟨fun p a b c => ?_, fun p a b c => by rw [zu_nc (by omega)]; exact s2 p a b (c.imp id (fun z => by omega)), fun p a b c => by rw [zu_nc (by omega)]; exact s3 p a b c, fun p a b c => by rw [zu_nc (by omega)]; exact s4 p a b c, fun o p a b c d => by rw [zu_nc (by omega)]; exact s5 o p a (by omega) c d, fun o p a b => by rw [zu_nc (by omega)]; exact s6 o p a b, fun o p a b => by rw [zu_nc (by omega)]; exact s7 o p a b⟩
        by_cases e : p = A 0 2
        · rw [e, zu_same]
        · rw [zu_nj e]; exact s1 p a b (c.imp id (fun z => by omega))
    | succ d ih =>
      intro i G J hi hW f hS h47
      have hYG := frm f
      have hYJ := CY_w hYG hW
      have L := len_pG hB hF i (by omega)
      rw [l_X10_layAll_50, nI_clamp (by omega), hYJ.1.2.2.1, nI_1, e400, nI_clamp (by omega), nI_clamp (by omega), (hYJ.1.2.2.2.2.1 i (by omega)).2]
      refine ⟨vp_in_nI hm (by decide), zin (by first | omega | decide | (simp (maxSteps := 400000) (disch := omega) only [q_lit, q_neg, nI_ltI, nI_leI, nI_eq, nI_add, pk_mul, pk_sub, nI_clamp, vp_q, zu_same, zu_nc, zu_nj, ng_lt, ng_le, ng_gt, ng_ge, ng_eq, ng_qe, ng_ee, ng_add, not_false_eq_true, not_true_eq_false, ne_eq]; done) | (simp (maxSteps := 400000) (disch := omega) only [q_lit, q_neg, nI_ltI, nI_leI, nI_eq, nI_add, pk_mul, pk_sub, nI_clamp, vp_q, zu_same, zu_nc, zu_nj, ng_lt, ng_le, ng_gt, ng_ge, ng_eq, ng_qe, ng_ee, ng_add, not_false_eq_true, not_true_eq_false, ne_eq]; omega)) ⟨vp_in_nI (by omega) (by decide), ?_⟩⟩
      obtain ⟨s1, s2, s3, s4, s5, s6, s7⟩ := hS
      by_cases hz : A 2 i = 0
      · rw [if_pos hz]
        refine zip rfl (ih (i + 1) G J (by omega) ?_ f ⟨fun p a b c => s1 p a b (c.imp id (fun z => ?_)), fun p a b c => s2 p a b (c.imp id (fun z => ?_)), s3, s4, fun o p a b c => s5 o p a ?_ c, s6, s7⟩ h47)
        · have e : pfG A m B w F (i + 1) = pfG A m B w F i := by unfold pfG; rw [cat, grpL, if_pos hz, List.append_nil]
          rw [e]; exact hW
        · by_cases e2 : p = i
          · rw [e2] at b; omega
          · omega
        · by_cases e2 : p = i
          · rw [e2] at b; omega
          · omega
        · by_cases e2 : p = i
          · rw [e2] at c; omega
          · omega
      · rw [if_neg hz]
        refine zin (by decide) (s_grp hm hB (hJ i (by omega)) hF hYG hQ (by omega) (by omega) L hW (fun o t a b => s1 t (by omega) (Or.inr b) (Or.inl o)) (fun o b => s3 i (by omega) b (Or.inl o)) (fun G' J' h' f' y1 y2 y3 => ih (i + 1) G' J' (by omega) ?_ (fun c j a b => by rw [f' c j (by omega)]; exact f c j a b) ⟨fun p a b c => ?_, fun p a b c => ?_, fun p a b c => by rw [f' _ _ (by omega)]; exact s3 p a b c, fun p a b c => by rw [f' _ _ (by omega)]; exact s4 p a b c, fun o p a b c d => ?_, fun o p a b => absurd a (by omega), fun o p a b => absurd a (by omega)⟩ (by rw [f' _ _ (by omega)]; exact h47)))
        · unfold pfG at h' ⊢
          rw [cat, ← List.append_assoc]; exact h'
        · by_cases e2 : p = i
          · rw [e2]; exact y1
          · rw [f' _ _ (by omega)]; exact s1 p a b (c.imp id (fun z => by omega))
        · by_cases e2 : p = i
          · rw [e2]; exact y2
          · rw [f' _ _ (by omega)]; exact s2 p a b (c.imp id (fun z => by omega))
        · by_cases e2 : p = i
          · subst e2; exact y3 o d
          · rw [f' _ _ (by omega)]; exact s5 o p a (by omega) c d
  -- enters
  unfold w_X10_layAll
  have hW0 : RLw ok [] (zu I 155 47 0) (zu (zu I 155 42 0) 155 47 0) := ⟨by rw [zu_nj (by omega), zu_same]; rfl, fun o i hi => absurd hi (by simp), fun c j a b d => by
    by_cases e : c = 155 ∧ j = 47
    · rw [e.1, e.2, zu_same, zu_same]
    · rw [zu_ne e, zu_ne d, zu_ne e]⟩
  have f0 : ∀ c j, ¬ (c = 191 ∨ c = 192 ∨ c = 193 ∨ c = 195) → ¬ (c = 155 ∧ (j = 47 ∨ j = 48)) → zu I 155 47 0 c j = I c j := fun c j a b => zu_ne (by omega)
  have hS0 : RSw ok A m B w F 0 0 0 (zu I 155 47 0) := by
    obtain ⟨s1, s2, s3, s4, s5, s6, s7⟩ := hR
    exact ⟨fun p a b c => by rw [zu_nc (by omega)]; exact s1 p a b c, fun p a b c => by rw [zu_nc (by omega)]; exact s2 p a b c, fun p a b c => by rw [zu_nc (by omega)]; exact s3 p a b c, fun p a b c => by rw [zu_nc (by omega)]; exact s4 p a b c, fun o p a b c d => by rw [zu_nc (by omega)]; exact s5 o p a b c d, fun o p a b => by rw [zu_nc (by omega)]; exact s6 o p a b, fun o p a b => by rw [zu_nc (by omega)]; exact s7 o p a b⟩
  have f3 : ∀ q, (fE m B q).length ≤ 3 := fun q => by unfold fE; split <;> simp [e2]
  have lp : ∀ d q J, q + d = w → RLw ok (cat (fE m B) q) (zu I 155 47 0) J → l_X10_layAll_12 K (d + 1) (nI m) (nI q) J P := by
    intro d
    induction d with
    | zero =>
      intro q J hq h1
      obtain rfl : q = w := by omega
      rw [l_X10_layAll_12]
      refine zip (by rw [(CY_w (frm f0) h1).2.1.2.1]; first | omega | decide | (simp (maxSteps := 400000) (disch := omega) only [q_lit, q_neg, nI_ltI, nI_leI, nI_eq, nI_add, pk_mul, pk_sub, nI_clamp, vp_q, zu_same, zu_nc, zu_nj, ng_lt, ng_le, ng_gt, ng_ge, ng_eq, ng_qe, ng_ee, ng_add, not_false_eq_true, not_true_eq_false, ne_eq]; done) | (simp (maxSteps := 400000) (disch := omega) only [q_lit, q_neg, nI_ltI, nI_leI, nI_eq, nI_add, pk_mul, pk_sub, nI_clamp, vp_q, zu_same, zu_nc, zu_nj, ng_lt, ng_le, ng_gt, ng_ge, ng_eq, ng_qe, ng_ee, ng_add, not_false_eq_true, not_true_eq_false, ne_eq]; omega)) ⟨_, l2 (A 0 2) 0 _ J (by omega) ?_ f0 hS0 zu_same⟩
      unfold pfG
      rw [cat, List.append_nil]; exact h1
    | succ d ih =>
      intro q J hq h1
      obtain ⟨z0, z1, z2⟩ := q01 q (by omega)
      have hc := cat_3 f3 q
      have hYJ := CY_w (frm f0) h1
      rw [l_X10_layAll_12, hYJ.2.1.2.1, nI_1]
      refine zin (by first | omega | decide | (simp (maxSteps := 400000) (disch := omega) only [q_lit, q_neg, nI_ltI, nI_leI, nI_eq, nI_add, pk_mul, pk_sub, nI_clamp, vp_q, zu_same, zu_nc, zu_nj, ng_lt, ng_le, ng_gt, ng_ge, ng_eq, ng_qe, ng_ee, ng_add, not_false_eq_true, not_true_eq_false, ne_eq]; done) | (simp (maxSteps := 400000) (disch := omega) only [q_lit, q_neg, nI_ltI, nI_leI, nI_eq, nI_add, pk_mul, pk_sub, nI_clamp, vp_q, zu_same, zu_nc, zu_nj, ng_lt, ng_le, ng_gt, ng_ge, ng_eq, ng_qe, ng_ee, ng_add, not_false_eq_true, not_true_eq_false, ne_eq]; omega)) (s_sd (s := 2) (p := 0) hYJ.2.1 (by omega) z0 z1 z2 (by decide) (by omega) (by omega) (fun z => zin (by decide) ?_) (fun z => zip rfl (ih (q + 1) J (by omega) ?_)))
      · refine s_po (op := 50) (h := 0) h1 (by decide) (by omega) (by omega) (fun J2 h2 => ih (q + 1) J2 (by omega) ?_)
        rw [cat, fE, if_pos z]; exact h2
      · rw [cat, fE, if_neg z, List.append_nil]; exact h1
  exact ⟨_, lp w 0 _ (by omega) (by rw [cat]; exact hW0)⟩
