/-! PURE 72: RUN: what is told behind an INSTRUCTION, on both sides -/
/-- the cell that a STORE changed: a FIELD, or an INT of a ROW -/
abbrev Kc : Type := Nat ⊕ (Nat × Nat)
def kcv : Kc → nuZ → Int32
  | Sum.inl b, z => z 0 b
  | Sum.inr (r, i), z => z 1 (50 * r + i)
def kcL : Kc → nuN → zI → Prop
  | Sum.inl b, _, I => b < 8 ∧ I 114 13 = nI b
  | Sum.inr (r, i), n, I => r < n 2 ∧ i < n (10 + r) ∧ I 114 13 = nI (8 + 50 * r + i)
def kcM : Kc → nuN → Nat → zI → Prop
  | Sum.inl b, _, q, I => b < 8 ∧ I 206 q = 0 ∧ I 207 q = nI b
  | Sum.inr (r, i), n, q, I => r < n 2 ∧ i < n (10 + r) ∧ I 206 q = nI (r + 1) ∧ I 207 q = nI i
abbrev Bst : Type := nuN × nuZ × List Va
def bhT (B : Nat → Nat → Nat) (m p : Nat) (jm ov cv : Int32) (xq : Nat → Int32) (t : Bst) : Nat → Bst
  | 0 => t
  | q + 1 =>
    if atq B m 4 p q then (rcN (rcN (bhT B m p jm ov cv xq t q).1), rcZ (rcN (bhT B m p jm ov cv xq t q).1) (rcZ (bhT B m p jm ov cv xq t q).1 (bhT B m p jm ov cv xq t q).2.1 q ov) q cv, (bhT B m p jm ov cv xq t q).2.2)
    else if atq B m 7 p q then (rcN (bhT B m p jm ov cv xq t q).1, rcZ (bhT B m p jm ov cv xq t q).1 (bhT B m p jm ov cv xq t q).2.1 q (lv ((bhT B m p jm ov cv xq t q).2.2.headD (Sum.inl 0))), Sum.inl (xq q) :: (bhT B m p jm ov cv xq t q).2.2.tail)
    else if atq B m 1 p q then (rcN (bhT B m p jm ov cv xq t q).1, rcZ (bhT B m p jm ov cv xq t q).1 (bhT B m p jm ov cv xq t q).2.1 q jm, (bhT B m p jm ov cv xq t q).2.2)
    else bhT B m p jm ov cv xq t q
theorem bh_i {B : Nat → Nat → Nat} {m p : Nat} {jm ov cv : Int32} {xq : Nat → Int32} {t : Bst} : ∀ q, t.1 4 ≤ (bhT B m p jm ov cv xq t q).1 4 ∧ (bhT B m p jm ov cv xq t q).1 4 ≤ t.1 4 + 2 * q ∧ (∀ i, i ≠ 4 → (bhT B m p jm ov cv xq t q).1 i = t.1 i) ∧ (∀ c j, c < 3 → (bhT B m p jm ov cv xq t q).2.1 c j = t.2.1 c j)
  | 0 => ⟨Nat.le_refl _, Nat.le_refl _, fun _ _ => rfl, fun _ _ _ => rfl⟩
  | q + 1 => by
    obtain ⟨a, b, c, d⟩ := bh_i (B := B) (m := m) (p := p) (jm := jm) (ov := ov) (cv := cv) (xq := xq) (t := t) q
    rw [bhT]
    split
    · unfold rcN rcZ; dsimp only; rw [up1_s, up1_s]
      exact ⟨by omega, by omega, fun i hi => by rw [up1_n hi, up1_n hi]; exact c i hi, fun e j he => by rw [zu_nc (by omega), zu_nc (by omega), zu_nc (by omega), zu_nc (by omega)]; exact d e j he⟩
    · split
      · unfold rcN rcZ; dsimp only; rw [up1_s]
        exact ⟨by omega, by omega, fun i hi => by rw [up1_n hi]; exact c i hi, fun e j he => by rw [zu_nc (by omega), zu_nc (by omega)]; exact d e j he⟩
      · split
        · unfold rcN rcZ; dsimp only; rw [up1_s]
          exact ⟨by omega, by omega, fun i hi => by rw [up1_n hi]; exact c i hi, fun e j he => by rw [zu_nc (by omega), zu_nc (by omega)]; exact d e j he⟩
        · exact ⟨a, by omega, c, d⟩
/-- where a REPLACE stands the top is an INT, all along -/
theorem bh_s {B : Nat → Nat → Nat} {m p : Nat} {jm ov cv : Int32} {xq : Nat → Int32} {t : Bst} (h : ∃ y r, t.2.2 = Sum.inl y :: r) : ∀ q, ∃ y r, (bhT B m p jm ov cv xq t q).2.2 = Sum.inl y :: r ∧ r = t.2.2.tail
  | 0 => by obtain ⟨y, r, e⟩ := h; exact ⟨y, r, e, by rw [e]; rfl⟩
  | q + 1 => by
    obtain ⟨y, r, e, er⟩ := bh_s (B := B) (m := m) (p := p) (jm := jm) (ov := ov) (cv := cv) (xq := xq) h q
    rw [bhT]
    split
    · exact ⟨y, r, e, er⟩
    · split
      · exact ⟨xq q, r, by dsimp only; rw [e]; rfl, er⟩
      · split
        · exact ⟨y, r, e, er⟩
        · exact ⟨y, r, e, er⟩
theorem bh_n {B : Nat → Nat → Nat} {m p : Nat} {jm ov cv : Int32} {xq : Nat → Int32} {t : Bst} : ∀ {w : Nat}, (∀ q, q < w → ¬ (atq B m 4 p q ∨ atq B m 7 p q ∨ atq B m 1 p q)) → bhT B m p jm ov cv xq t w = t
  | 0, _ => rfl
  | w + 1, h => by
    have := h w (Nat.lt_succ_self w)
    rw [bhT, if_neg (fun y => this (Or.inl y)), if_neg (fun y => this (Or.inr (Or.inl y))), if_neg (fun y => this (Or.inr (Or.inr y)))]
    exact bh_n (fun q hq => h q (Nat.lt_succ_of_lt hq))
def BsL (I0 : zI) (k : Nat) (wt : nuN) (B : Nat → Nat → Nat) (m : Nat) : Prop := k = 2 → ∀ p, p < 400 → I0 (30 + 12 * m) p = 0 → ∀ q, q < wt m → ¬ (atq B m 4 p q ∨ atq B m 7 p q ∨ atq B m 1 p q ∨ atq B m 0 p q ∨ atq B m 6 p q)
theorem L_wh {I0 I : zI} {k lim m p : Nat} {wv n wt : nuN} {z : nuZ} {s : List Va} {l : Nat → Va} {fs : List Frm} {P : zP} {K : Int32 → zI → zP → Prop} (h : SL I0 k lim wv ((m, p, s, l) :: fs) n z I P) (hw : WtL I0 k wt m) (hp4 : p < 400) (k1 : k = 2 → ¬ I0 (26 + 12 * m) 5 = 0 → ¬ I0 (30 + 12 * m) p = 0 → K 1 I P) (k0 : wt m = 0 ∨ (k = 2 ∧ I0 (30 + 12 * m) p = 0) → K 0 I P) : w_X2_isWatchedHere (119 + 3 * fs.length) I P K := by
  obtain ⟨e, hf, hm, -⟩ := L_pl h
  have hk := h.1.1
  have hP := h.1.2.2.1
  have h2 := h.2.2.2.1.1.2.1
  dsimp only at h2
  unfold w_X2_isWatchedHere
  refine L_iw h hw (fun e2 e5 => zin (by decide) ⟨shF hf, _, h2, shM hm, _, pM6 hP hm, shW hm, ?_⟩) (fun e0 => zip rfl (k0 (Or.inl e0)))
  rw [e]
  unfold w_X8_isBusyAt
  refine zin (by first | omega | decide | (simp (maxSteps := 400000) (disch := omega) only [q_lit, q_neg, nI_ltI, nI_leI, nI_eq, nI_add, pk_mul, pk_sub, nI_clamp, vp_q, zu_same, zu_nc, zu_nj, ng_lt, ng_le, ng_gt, ng_ge, ng_eq, ng_qe, ng_ee, ng_add, not_false_eq_true, not_true_eq_false, ne_eq]; done) | (simp (maxSteps := 400000) (disch := omega) only [q_lit, q_neg, nI_ltI, nI_leI, nI_eq, nI_add, pk_mul, pk_sub, nI_clamp, vp_q, zu_same, zu_nc, zu_nj, ng_lt, ng_le, ng_gt, ng_ge, ng_eq, ng_qe, ng_ee, ng_add, not_false_eq_true, not_true_eq_false, ne_eq]; omega)) (zin (by first | omega | decide | (simp (maxSteps := 400000) (disch := omega) only [q_lit, q_neg, nI_ltI, nI_leI, nI_eq, nI_add, pk_mul, pk_sub, nI_clamp, vp_q, zu_same, zu_nc, zu_nj, ng_lt, ng_le, ng_gt, ng_ge, ng_eq, ng_qe, ng_ee, ng_add, not_false_eq_true, not_true_eq_false, ne_eq]; done) | (simp (maxSteps := 400000) (disch := omega) only [q_lit, q_neg, nI_ltI, nI_leI, nI_eq, nI_add, pk_mul, pk_sub, nI_clamp, vp_q, zu_same, zu_nc, zu_nj, ng_lt, ng_le, ng_gt, ng_ge, ng_eq, ng_qe, ng_ee, ng_add, not_false_eq_true, not_true_eq_false, ne_eq]; omega)) ⟨shW hm, _, pW3 hP hm, shW3 hm, by rw [zzW3 hm]; exact vp_in_nI hp4 (by decide), ?_⟩)
  rw [nI_clamp (by omega), L_s0 h (c := 30 + 12 * m) (by unfold rcL; omega)]
  by_cases e3 : I0 (30 + 12 * m) p = 0
  · exact zip e3 (zip rfl (k0 (Or.inr ⟨e2, e3⟩)))
  · exact zin e3 (zin (by decide) (k1 e2 e5 e3))
